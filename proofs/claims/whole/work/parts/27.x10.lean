def m_X10_init (l0 : Nat) : hM :=
  hnewA 22 400 fun v1 =>
  hpR 10 l0 0 v1 <|
  hnewA 20 2400 fun v2 =>
  hpR 10 l0 3 v2 <|
  hnewA 20 7 fun v3 =>
  hpR 10 l0 4 v3 <|
  hnewA 20 288 fun v4 =>
  hpR 10 l0 5 v4 <|
  hnewA 20 6 fun v5 =>
  hpR 10 l0 6 v5 <|
  hnewA 20 160 fun v6 =>
  hpR 10 l0 7 v6 <|
  hnewA 20 400 fun v7 =>
  hpR 10 l0 15 v7 <|
  hnewA 21 64 fun v8 =>
  hpR 10 l0 17 v8 <|
  hnewA 21 12 fun v9 =>
  hpR 10 l0 19 v9 <|
  hnewA 20 160 fun v10 =>
  hpR 10 l0 20 v10 <|
  hnewA 20 9 fun v11 =>
  hpR 10 l0 22 v11 <|
  hnewA 20 8 fun v12 =>
  hpR 10 l0 23 v12 <|
  hnewA 20 1880 fun v13 =>
  hpR 10 l0 24 v13 <|
  hnewA 20 8 fun v14 =>
  hpR 10 l0 26 v14 <|
  hnewA 20 8 fun v15 =>
  hpR 10 l0 27 v15 <|
  hnewA 20 72 fun v16 =>
  hpR 10 l0 29 v16 <|
  hnewA 20 2 fun v17 =>
  hpR 10 l0 32 v17 <|
  hnewA 20 9 fun v18 =>
  hpR 10 l0 33 v18 <|
  hnewA 20 94 fun v19 =>
  hpR 10 l0 38 v19 <|
  hnewA 20 640 fun v20 =>
  hpR 10 l0 40 v20 <|
  hnewA 20 4 fun v21 =>
  hpR 10 l0 41 v21 <|
  hnewA 23 4 fun v22 =>
  hpR 10 l0 42 v22 <|
  hret 0
set_option maxRecDepth 4000 in
set_option maxHeartbeats 20000000 in
theorem z_X10_init (d : Nat) (hd : 1 ≤ d) {C : hCx} (K : hCtx C.1 C.2.2.1 d 22 6635 "<init>" C) (X : hOK C cX10_init RX10 1 none) (l0 : Nat) (p0 : 0 < l0) : hSim C none 22 6635 1 0 [(0, vR C.1.1 l0)] [] 0 0 (m_X10_init l0) := by
  obtain ⟨⟨hf, hlo⟩, ⟨hc1, hc2⟩, hf1, hl1⟩ := K_room K (by omega)
  have hcs : 0 ≤ C.2.2.2.2.1.cells ∧ 0 ≤ C.2.2.2.2.1.slots := ⟨Nat.zero_le _, Nat.zero_le _⟩
  unfold m_X10_init
  refine s_aload_n (j := 0) (pc2 := 1) X dX10_init_0 rfl rfl ?_
  refine s_objI (pc2 := 4) X dX10_init_1 rfl ml_RX10_1 im_objectInit co_objectInit p0 hf1 hl1 (st_room (Nat.le_of_ble_eq_true rfl)) ?_
  refine s_aload_n (j := 0) (pc2 := 5) X dX10_init_4 rfl rfl ?_
  refine s_sipush (n := 400) (pc2 := 8) X dX10_init_5 rfl rfl ?_
  refine s_newa22 (N := 400) (pc2 := 10) X dX10_init_8 rfl rfl (by decide) ac_byte (by rw [hc1]; exact Nat.le_of_ble_eq_true rfl) (by rw [hc2]; exact Nat.le_of_ble_eq_true rfl) (fun v1 => ?_)
  refine s_cs 1 400 rfl rfl ?_
  refine s_putR (pc2 := 13) X dX10_init_10 rfl fl_RX10_7 (Or.inr ⟨K.2.2.2, _, rfl, rfl⟩) rfl ?_
  refine s_aload_n (j := 0) (pc2 := 14) X dX10_init_13 rfl rfl ?_
  refine s_sipush (n := 2400) (pc2 := 17) X dX10_init_14 rfl rfl ?_
  refine s_newa20 (N := 2400) (pc2 := 19) X dX10_init_17 rfl rfl (by decide) ac_int (by rw [hc1]; exact Nat.le_of_ble_eq_true rfl) (by rw [hc2]; exact Nat.le_of_ble_eq_true rfl) (fun v2 => ?_)
  refine s_cs 2 2800 rfl rfl ?_
  refine s_putR (pc2 := 22) X dX10_init_19 rfl fl_RX10_13 (Or.inr ⟨K.2.2.2, _, rfl, rfl⟩) rfl ?_
  refine s_aload_n (j := 0) (pc2 := 23) X dX10_init_22 rfl rfl ?_
  refine s_bipush (n := 7) (pc2 := 25) X dX10_init_23 rfl rfl ?_
  refine s_newa20 (N := 7) (pc2 := 27) X dX10_init_25 rfl rfl (by decide) ac_int (by rw [hc1]; exact Nat.le_of_ble_eq_true rfl) (by rw [hc2]; exact Nat.le_of_ble_eq_true rfl) (fun v3 => ?_)
  refine s_cs 3 2807 rfl rfl ?_
  refine s_putR (pc2 := 30) X dX10_init_27 rfl fl_RX10_17 (Or.inr ⟨K.2.2.2, _, rfl, rfl⟩) rfl ?_
  refine s_aload_n (j := 0) (pc2 := 31) X dX10_init_30 rfl rfl ?_
  refine s_sipush (n := 288) (pc2 := 34) X dX10_init_31 rfl rfl ?_
  refine s_newa20 (N := 288) (pc2 := 36) X dX10_init_34 rfl rfl (by decide) ac_int (by rw [hc1]; exact Nat.le_of_ble_eq_true rfl) (by rw [hc2]; exact Nat.le_of_ble_eq_true rfl) (fun v4 => ?_)
  refine s_cs 4 3095 rfl rfl ?_
  refine s_putR (pc2 := 39) X dX10_init_36 rfl fl_RX10_20 (Or.inr ⟨K.2.2.2, _, rfl, rfl⟩) rfl ?_
  refine s_aload_n (j := 0) (pc2 := 40) X dX10_init_39 rfl rfl ?_
  refine s_bipush (n := 6) (pc2 := 42) X dX10_init_40 rfl rfl ?_
  refine s_newa20 (N := 6) (pc2 := 44) X dX10_init_42 rfl rfl (by decide) ac_int (by rw [hc1]; exact Nat.le_of_ble_eq_true rfl) (by rw [hc2]; exact Nat.le_of_ble_eq_true rfl) (fun v5 => ?_)
  refine s_cs 5 3101 rfl rfl ?_
  refine s_putR (pc2 := 47) X dX10_init_44 rfl fl_RX10_23 (Or.inr ⟨K.2.2.2, _, rfl, rfl⟩) rfl ?_
  refine s_aload_n (j := 0) (pc2 := 48) X dX10_init_47 rfl rfl ?_
  refine s_sipush (n := 160) (pc2 := 51) X dX10_init_48 rfl rfl ?_
  refine s_newa20 (N := 160) (pc2 := 53) X dX10_init_51 rfl rfl (by decide) ac_int (by rw [hc1]; exact Nat.le_of_ble_eq_true rfl) (by rw [hc2]; exact Nat.le_of_ble_eq_true rfl) (fun v6 => ?_)
  refine s_cs 6 3261 rfl rfl ?_
  refine s_putR (pc2 := 56) X dX10_init_53 rfl fl_RX10_26 (Or.inr ⟨K.2.2.2, _, rfl, rfl⟩) rfl ?_
  refine s_aload_n (j := 0) (pc2 := 57) X dX10_init_56 rfl rfl ?_
  refine s_sipush (n := 400) (pc2 := 60) X dX10_init_57 rfl rfl ?_
  refine s_newa20 (N := 400) (pc2 := 62) X dX10_init_60 rfl rfl (by decide) ac_int (by rw [hc1]; exact Nat.le_of_ble_eq_true rfl) (by rw [hc2]; exact Nat.le_of_ble_eq_true rfl) (fun v7 => ?_)
  refine s_cs 7 3661 rfl rfl ?_
  refine s_putR (pc2 := 65) X dX10_init_62 rfl fl_RX10_29 (Or.inr ⟨K.2.2.2, _, rfl, rfl⟩) rfl ?_
  refine s_aload_n (j := 0) (pc2 := 66) X dX10_init_65 rfl rfl ?_
  refine s_bipush (n := 64) (pc2 := 68) X dX10_init_66 rfl rfl ?_
  refine s_newa21 (N := 64) (pc2 := 70) X dX10_init_68 rfl rfl (by decide) ac_long (by rw [hc1]; exact Nat.le_of_ble_eq_true rfl) (by rw [hc2]; exact Nat.le_of_ble_eq_true rfl) (fun v8 => ?_)
  refine s_cs 8 3725 rfl rfl ?_
  refine s_putR (pc2 := 73) X dX10_init_70 rfl fl_RX10_32 (Or.inr ⟨K.2.2.2, _, rfl, rfl⟩) rfl ?_
  refine s_aload_n (j := 0) (pc2 := 74) X dX10_init_73 rfl rfl ?_
  refine s_bipush (n := 12) (pc2 := 76) X dX10_init_74 rfl rfl ?_
  refine s_newa21 (N := 12) (pc2 := 78) X dX10_init_76 rfl rfl (by decide) ac_long (by rw [hc1]; exact Nat.le_of_ble_eq_true rfl) (by rw [hc2]; exact Nat.le_of_ble_eq_true rfl) (fun v9 => ?_)
  refine s_cs 9 3737 rfl rfl ?_
  refine s_putR (pc2 := 81) X dX10_init_78 rfl fl_RX10_36 (Or.inr ⟨K.2.2.2, _, rfl, rfl⟩) rfl ?_
  refine s_aload_n (j := 0) (pc2 := 82) X dX10_init_81 rfl rfl ?_
  refine s_sipush (n := 160) (pc2 := 85) X dX10_init_82 rfl rfl ?_
  refine s_newa20 (N := 160) (pc2 := 87) X dX10_init_85 rfl rfl (by decide) ac_int (by rw [hc1]; exact Nat.le_of_ble_eq_true rfl) (by rw [hc2]; exact Nat.le_of_ble_eq_true rfl) (fun v10 => ?_)
  refine s_cs 10 3897 rfl rfl ?_
  refine s_putR (pc2 := 90) X dX10_init_87 rfl fl_RX10_39 (Or.inr ⟨K.2.2.2, _, rfl, rfl⟩) rfl ?_
  refine s_aload_n (j := 0) (pc2 := 91) X dX10_init_90 rfl rfl ?_
  refine s_bipush (n := 9) (pc2 := 93) X dX10_init_91 rfl rfl ?_
  refine s_newa20 (N := 9) (pc2 := 95) X dX10_init_93 rfl rfl (by decide) ac_int (by rw [hc1]; exact Nat.le_of_ble_eq_true rfl) (by rw [hc2]; exact Nat.le_of_ble_eq_true rfl) (fun v11 => ?_)
  refine s_cs 11 3906 rfl rfl ?_
  refine s_putR (pc2 := 98) X dX10_init_95 rfl fl_RX10_42 (Or.inr ⟨K.2.2.2, _, rfl, rfl⟩) rfl ?_
  refine s_aload_n (j := 0) (pc2 := 99) X dX10_init_98 rfl rfl ?_
  refine s_bipush (n := 8) (pc2 := 101) X dX10_init_99 rfl rfl ?_
  refine s_newa20 (N := 8) (pc2 := 103) X dX10_init_101 rfl rfl (by decide) ac_int (by rw [hc1]; exact Nat.le_of_ble_eq_true rfl) (by rw [hc2]; exact Nat.le_of_ble_eq_true rfl) (fun v12 => ?_)
  refine s_cs 12 3914 rfl rfl ?_
  refine s_putR (pc2 := 106) X dX10_init_103 rfl fl_RX10_45 (Or.inr ⟨K.2.2.2, _, rfl, rfl⟩) rfl ?_
  refine s_aload_n (j := 0) (pc2 := 107) X dX10_init_106 rfl rfl ?_
  refine s_sipush (n := 1880) (pc2 := 110) X dX10_init_107 rfl rfl ?_
  refine s_newa20 (N := 1880) (pc2 := 112) X dX10_init_110 rfl rfl (by decide) ac_int (by rw [hc1]; exact Nat.le_of_ble_eq_true rfl) (by rw [hc2]; exact Nat.le_of_ble_eq_true rfl) (fun v13 => ?_)
  refine s_cs 13 5794 rfl rfl ?_
  refine s_putR (pc2 := 115) X dX10_init_112 rfl fl_RX10_48 (Or.inr ⟨K.2.2.2, _, rfl, rfl⟩) rfl ?_
  refine s_aload_n (j := 0) (pc2 := 116) X dX10_init_115 rfl rfl ?_
  refine s_bipush (n := 8) (pc2 := 118) X dX10_init_116 rfl rfl ?_
  refine s_newa20 (N := 8) (pc2 := 120) X dX10_init_118 rfl rfl (by decide) ac_int (by rw [hc1]; exact Nat.le_of_ble_eq_true rfl) (by rw [hc2]; exact Nat.le_of_ble_eq_true rfl) (fun v14 => ?_)
  refine s_cs 14 5802 rfl rfl ?_
  refine s_putR (pc2 := 123) X dX10_init_120 rfl fl_RX10_51 (Or.inr ⟨K.2.2.2, _, rfl, rfl⟩) rfl ?_
  refine s_aload_n (j := 0) (pc2 := 124) X dX10_init_123 rfl rfl ?_
  refine s_bipush (n := 8) (pc2 := 126) X dX10_init_124 rfl rfl ?_
  refine s_newa20 (N := 8) (pc2 := 128) X dX10_init_126 rfl rfl (by decide) ac_int (by rw [hc1]; exact Nat.le_of_ble_eq_true rfl) (by rw [hc2]; exact Nat.le_of_ble_eq_true rfl) (fun v15 => ?_)
  refine s_cs 15 5810 rfl rfl ?_
  refine s_putR (pc2 := 131) X dX10_init_128 rfl fl_RX10_54 (Or.inr ⟨K.2.2.2, _, rfl, rfl⟩) rfl ?_
  refine s_aload_n (j := 0) (pc2 := 132) X dX10_init_131 rfl rfl ?_
  refine s_bipush (n := 72) (pc2 := 134) X dX10_init_132 rfl rfl ?_
  refine s_newa20 (N := 72) (pc2 := 136) X dX10_init_134 rfl rfl (by decide) ac_int (by rw [hc1]; exact Nat.le_of_ble_eq_true rfl) (by rw [hc2]; exact Nat.le_of_ble_eq_true rfl) (fun v16 => ?_)
  refine s_cs 16 5882 rfl rfl ?_
  refine s_putR (pc2 := 139) X dX10_init_136 rfl fl_RX10_57 (Or.inr ⟨K.2.2.2, _, rfl, rfl⟩) rfl ?_
  refine s_aload_n (j := 0) (pc2 := 140) X dX10_init_139 rfl rfl ?_
  refine s_iconst (n := 2) (pc2 := 141) X dX10_init_140 rfl ?_
  refine s_newa20 (N := 2) (pc2 := 143) X dX10_init_141 rfl rfl (by decide) ac_int (by rw [hc1]; exact Nat.le_of_ble_eq_true rfl) (by rw [hc2]; exact Nat.le_of_ble_eq_true rfl) (fun v17 => ?_)
  refine s_cs 17 5884 rfl rfl ?_
  refine s_putR (pc2 := 146) X dX10_init_143 rfl fl_RX10_60 (Or.inr ⟨K.2.2.2, _, rfl, rfl⟩) rfl ?_
  refine s_aload_n (j := 0) (pc2 := 147) X dX10_init_146 rfl rfl ?_
  refine s_bipush (n := 9) (pc2 := 149) X dX10_init_147 rfl rfl ?_
  refine s_newa20 (N := 9) (pc2 := 151) X dX10_init_149 rfl rfl (by decide) ac_int (by rw [hc1]; exact Nat.le_of_ble_eq_true rfl) (by rw [hc2]; exact Nat.le_of_ble_eq_true rfl) (fun v18 => ?_)
  refine s_cs 18 5893 rfl rfl ?_
  refine s_putR (pc2 := 154) X dX10_init_151 rfl fl_RX10_63 (Or.inr ⟨K.2.2.2, _, rfl, rfl⟩) rfl ?_
  refine s_aload_n (j := 0) (pc2 := 155) X dX10_init_154 rfl rfl ?_
  refine s_bipush (n := 94) (pc2 := 157) X dX10_init_155 rfl rfl ?_
  refine s_newa20 (N := 94) (pc2 := 159) X dX10_init_157 rfl rfl (by decide) ac_int (by rw [hc1]; exact Nat.le_of_ble_eq_true rfl) (by rw [hc2]; exact Nat.le_of_ble_eq_true rfl) (fun v19 => ?_)
  refine s_cs 19 5987 rfl rfl ?_
  refine s_putR (pc2 := 162) X dX10_init_159 rfl fl_RX10_66 (Or.inr ⟨K.2.2.2, _, rfl, rfl⟩) rfl ?_
  refine s_aload_n (j := 0) (pc2 := 163) X dX10_init_162 rfl rfl ?_
  refine s_sipush (n := 640) (pc2 := 166) X dX10_init_163 rfl rfl ?_
  refine s_newa20 (N := 640) (pc2 := 168) X dX10_init_166 rfl rfl (by decide) ac_int (by rw [hc1]; exact Nat.le_of_ble_eq_true rfl) (by rw [hc2]; exact Nat.le_of_ble_eq_true rfl) (fun v20 => ?_)
  refine s_cs 20 6627 rfl rfl ?_
  refine s_putR (pc2 := 171) X dX10_init_168 rfl fl_RX10_69 (Or.inr ⟨K.2.2.2, _, rfl, rfl⟩) rfl ?_
  refine s_aload_n (j := 0) (pc2 := 172) X dX10_init_171 rfl rfl ?_
  refine s_iconst (n := 4) (pc2 := 173) X dX10_init_172 rfl ?_
  refine s_newa20 (N := 4) (pc2 := 175) X dX10_init_173 rfl rfl (by decide) ac_int (by rw [hc1]; exact Nat.le_of_ble_eq_true rfl) (by rw [hc2]; exact Nat.le_of_ble_eq_true rfl) (fun v21 => ?_)
  refine s_cs 21 6631 rfl rfl ?_
  refine s_putR (pc2 := 178) X dX10_init_175 rfl fl_RX10_72 (Or.inr ⟨K.2.2.2, _, rfl, rfl⟩) rfl ?_
  refine s_aload_n (j := 0) (pc2 := 179) X dX10_init_178 rfl rfl ?_
  refine s_iconst (n := 4) (pc2 := 180) X dX10_init_179 rfl ?_
  refine s_newa23 (N := 4) (pc2 := 182) X dX10_init_180 rfl rfl (by decide) ac_boolean (by rw [hc1]; exact Nat.le_of_ble_eq_true rfl) (by rw [hc2]; exact Nat.le_of_ble_eq_true rfl) (fun v22 => ?_)
  refine s_cs 22 6635 rfl rfl ?_
  refine s_putR (pc2 := 185) X dX10_init_182 rfl fl_RX10_75 (Or.inr ⟨K.2.2.2, _, rfl, rfl⟩) rfl ?_
  exact s_ret X dX10_init_185
theorem c_X10_init (d : Nat) (hd : 1 ≤ d) (G : hG) (l : Launch) (l0 : Nat) (p0 : 0 < l0) : hMet G l yX10_init cX10_init 1 none d 22 6635 [vR G.1 l0] (m_X10_init l0) := by
  refine hMet.of (lv := [(0, vR G.1 l0)]) (by decide +kernel) (by simp [lg_sl, vR_cat, vI_cat, vL_cat, vS_cat2, vT_cat2]) (by simp [lv_args, vR_cat, vI_cat, vL_cat, vS_cat2, vT_cat2]) (fun C K X => ?_)
  obtain ⟨rfl, rfl, K⟩ := K
  exact z_X10_init d hd ⟨rfl, rfl, K⟩ X l0 p0
def m_X10_in_L18 (s0 : Int) : hM :=
  hretZ s0
def m_X10_in_L17 : hM :=
  m_X10_in_L18 0
def m_X10_in (l0 : Int) (l2 : Int) (l4 : Int) : hM :=
  hif (((lcmpZ l0 l2)) < 0) (
m_X10_in_L17) (
hif (((lcmpZ l0 l4)) > 0) (
m_X10_in_L17) (
m_X10_in_L18 1))
set_option maxRecDepth 4000 in
theorem z_X10_in_L18 (d : Nat) (hd : 1 ≤ d) {C : hCx} (K : hCtx C.1 C.2.2.1 d 0 0 "in" C) (X : hOK C cX10_in RX10 6 (some .boolean)) (s0 : Int) (g0 : inI s0) : hSim C (some .boolean) 0 0 6 18 [] [vI s0] 0 0 (m_X10_in_L18 s0) := by
  obtain ⟨⟨hf, hlo⟩, ⟨hc1, hc2⟩, hf1, hl1⟩ := K_room K (by omega)
  have hcs : 0 ≤ C.2.2.2.2.1.cells ∧ 0 ≤ C.2.2.2.2.1.slots := ⟨Nat.zero_le _, Nat.zero_le _⟩
  unfold m_X10_in_L18
  exact s_zret X dX10_in_18
set_option maxRecDepth 4000 in
theorem z_X10_in_L17 (d : Nat) (hd : 1 ≤ d) {C : hCx} (K : hCtx C.1 C.2.2.1 d 0 0 "in" C) (X : hOK C cX10_in RX10 6 (some .boolean)) : hSim C (some .boolean) 0 0 6 17 [] [] 0 0 (m_X10_in_L17) := by
  obtain ⟨⟨hf, hlo⟩, ⟨hc1, hc2⟩, hf1, hl1⟩ := K_room K (by omega)
  have hcs : 0 ≤ C.2.2.2.2.1.cells ∧ 0 ≤ C.2.2.2.2.1.slots := ⟨Nat.zero_le _, Nat.zero_le _⟩
  unfold m_X10_in_L17
  refine s_iconst (n := 0) (pc2 := 18) X dX10_in_17 rfl ?_
  exact z_X10_in_L18 d hd K X 0 (inI_c 0 rfl)
set_option maxRecDepth 4000 in
set_option maxHeartbeats 20000000 in
theorem z_X10_in (d : Nat) (hd : 1 ≤ d) {C : hCx} (K : hCtx C.1 C.2.2.1 d 0 0 "in" C) (X : hOK C cX10_in RX10 6 (some .boolean)) (l0 : Int) (l2 : Int) (l4 : Int) (h0 : inL l0) (h2 : inL l2) (h4 : inL l4) : hSim C (some .boolean) 0 0 6 0 [(0, vL l0), (2, vL l2), (4, vL l4)] [] 0 0 (m_X10_in l0 l2 l4) := by
  obtain ⟨⟨hf, hlo⟩, ⟨hc1, hc2⟩, hf1, hl1⟩ := K_room K (by omega)
  have hcs : 0 ≤ C.2.2.2.2.1.cells ∧ 0 ≤ C.2.2.2.2.1.slots := ⟨Nat.zero_le _, Nat.zero_le _⟩
  unfold m_X10_in
  refine s_lload_n (j := 0) (pc2 := 1) X dX10_in_0 rfl rfl ?_
  refine s_lload_n (j := 1) (pc2 := 2) X dX10_in_1 rfl rfl ?_
  refine s_lcmp (pc2 := 3) X dX10_in_2 rfl h0 h2 ?_
  refine s_iflt (tgt := 17) X dX10_in_3 (by decide) rfl (lcmpZ_in _ _) ?_ ?_
  · refine s_sub (lv2 := []) [] rfl ?_
    exact z_X10_in_L17 d hd K X
  · refine s_lload_n (j := 0) (pc2 := 7) X dX10_in_6 rfl rfl ?_
    refine s_lload (j := 2) (pc2 := 9) X dX10_in_7 rfl rfl ?_
    refine s_lcmp (pc2 := 10) X dX10_in_9 rfl h0 h4 ?_
    refine s_ifgt (tgt := 17) X dX10_in_10 (by decide) rfl (lcmpZ_in _ _) ?_ ?_
    · refine s_sub (lv2 := []) [] rfl ?_
      exact z_X10_in_L17 d hd K X
    · refine s_iconst (n := 1) (pc2 := 14) X dX10_in_13 rfl ?_
      refine s_goto (pc2 := 18) X dX10_in_14 (by decide) ?_
      refine s_sub (lv2 := []) [] rfl ?_
      exact z_X10_in_L18 d hd K X 1 (inI_c 1 rfl)
theorem c_X10_in (d : Nat) (hd : 1 ≤ d) (G : hG) (l : Launch) (l0 : Int) (l2 : Int) (l4 : Int) (h0 : inL l0) (h2 : inL l2) (h4 : inL l4) : hMet G l yX10_in cX10_in 6 (some .boolean) d 0 0 [vL l0, vL l2, vL l4] (m_X10_in l0 l2 l4) := by
  refine hMet.of (lv := [(0, vL l0), (2, vL l2), (4, vL l4)]) (by decide +kernel) (by simp [lg_sl, vR_cat, vI_cat, vL_cat, vS_cat2, vT_cat2]) (by simp [lv_args, vR_cat, vI_cat, vL_cat, vS_cat2, vT_cat2]) (fun C K X => ?_)
  obtain ⟨rfl, rfl, K⟩ := K
  exact z_X10_in d hd ⟨rfl, rfl, K⟩ X l0 l2 l4 h0 h2 h4
def m_X10_isOf_L14 (s0 : Int) : hM :=
  hretZ s0
def m_X10_isOf (l0 : Int) (l1 : Int) : hM :=
  hif (((iandZ ((ishrZ l0 l1)) 1)) ≠ 1) (
m_X10_isOf_L14 0) (
m_X10_isOf_L14 1)
set_option maxRecDepth 4000 in
theorem z_X10_isOf_L14 (d : Nat) (hd : 1 ≤ d) {C : hCx} (K : hCtx C.1 C.2.2.1 d 0 0 "isOf" C) (X : hOK C cX10_isOf RX10 2 (some .boolean)) (s0 : Int) (g0 : inI s0) : hSim C (some .boolean) 0 0 2 14 [] [vI s0] 0 0 (m_X10_isOf_L14 s0) := by
  obtain ⟨⟨hf, hlo⟩, ⟨hc1, hc2⟩, hf1, hl1⟩ := K_room K (by omega)
  have hcs : 0 ≤ C.2.2.2.2.1.cells ∧ 0 ≤ C.2.2.2.2.1.slots := ⟨Nat.zero_le _, Nat.zero_le _⟩
  unfold m_X10_isOf_L14
  exact s_zret X dX10_isOf_14
set_option maxRecDepth 4000 in
set_option maxHeartbeats 20000000 in
theorem z_X10_isOf (d : Nat) (hd : 1 ≤ d) {C : hCx} (K : hCtx C.1 C.2.2.1 d 0 0 "isOf" C) (X : hOK C cX10_isOf RX10 2 (some .boolean)) (l0 : Int) (l1 : Int) (h0 : inI l0) (h1 : inI l1) : hSim C (some .boolean) 0 0 2 0 [(0, vI l0), (1, vI l1)] [] 0 0 (m_X10_isOf l0 l1) := by
  obtain ⟨⟨hf, hlo⟩, ⟨hc1, hc2⟩, hf1, hl1⟩ := K_room K (by omega)
  have hcs : 0 ≤ C.2.2.2.2.1.cells ∧ 0 ≤ C.2.2.2.2.1.slots := ⟨Nat.zero_le _, Nat.zero_le _⟩
  unfold m_X10_isOf
  refine s_iload_n (j := 0) (pc2 := 1) X dX10_isOf_0 rfl rfl ?_
  refine s_iload_n (j := 1) (pc2 := 2) X dX10_isOf_1 rfl rfl ?_
  refine s_ishr (pc2 := 3) X dX10_isOf_2 rfl ?_
  refine s_iconst (n := 1) (pc2 := 4) X dX10_isOf_3 rfl ?_
  refine s_iand (pc2 := 5) X dX10_isOf_4 rfl ?_
  refine s_iconst (n := 1) (pc2 := 6) X dX10_isOf_5 rfl ?_
  refine s_icne (tgt := 13) X dX10_isOf_6 (by decide) rfl (iandZ_in _ _) (inI_c 1 rfl) ?_ ?_
  · refine s_iconst (n := 0) (pc2 := 14) X dX10_isOf_13 rfl ?_
    refine s_sub (lv2 := []) [] rfl ?_
    exact z_X10_isOf_L14 d hd K X 0 (inI_c 0 rfl)
  · refine s_iconst (n := 1) (pc2 := 10) X dX10_isOf_9 rfl ?_
    refine s_goto (pc2 := 14) X dX10_isOf_10 (by decide) ?_
    refine s_sub (lv2 := []) [] rfl ?_
    exact z_X10_isOf_L14 d hd K X 1 (inI_c 1 rfl)
theorem c_X10_isOf (d : Nat) (hd : 1 ≤ d) (G : hG) (l : Launch) (l0 : Int) (l1 : Int) (h0 : inI l0) (h1 : inI l1) : hMet G l yX10_isOf cX10_isOf 2 (some .boolean) d 0 0 [vI l0, vI l1] (m_X10_isOf l0 l1) := by
  refine hMet.of (lv := [(0, vI l0), (1, vI l1)]) (by decide +kernel) (by simp [lg_sl, vR_cat, vI_cat, vL_cat, vS_cat2, vT_cat2]) (by simp [lv_args, vR_cat, vI_cat, vL_cat, vS_cat2, vT_cat2]) (fun C K X => ?_)
  obtain ⟨rfl, rfl, K⟩ := K
  exact z_X10_isOf d hd ⟨rfl, rfl, K⟩ X l0 l1 h0 h1
def m_X10_bits_L4 : Nat → Int → Int → hM
  | 0, _, _ => hfail
  | n + 1, l1, l2 =>
    hif (l2 = 0) (
hret l1) (
hlet (w32 (l1 + 1)) fun (w1 : Int) =>
  hlet ((iandZ l2 ((w32 (l2 - 1))))) fun (w2 : Int) =>
  m_X10_bits_L4 n w1 w2)
def m_X10_bits (l0 : Int) : hM :=
  hlet (0 : Int) fun (w1 : Int) =>
  hlet l0 fun (w2 : Int) =>
  m_X10_bits_L4 1000000000 w1 w2
set_option maxRecDepth 4000 in
theorem z_X10_bits_L4 (d : Nat) (hd : 1 ≤ d) {C : hCx} (K : hCtx C.1 C.2.2.1 d 0 0 "bits" C) (X : hOK C cX10_bits RX10 3 (some .int)) : ∀ (n : Nat) (l1 : Int) (l2 : Int) (h1 : inI l1) (h2 : inI l2), hSim C (some .int) 0 0 3 4 [(1, vI l1), (2, vI l2)] [] 0 0 (m_X10_bits_L4 n l1 l2) := by
  obtain ⟨⟨hf, hlo⟩, ⟨hc1, hc2⟩, hf1, hl1⟩ := K_room K (by omega)
  have hcs : 0 ≤ C.2.2.2.2.1.cells ∧ 0 ≤ C.2.2.2.2.1.slots := ⟨Nat.zero_le _, Nat.zero_le _⟩
  intro n
  induction n with
  | zero => intros; exact s_none (fun _ => rfl)
  | succ n ih =>
    intro l1 l2 h1 h2
    unfold m_X10_bits_L4
    refine s_iload_n (j := 1) (pc2 := 5) X dX10_bits_4 rfl rfl ?_
    refine s_ifeq (tgt := 20) X dX10_bits_5 (by decide) rfl h2 ?_ ?_
    · refine s_iload_n (j := 0) (pc2 := 21) X dX10_bits_20 rfl rfl ?_
      exact s_iret X dX10_bits_21 h1
    · refine s_iinc (j := 0) (pc2 := 11) X dX10_bits_8 rfl (by decide) rfl rfl rfl cat1_N (fun w1 hw1 => ?_)
      refine s_iload_n (j := 1) (pc2 := 12) X dX10_bits_11 rfl rfl ?_
      refine s_iload_n (j := 1) (pc2 := 13) X dX10_bits_12 rfl rfl ?_
      refine s_iconst (n := 1) (pc2 := 14) X dX10_bits_13 rfl ?_
      refine s_isub (pc2 := 15) X dX10_bits_14 rfl ?_
      refine s_iand (pc2 := 16) X dX10_bits_15 rfl ?_
      refine s_istore_n (pc2 := 17) X dX10_bits_16 rfl (by decide) rfl rfl cat1_I (iandZ_in _ _) (fun w2 hw2 => ?_)
      refine s_goto (pc2 := 4) X dX10_bits_17 (by decide) ?_
      refine s_sub (lv2 := [(1, vI w1), (2, vI w2)]) [1, 0] rfl ?_
      exact ih w1 w2 hw1 hw2
set_option maxRecDepth 4000 in
set_option maxHeartbeats 20000000 in
theorem z_X10_bits (d : Nat) (hd : 1 ≤ d) {C : hCx} (K : hCtx C.1 C.2.2.1 d 0 0 "bits" C) (X : hOK C cX10_bits RX10 3 (some .int)) (l0 : Int) (h0 : inI l0) : hSim C (some .int) 0 0 3 0 [(0, vI l0)] [] 0 0 (m_X10_bits l0) := by
  obtain ⟨⟨hf, hlo⟩, ⟨hc1, hc2⟩, hf1, hl1⟩ := K_room K (by omega)
  have hcs : 0 ≤ C.2.2.2.2.1.cells ∧ 0 ≤ C.2.2.2.2.1.slots := ⟨Nat.zero_le _, Nat.zero_le _⟩
  unfold m_X10_bits
  refine s_iconst (n := 0) (pc2 := 1) X dX10_bits_0 rfl ?_
  refine s_istore_n (pc2 := 2) X dX10_bits_1 rfl (by decide) rfl rfl cat1_I (inI_c 0 rfl) (fun w1 hw1 => ?_)
  refine s_iload_n (j := 1) (pc2 := 3) X dX10_bits_2 rfl rfl ?_
  refine s_istore_n (pc2 := 4) X dX10_bits_3 rfl (by decide) rfl rfl cat1_I h0 (fun w2 hw2 => ?_)
  refine s_sub (lv2 := [(1, vI w1), (2, vI w2)]) [1, 0] rfl ?_
  exact z_X10_bits_L4 d hd K X 1000000000 w1 w2 hw1 hw2
theorem c_X10_bits (d : Nat) (hd : 1 ≤ d) (G : hG) (l : Launch) (l0 : Int) (h0 : inI l0) : hMet G l yX10_bits cX10_bits 3 (some .int) d 0 0 [vI l0] (m_X10_bits l0) := by
  refine hMet.of (lv := [(0, vI l0)]) (by decide +kernel) (by simp [lg_sl, vR_cat, vI_cat, vL_cat, vS_cat2, vT_cat2]) (by simp [lv_args, vR_cat, vI_cat, vL_cat, vS_cat2, vT_cat2]) (fun C K X => ?_)
  obtain ⟨rfl, rfl, K⟩ := K
  exact z_X10_bits d hd ⟨rfl, rfl, K⟩ X l0 h0
def m_X10_four_L3 : Nat → Nat → Int → Int → hM
  | 0, _, _, _ => hfail
  | n + 1, l0, l1, l2 =>
    hif (l2 < 0) (
hret 0) (
hgR 10 l0 0 fun v1 =>
  hgI 10 l0 1 fun v2 =>
  hsI 22 v1 v2 (i2bZ ((i2bZ ((ishrZ l1 l2))))) <|
  hgI 10 l0 1 fun v3 =>
  hpI 10 l0 1 ((w32 (v3 + 1))) <|
  hlet (w32 (l2 + (-8))) fun (w4 : Int) =>
  m_X10_four_L3 n l0 l1 w4)
def m_X10_four (l0 : Nat) (l1 : Int) : hM :=
  hlet (24 : Int) fun (w1 : Int) =>
  m_X10_four_L3 1000000000 l0 l1 w1
set_option maxRecDepth 4000 in
theorem z_X10_four_L3 (d : Nat) (hd : 1 ≤ d) {C : hCx} (K : hCtx C.1 C.2.2.1 d 0 0 "four" C) (X : hOK C cX10_four RX10 3 none) : ∀ (n : Nat) (l0 : Nat) (l1 : Int) (l2 : Int) (h1 : inI l1) (h2 : inI l2), hSim C none 0 0 3 3 [(0, vR C.1.1 l0), (1, vI l1), (2, vI l2)] [] 0 0 (m_X10_four_L3 n l0 l1 l2) := by
  obtain ⟨⟨hf, hlo⟩, ⟨hc1, hc2⟩, hf1, hl1⟩ := K_room K (by omega)
  have hcs : 0 ≤ C.2.2.2.2.1.cells ∧ 0 ≤ C.2.2.2.2.1.slots := ⟨Nat.zero_le _, Nat.zero_le _⟩
  intro n
  induction n with
  | zero => intros; exact s_none (fun _ => rfl)
  | succ n ih =>
    intro l0 l1 l2 h1 h2
    unfold m_X10_four_L3
    refine s_iload_n (j := 2) (pc2 := 4) X dX10_four_3 rfl rfl ?_
    refine s_iflt (tgt := 36) X dX10_four_4 (by decide) rfl h2 ?_ ?_
    · exact s_ret X dX10_four_36
    · refine s_aload_n (j := 0) (pc2 := 8) X dX10_four_7 rfl rfl ?_
      refine s_getR (pc2 := 11) X dX10_four_8 rfl fl_RX10_7 rfl (fun v1 => ?_)
      refine s_aload_n (j := 0) (pc2 := 12) X dX10_four_11 rfl rfl ?_
      refine s_getI (pc2 := 15) X dX10_four_12 rfl fl_RX10_79 rfl (fun v2 hv2 => ?_)
      refine s_iload_n (j := 1) (pc2 := 16) X dX10_four_15 rfl rfl ?_
      refine s_iload_n (j := 2) (pc2 := 17) X dX10_four_16 rfl rfl ?_
      refine s_ishr (pc2 := 18) X dX10_four_17 rfl ?_
      refine s_i2b (pc2 := 19) X dX10_four_18 rfl ?_
      refine s_bast (pc2 := 20) X dX10_four_19 rfl ?_
      refine s_aload_n (j := 0) (pc2 := 21) X dX10_four_20 rfl rfl ?_
      refine s_dup (pc2 := 22) X dX10_four_21 rfl (vR_cat _ _) ?_
      refine s_getI (pc2 := 25) X dX10_four_22 rfl fl_RX10_79 rfl (fun v3 hv3 => ?_)
      refine s_iconst (n := 1) (pc2 := 26) X dX10_four_25 rfl ?_
      refine s_iadd (pc2 := 27) X dX10_four_26 rfl ?_
      refine s_putI (pc2 := 30) X dX10_four_27 rfl fl_RX10_79 (Or.inl rfl) rfl (w32_in _) ?_
      refine s_iinc (j := 2) (pc2 := 33) X dX10_four_30 rfl (by decide) rfl rfl rfl cat1_I (fun w4 hw4 => ?_)
      refine s_goto (pc2 := 3) X dX10_four_33 (by decide) ?_
      refine s_sub (lv2 := [(0, vR C.1.1 l0), (1, vI l1), (2, vI w4)]) [1, 2, 0] rfl ?_
      exact ih l0 l1 w4 h1 hw4
set_option maxRecDepth 4000 in
set_option maxHeartbeats 20000000 in
theorem z_X10_four (d : Nat) (hd : 1 ≤ d) {C : hCx} (K : hCtx C.1 C.2.2.1 d 0 0 "four" C) (X : hOK C cX10_four RX10 3 none) (l0 : Nat) (l1 : Int) (h1 : inI l1) : hSim C none 0 0 3 0 [(0, vR C.1.1 l0), (1, vI l1)] [] 0 0 (m_X10_four l0 l1) := by
  obtain ⟨⟨hf, hlo⟩, ⟨hc1, hc2⟩, hf1, hl1⟩ := K_room K (by omega)
  have hcs : 0 ≤ C.2.2.2.2.1.cells ∧ 0 ≤ C.2.2.2.2.1.slots := ⟨Nat.zero_le _, Nat.zero_le _⟩
  unfold m_X10_four
  refine s_bipush (n := 24) (pc2 := 2) X dX10_four_0 rfl rfl ?_
  refine s_istore_n (pc2 := 3) X dX10_four_2 rfl (by decide) rfl rfl cat1_I (inI_c 24 rfl) (fun w1 hw1 => ?_)
  refine s_sub (lv2 := [(0, vR C.1.1 l0), (1, vI l1), (2, vI w1)]) [1, 2, 0] rfl ?_
  exact z_X10_four_L3 d hd K X 1000000000 l0 l1 w1 h1 hw1
theorem c_X10_four (d : Nat) (hd : 1 ≤ d) (G : hG) (l : Launch) (l0 : Nat) (l1 : Int) (h1 : inI l1) : hMet G l yX10_four cX10_four 3 none d 0 0 [vR G.1 l0, vI l1] (m_X10_four l0 l1) := by
  refine hMet.of (lv := [(0, vR G.1 l0), (1, vI l1)]) (by decide +kernel) (by simp [lg_sl, vR_cat, vI_cat, vL_cat, vS_cat2, vT_cat2]) (by simp [lv_args, vR_cat, vI_cat, vL_cat, vS_cat2, vT_cat2]) (fun C K X => ?_)
  obtain ⟨rfl, rfl, K⟩ := K
  exact z_X10_four d hd ⟨rfl, rfl, K⟩ X l0 l1 h1
def m_X10_feed (l0 : Nat) (l1 : Int) (l2 : Int) (l3 : Int) (l4 : Int) (l5 : Int) : hM :=
  hgI 10 l0 1 fun v1 =>
  hif (((w32 (v1 + 20))) ≤ 400) (
hcallV 10 l0 (m_X10_four l0 l1) fun _ =>
  hcallV 10 l0 (m_X10_four l0 l2) fun _ =>
  hcallV 10 l0 (m_X10_four l0 l3) fun _ =>
  hcallV 10 l0 (m_X10_four l0 l4) fun _ =>
  hcallV 10 l0 (m_X10_four l0 l5) fun _ =>
  hgI 10 l0 1 fun v2 =>
  hret v2) (
hret ((-1)))
set_option maxRecDepth 4000 in
set_option maxHeartbeats 20000000 in
theorem z_X10_feed (d : Nat) (hd : 2 ≤ d) {C : hCx} (K : hCtx C.1 C.2.2.1 d 0 0 "feed" C) (X : hOK C cX10_feed RX10 6 (some .int)) (l0 : Nat) (l1 : Int) (l2 : Int) (l3 : Int) (l4 : Int) (l5 : Int) (h1 : inI l1) (h2 : inI l2) (h3 : inI l3) (h4 : inI l4) (h5 : inI l5) : hSim C (some .int) 0 0 6 0 [(0, vR C.1.1 l0), (1, vI l1), (2, vI l2), (3, vI l3), (4, vI l4), (5, vI l5)] [] 0 0 (m_X10_feed l0 l1 l2 l3 l4 l5) := by
  obtain ⟨⟨hf, hlo⟩, ⟨hc1, hc2⟩, hf1, hl1⟩ := K_room K (by omega)
  have hcs : 0 ≤ C.2.2.2.2.1.cells ∧ 0 ≤ C.2.2.2.2.1.slots := ⟨Nat.zero_le _, Nat.zero_le _⟩
  unfold m_X10_feed
  refine s_aload_n (j := 0) (pc2 := 1) X dX10_feed_0 rfl rfl ?_
  refine s_getI (pc2 := 4) X dX10_feed_1 rfl fl_RX10_79 rfl (fun v1 hv1 => ?_)
  refine s_bipush (n := 20) (pc2 := 6) X dX10_feed_4 rfl rfl ?_
  refine s_iadd (pc2 := 7) X dX10_feed_6 rfl ?_
  refine s_sipush (n := 400) (pc2 := 10) X dX10_feed_7 rfl rfl ?_
  refine s_icle (tgt := 15) X dX10_feed_10 (by decide) rfl (w32_in _) (inI_c 400 rfl) ?_ ?_
  · refine s_aload_n (j := 0) (pc2 := 16) X dX10_feed_15 rfl rfl ?_
    refine s_iload_n (j := 1) (pc2 := 17) X dX10_feed_16 rfl rfl ?_
    refine s_callVV (d2 := d - 1) (As := [vI l1]) (st := []) (pc2 := 20) X dX10_feed_17 rfl ml_RX10_83 im_X10_four se_X10_four kX10 rfl (c_X10_four (d - 1) (by omega) C.1 C.2.2.1 l0 l1 h1) hy_X10_four rfl rfl hf hlo (st_room (Nat.le_of_ble_eq_true rfl)) hcs (fun _ => ?_)
    refine s_aload_n (j := 0) (pc2 := 21) X dX10_feed_20 rfl rfl ?_
    refine s_iload_n (j := 2) (pc2 := 22) X dX10_feed_21 rfl rfl ?_
    refine s_callVV (d2 := d - 1) (As := [vI l2]) (st := []) (pc2 := 25) X dX10_feed_22 rfl ml_RX10_83 im_X10_four se_X10_four kX10 rfl (c_X10_four (d - 1) (by omega) C.1 C.2.2.1 l0 l2 h2) hy_X10_four rfl rfl hf hlo (st_room (Nat.le_of_ble_eq_true rfl)) hcs (fun _ => ?_)
    refine s_aload_n (j := 0) (pc2 := 26) X dX10_feed_25 rfl rfl ?_
    refine s_iload_n (j := 3) (pc2 := 27) X dX10_feed_26 rfl rfl ?_
    refine s_callVV (d2 := d - 1) (As := [vI l3]) (st := []) (pc2 := 30) X dX10_feed_27 rfl ml_RX10_83 im_X10_four se_X10_four kX10 rfl (c_X10_four (d - 1) (by omega) C.1 C.2.2.1 l0 l3 h3) hy_X10_four rfl rfl hf hlo (st_room (Nat.le_of_ble_eq_true rfl)) hcs (fun _ => ?_)
    refine s_aload_n (j := 0) (pc2 := 31) X dX10_feed_30 rfl rfl ?_
    refine s_iload (j := 4) (pc2 := 33) X dX10_feed_31 rfl rfl ?_
    refine s_callVV (d2 := d - 1) (As := [vI l4]) (st := []) (pc2 := 36) X dX10_feed_33 rfl ml_RX10_83 im_X10_four se_X10_four kX10 rfl (c_X10_four (d - 1) (by omega) C.1 C.2.2.1 l0 l4 h4) hy_X10_four rfl rfl hf hlo (st_room (Nat.le_of_ble_eq_true rfl)) hcs (fun _ => ?_)
    refine s_aload_n (j := 0) (pc2 := 37) X dX10_feed_36 rfl rfl ?_
    refine s_iload (j := 5) (pc2 := 39) X dX10_feed_37 rfl rfl ?_
    refine s_callVV (d2 := d - 1) (As := [vI l5]) (st := []) (pc2 := 42) X dX10_feed_39 rfl ml_RX10_83 im_X10_four se_X10_four kX10 rfl (c_X10_four (d - 1) (by omega) C.1 C.2.2.1 l0 l5 h5) hy_X10_four rfl rfl hf hlo (st_room (Nat.le_of_ble_eq_true rfl)) hcs (fun _ => ?_)
    refine s_aload_n (j := 0) (pc2 := 43) X dX10_feed_42 rfl rfl ?_
    refine s_getI (pc2 := 46) X dX10_feed_43 rfl fl_RX10_79 rfl (fun v2 hv2 => ?_)
    exact s_iret X dX10_feed_46 hv2
  · refine s_iconst (n := (-1)) (pc2 := 14) X dX10_feed_13 rfl ?_
    exact s_iret X dX10_feed_14 (inI_c (-1) rfl)
theorem c_X10_feed (d : Nat) (hd : 2 ≤ d) (G : hG) (l : Launch) (l0 : Nat) (l1 : Int) (l2 : Int) (l3 : Int) (l4 : Int) (l5 : Int) (h1 : inI l1) (h2 : inI l2) (h3 : inI l3) (h4 : inI l4) (h5 : inI l5) : hMet G l yX10_feed cX10_feed 6 (some .int) d 0 0 [vR G.1 l0, vI l1, vI l2, vI l3, vI l4, vI l5] (m_X10_feed l0 l1 l2 l3 l4 l5) := by
  refine hMet.of (lv := [(0, vR G.1 l0), (1, vI l1), (2, vI l2), (3, vI l3), (4, vI l4), (5, vI l5)]) (by decide +kernel) (by simp [lg_sl, vR_cat, vI_cat, vL_cat, vS_cat2, vT_cat2]) (by simp [lv_args, vR_cat, vI_cat, vL_cat, vS_cat2, vT_cat2]) (fun C K X => ?_)
  obtain ⟨rfl, rfl, K⟩ := K
  exact z_X10_feed d hd ⟨rfl, rfl, K⟩ X l0 l1 l2 l3 l4 l5 h1 h2 h3 h4 h5
def m_X10_end_L12 : hM :=
  hret ((-1))
def m_X10_end (l0 : Nat) (l1 : Int) : hM :=
  hif (l1 < 0) (
m_X10_end_L12) (
hgI 10 l0 1 fun v1 =>
  hif (l1 ≤ v1) (
hpI 10 l0 1 l1 <|
  hret l1) (
m_X10_end_L12))
set_option maxRecDepth 4000 in
theorem z_X10_end_L12 (d : Nat) (hd : 1 ≤ d) {C : hCx} (K : hCtx C.1 C.2.2.1 d 0 0 "end" C) (X : hOK C cX10_end RX10 2 (some .int)) : hSim C (some .int) 0 0 2 12 [] [] 0 0 (m_X10_end_L12) := by
  obtain ⟨⟨hf, hlo⟩, ⟨hc1, hc2⟩, hf1, hl1⟩ := K_room K (by omega)
  have hcs : 0 ≤ C.2.2.2.2.1.cells ∧ 0 ≤ C.2.2.2.2.1.slots := ⟨Nat.zero_le _, Nat.zero_le _⟩
  unfold m_X10_end_L12
  refine s_iconst (n := (-1)) (pc2 := 13) X dX10_end_12 rfl ?_
  exact s_iret X dX10_end_13 (inI_c (-1) rfl)
set_option maxRecDepth 4000 in
set_option maxHeartbeats 20000000 in
theorem z_X10_end (d : Nat) (hd : 1 ≤ d) {C : hCx} (K : hCtx C.1 C.2.2.1 d 0 0 "end" C) (X : hOK C cX10_end RX10 2 (some .int)) (l0 : Nat) (l1 : Int) (h1 : inI l1) : hSim C (some .int) 0 0 2 0 [(0, vR C.1.1 l0), (1, vI l1)] [] 0 0 (m_X10_end l0 l1) := by
  obtain ⟨⟨hf, hlo⟩, ⟨hc1, hc2⟩, hf1, hl1⟩ := K_room K (by omega)
  have hcs : 0 ≤ C.2.2.2.2.1.cells ∧ 0 ≤ C.2.2.2.2.1.slots := ⟨Nat.zero_le _, Nat.zero_le _⟩
  unfold m_X10_end
  refine s_iload_n (j := 1) (pc2 := 1) X dX10_end_0 rfl rfl ?_
  refine s_iflt (tgt := 12) X dX10_end_1 (by decide) rfl h1 ?_ ?_
  · refine s_sub (lv2 := []) [] rfl ?_
    exact z_X10_end_L12 d hd K X
  · refine s_iload_n (j := 1) (pc2 := 5) X dX10_end_4 rfl rfl ?_
    refine s_aload_n (j := 0) (pc2 := 6) X dX10_end_5 rfl rfl ?_
    refine s_getI (pc2 := 9) X dX10_end_6 rfl fl_RX10_79 rfl (fun v1 hv1 => ?_)
    refine s_icle (tgt := 14) X dX10_end_9 (by decide) rfl h1 hv1 ?_ ?_
    · refine s_aload_n (j := 0) (pc2 := 15) X dX10_end_14 rfl rfl ?_
      refine s_iload_n (j := 1) (pc2 := 16) X dX10_end_15 rfl rfl ?_
      refine s_putI (pc2 := 19) X dX10_end_16 rfl fl_RX10_79 (Or.inl rfl) rfl h1 ?_
      refine s_iload_n (j := 1) (pc2 := 20) X dX10_end_19 rfl rfl ?_
      exact s_iret X dX10_end_20 h1
    · refine s_sub (lv2 := []) [] rfl ?_
      exact z_X10_end_L12 d hd K X
theorem c_X10_end (d : Nat) (hd : 1 ≤ d) (G : hG) (l : Launch) (l0 : Nat) (l1 : Int) (h1 : inI l1) : hMet G l yX10_end cX10_end 2 (some .int) d 0 0 [vR G.1 l0, vI l1] (m_X10_end l0 l1) := by
  refine hMet.of (lv := [(0, vR G.1 l0), (1, vI l1)]) (by decide +kernel) (by simp [lg_sl, vR_cat, vI_cat, vL_cat, vS_cat2, vT_cat2]) (by simp [lv_args, vR_cat, vI_cat, vL_cat, vS_cat2, vT_cat2]) (fun C K X => ?_)
  obtain ⟨rfl, rfl, K⟩ := K
  exact z_X10_end d hd ⟨rfl, rfl, K⟩ X l0 l1 h1
def m_X10_fails_L19 : hM :=
  hretZ 0
def m_X10_fails (l0 : Nat) (l1 : Int) (l2 : Int) : hM :=
  hgI 10 l0 9 fun v1 =>
  hif (v1 ≠ 0) (
m_X10_fails_L19) (
hpI 10 l0 9 ((w32 (((w32 (1 + ((w32 (8 * l2)))))) + l1))) <|
  m_X10_fails_L19)
set_option maxRecDepth 4000 in
theorem z_X10_fails_L19 (d : Nat) (hd : 1 ≤ d) {C : hCx} (K : hCtx C.1 C.2.2.1 d 0 0 "fails" C) (X : hOK C cX10_fails RX10 3 (some .boolean)) : hSim C (some .boolean) 0 0 3 19 [] [] 0 0 (m_X10_fails_L19) := by
  obtain ⟨⟨hf, hlo⟩, ⟨hc1, hc2⟩, hf1, hl1⟩ := K_room K (by omega)
  have hcs : 0 ≤ C.2.2.2.2.1.cells ∧ 0 ≤ C.2.2.2.2.1.slots := ⟨Nat.zero_le _, Nat.zero_le _⟩
  unfold m_X10_fails_L19
  refine s_iconst (n := 0) (pc2 := 20) X dX10_fails_19 rfl ?_
  exact s_zret X dX10_fails_20
set_option maxRecDepth 4000 in
set_option maxHeartbeats 20000000 in
theorem z_X10_fails (d : Nat) (hd : 1 ≤ d) {C : hCx} (K : hCtx C.1 C.2.2.1 d 0 0 "fails" C) (X : hOK C cX10_fails RX10 3 (some .boolean)) (l0 : Nat) (l1 : Int) (l2 : Int) (h1 : inI l1) (h2 : inI l2) : hSim C (some .boolean) 0 0 3 0 [(0, vR C.1.1 l0), (1, vI l1), (2, vI l2)] [] 0 0 (m_X10_fails l0 l1 l2) := by
  obtain ⟨⟨hf, hlo⟩, ⟨hc1, hc2⟩, hf1, hl1⟩ := K_room K (by omega)
  have hcs : 0 ≤ C.2.2.2.2.1.cells ∧ 0 ≤ C.2.2.2.2.1.slots := ⟨Nat.zero_le _, Nat.zero_le _⟩
  unfold m_X10_fails
  refine s_aload_n (j := 0) (pc2 := 1) X dX10_fails_0 rfl rfl ?_
  refine s_getI (pc2 := 4) X dX10_fails_1 rfl fl_RX10_87 rfl (fun v1 hv1 => ?_)
  refine s_ifne (tgt := 19) X dX10_fails_4 (by decide) rfl hv1 ?_ ?_
  · refine s_sub (lv2 := []) [] rfl ?_
    exact z_X10_fails_L19 d hd K X
  · refine s_aload_n (j := 0) (pc2 := 8) X dX10_fails_7 rfl rfl ?_
    refine s_iconst (n := 1) (pc2 := 9) X dX10_fails_8 rfl ?_
    refine s_bipush (n := 8) (pc2 := 11) X dX10_fails_9 rfl rfl ?_
    refine s_iload_n (j := 2) (pc2 := 12) X dX10_fails_11 rfl rfl ?_
    refine s_imul (pc2 := 13) X dX10_fails_12 rfl ?_
    refine s_iadd (pc2 := 14) X dX10_fails_13 rfl ?_
    refine s_iload_n (j := 1) (pc2 := 15) X dX10_fails_14 rfl rfl ?_
    refine s_iadd (pc2 := 16) X dX10_fails_15 rfl ?_
    refine s_putI (pc2 := 19) X dX10_fails_16 rfl fl_RX10_87 (Or.inl rfl) rfl (w32_in _) ?_
    refine s_sub (lv2 := []) [] rfl ?_
    exact z_X10_fails_L19 d hd K X
theorem c_X10_fails (d : Nat) (hd : 1 ≤ d) (G : hG) (l : Launch) (l0 : Nat) (l1 : Int) (l2 : Int) (h1 : inI l1) (h2 : inI l2) : hMet G l yX10_fails cX10_fails 3 (some .boolean) d 0 0 [vR G.1 l0, vI l1, vI l2] (m_X10_fails l0 l1 l2) := by
  refine hMet.of (lv := [(0, vR G.1 l0), (1, vI l1), (2, vI l2)]) (by decide +kernel) (by simp [lg_sl, vR_cat, vI_cat, vL_cat, vS_cat2, vT_cat2]) (by simp [lv_args, vR_cat, vI_cat, vL_cat, vS_cat2, vT_cat2]) (fun C K X => ?_)
  obtain ⟨rfl, rfl, K⟩ := K
  exact z_X10_fails d hd ⟨rfl, rfl, K⟩ X l0 l1 l2 h1 h2
def m_X10_see_L66 (s0 : Int) : hM :=
  hret s0
def m_X10_see_L38 (l0 : Nat) : hM :=
  hgI 10 l0 8 fun v1 =>
  hgI 10 l0 1 fun v2 =>
  hif (v1 ≥ v2) (
m_X10_see_L66 ((-1))) (
hgR 10 l0 0 fun v3 =>
  hgI 10 l0 8 fun v4 =>
  haI 22 v3 v4 fun v5 =>
  m_X10_see_L66 ((iandZ v5 255)))
def m_X10_see_L0 : Nat → Nat → hM
  | 0, _ => hfail
  | n + 1, l0 =>
    hgI 10 l0 8 fun v1 =>
  hgI 10 l0 1 fun v2 =>
  hif (v1 ≥ v2) (
m_X10_see_L38 l0) (
hgR 10 l0 0 fun v3 =>
  hgI 10 l0 8 fun v4 =>
  haI 22 v3 v4 fun v5 =>
  hif (v5 ≠ 32) (
m_X10_see_L38 l0) (
hgI 10 l0 8 fun v6 =>
  hpI 10 l0 8 ((w32 (v6 + 1))) <|
  m_X10_see_L0 n l0))
def m_X10_see (l0 : Nat) : hM :=
  m_X10_see_L0 1000000000 l0
set_option maxRecDepth 4000 in
theorem z_X10_see_L66 (d : Nat) (hd : 1 ≤ d) {C : hCx} (K : hCtx C.1 C.2.2.1 d 0 0 "see" C) (X : hOK C cX10_see RX10 1 (some .int)) (s0 : Int) (g0 : inI s0) : hSim C (some .int) 0 0 1 66 [] [vI s0] 0 0 (m_X10_see_L66 s0) := by
  obtain ⟨⟨hf, hlo⟩, ⟨hc1, hc2⟩, hf1, hl1⟩ := K_room K (by omega)
  have hcs : 0 ≤ C.2.2.2.2.1.cells ∧ 0 ≤ C.2.2.2.2.1.slots := ⟨Nat.zero_le _, Nat.zero_le _⟩
  unfold m_X10_see_L66
  exact s_iret X dX10_see_66 g0
set_option maxRecDepth 4000 in
theorem z_X10_see_L38 (d : Nat) (hd : 1 ≤ d) {C : hCx} (K : hCtx C.1 C.2.2.1 d 0 0 "see" C) (X : hOK C cX10_see RX10 1 (some .int)) (l0 : Nat) : hSim C (some .int) 0 0 1 38 [(0, vR C.1.1 l0)] [] 0 0 (m_X10_see_L38 l0) := by
  obtain ⟨⟨hf, hlo⟩, ⟨hc1, hc2⟩, hf1, hl1⟩ := K_room K (by omega)
  have hcs : 0 ≤ C.2.2.2.2.1.cells ∧ 0 ≤ C.2.2.2.2.1.slots := ⟨Nat.zero_le _, Nat.zero_le _⟩
  unfold m_X10_see_L38
  refine s_aload_n (j := 0) (pc2 := 39) X dX10_see_38 rfl rfl ?_
  refine s_getI (pc2 := 42) X dX10_see_39 rfl fl_RX10_90 rfl (fun v1 hv1 => ?_)
  refine s_aload_n (j := 0) (pc2 := 43) X dX10_see_42 rfl rfl ?_
  refine s_getI (pc2 := 46) X dX10_see_43 rfl fl_RX10_79 rfl (fun v2 hv2 => ?_)
  refine s_icge (tgt := 65) X dX10_see_46 (by decide) rfl hv1 hv2 ?_ ?_
  · refine s_iconst (n := (-1)) (pc2 := 66) X dX10_see_65 rfl ?_
    refine s_sub (lv2 := []) [] rfl ?_
    exact z_X10_see_L66 d hd K X ((-1)) (inI_c (-1) rfl)
  · refine s_aload_n (j := 0) (pc2 := 50) X dX10_see_49 rfl rfl ?_
    refine s_getR (pc2 := 53) X dX10_see_50 rfl fl_RX10_7 rfl (fun v3 => ?_)
    refine s_aload_n (j := 0) (pc2 := 54) X dX10_see_53 rfl rfl ?_
    refine s_getI (pc2 := 57) X dX10_see_54 rfl fl_RX10_90 rfl (fun v4 hv4 => ?_)
    refine s_bald (pc2 := 58) X dX10_see_57 rfl (fun v5 hv5 => ?_)
    refine s_sipush (n := 255) (pc2 := 61) X dX10_see_58 rfl rfl ?_
    refine s_iand (pc2 := 62) X dX10_see_61 rfl ?_
    refine s_goto (pc2 := 66) X dX10_see_62 (by decide) ?_
    refine s_sub (lv2 := []) [] rfl ?_
    exact z_X10_see_L66 d hd K X ((iandZ v5 255)) (iandZ_in _ _)
set_option maxRecDepth 4000 in
theorem z_X10_see_L0 (d : Nat) (hd : 1 ≤ d) {C : hCx} (K : hCtx C.1 C.2.2.1 d 0 0 "see" C) (X : hOK C cX10_see RX10 1 (some .int)) : ∀ (n : Nat) (l0 : Nat), hSim C (some .int) 0 0 1 0 [(0, vR C.1.1 l0)] [] 0 0 (m_X10_see_L0 n l0) := by
  obtain ⟨⟨hf, hlo⟩, ⟨hc1, hc2⟩, hf1, hl1⟩ := K_room K (by omega)
  have hcs : 0 ≤ C.2.2.2.2.1.cells ∧ 0 ≤ C.2.2.2.2.1.slots := ⟨Nat.zero_le _, Nat.zero_le _⟩
  intro n
  induction n with
  | zero => intros; exact s_none (fun _ => rfl)
  | succ n ih =>
    intro l0
    unfold m_X10_see_L0
    refine s_aload_n (j := 0) (pc2 := 1) X dX10_see_0 rfl rfl ?_
    refine s_getI (pc2 := 4) X dX10_see_1 rfl fl_RX10_90 rfl (fun v1 hv1 => ?_)
    refine s_aload_n (j := 0) (pc2 := 5) X dX10_see_4 rfl rfl ?_
    refine s_getI (pc2 := 8) X dX10_see_5 rfl fl_RX10_79 rfl (fun v2 hv2 => ?_)
    refine s_icge (tgt := 38) X dX10_see_8 (by decide) rfl hv1 hv2 ?_ ?_
    · exact z_X10_see_L38 d hd K X l0
    · refine s_aload_n (j := 0) (pc2 := 12) X dX10_see_11 rfl rfl ?_
      refine s_getR (pc2 := 15) X dX10_see_12 rfl fl_RX10_7 rfl (fun v3 => ?_)
      refine s_aload_n (j := 0) (pc2 := 16) X dX10_see_15 rfl rfl ?_
      refine s_getI (pc2 := 19) X dX10_see_16 rfl fl_RX10_90 rfl (fun v4 hv4 => ?_)
      refine s_bald (pc2 := 20) X dX10_see_19 rfl (fun v5 hv5 => ?_)
      refine s_bipush (n := 32) (pc2 := 22) X dX10_see_20 rfl rfl ?_
      refine s_icne (tgt := 38) X dX10_see_22 (by decide) rfl hv5 (inI_c 32 rfl) ?_ ?_
      · exact z_X10_see_L38 d hd K X l0
      · refine s_aload_n (j := 0) (pc2 := 26) X dX10_see_25 rfl rfl ?_
        refine s_dup (pc2 := 27) X dX10_see_26 rfl (vR_cat _ _) ?_
        refine s_getI (pc2 := 30) X dX10_see_27 rfl fl_RX10_90 rfl (fun v6 hv6 => ?_)
        refine s_iconst (n := 1) (pc2 := 31) X dX10_see_30 rfl ?_
        refine s_iadd (pc2 := 32) X dX10_see_31 rfl ?_
        refine s_putI (pc2 := 35) X dX10_see_32 rfl fl_RX10_90 (Or.inl rfl) rfl (w32_in _) ?_
        refine s_goto (pc2 := 0) X dX10_see_35 (by decide) ?_
        exact ih l0
set_option maxRecDepth 4000 in
set_option maxHeartbeats 20000000 in
theorem z_X10_see (d : Nat) (hd : 1 ≤ d) {C : hCx} (K : hCtx C.1 C.2.2.1 d 0 0 "see" C) (X : hOK C cX10_see RX10 1 (some .int)) (l0 : Nat) : hSim C (some .int) 0 0 1 0 [(0, vR C.1.1 l0)] [] 0 0 (m_X10_see l0) := by
  obtain ⟨⟨hf, hlo⟩, ⟨hc1, hc2⟩, hf1, hl1⟩ := K_room K (by omega)
  have hcs : 0 ≤ C.2.2.2.2.1.cells ∧ 0 ≤ C.2.2.2.2.1.slots := ⟨Nat.zero_le _, Nat.zero_le _⟩
  unfold m_X10_see
  exact z_X10_see_L0 d hd K X 1000000000 l0
theorem c_X10_see (d : Nat) (hd : 1 ≤ d) (G : hG) (l : Launch) (l0 : Nat) : hMet G l yX10_see cX10_see 1 (some .int) d 0 0 [vR G.1 l0] (m_X10_see l0) := by
  refine hMet.of (lv := [(0, vR G.1 l0)]) (by decide +kernel) (by simp [lg_sl, vR_cat, vI_cat, vL_cat, vS_cat2, vT_cat2]) (by simp [lv_args, vR_cat, vI_cat, vL_cat, vS_cat2, vT_cat2]) (fun C K X => ?_)
  obtain ⟨rfl, rfl, K⟩ := K
  exact z_X10_see d hd ⟨rfl, rfl, K⟩ X l0
def m_X10_isDigit_L35 (s0 : Int) : hM :=
  hretZ s0
def m_X10_isDigit_L34 : hM :=
  m_X10_isDigit_L35 0
def m_X10_isDigit (l0 : Nat) (l1 : Int) : hM :=
  hgI 10 l0 1 fun v1 =>
  hif (l1 ≥ v1) (
m_X10_isDigit_L34) (
hgR 10 l0 0 fun v2 =>
  haI 22 v2 l1 fun v3 =>
  hif (v3 < 48) (
m_X10_isDigit_L34) (
hgR 10 l0 0 fun v4 =>
  haI 22 v4 l1 fun v5 =>
  hif (v5 > 57) (
m_X10_isDigit_L34) (
m_X10_isDigit_L35 1)))
set_option maxRecDepth 4000 in
theorem z_X10_isDigit_L35 (d : Nat) (hd : 1 ≤ d) {C : hCx} (K : hCtx C.1 C.2.2.1 d 0 0 "isDigit" C) (X : hOK C cX10_isDigit RX10 2 (some .boolean)) (s0 : Int) (g0 : inI s0) : hSim C (some .boolean) 0 0 2 35 [] [vI s0] 0 0 (m_X10_isDigit_L35 s0) := by
  obtain ⟨⟨hf, hlo⟩, ⟨hc1, hc2⟩, hf1, hl1⟩ := K_room K (by omega)
  have hcs : 0 ≤ C.2.2.2.2.1.cells ∧ 0 ≤ C.2.2.2.2.1.slots := ⟨Nat.zero_le _, Nat.zero_le _⟩
  unfold m_X10_isDigit_L35
  exact s_zret X dX10_isDigit_35
set_option maxRecDepth 4000 in
theorem z_X10_isDigit_L34 (d : Nat) (hd : 1 ≤ d) {C : hCx} (K : hCtx C.1 C.2.2.1 d 0 0 "isDigit" C) (X : hOK C cX10_isDigit RX10 2 (some .boolean)) : hSim C (some .boolean) 0 0 2 34 [] [] 0 0 (m_X10_isDigit_L34) := by
  obtain ⟨⟨hf, hlo⟩, ⟨hc1, hc2⟩, hf1, hl1⟩ := K_room K (by omega)
  have hcs : 0 ≤ C.2.2.2.2.1.cells ∧ 0 ≤ C.2.2.2.2.1.slots := ⟨Nat.zero_le _, Nat.zero_le _⟩
  unfold m_X10_isDigit_L34
  refine s_iconst (n := 0) (pc2 := 35) X dX10_isDigit_34 rfl ?_
  exact z_X10_isDigit_L35 d hd K X 0 (inI_c 0 rfl)
set_option maxRecDepth 4000 in
set_option maxHeartbeats 20000000 in
theorem z_X10_isDigit (d : Nat) (hd : 1 ≤ d) {C : hCx} (K : hCtx C.1 C.2.2.1 d 0 0 "isDigit" C) (X : hOK C cX10_isDigit RX10 2 (some .boolean)) (l0 : Nat) (l1 : Int) (h1 : inI l1) : hSim C (some .boolean) 0 0 2 0 [(0, vR C.1.1 l0), (1, vI l1)] [] 0 0 (m_X10_isDigit l0 l1) := by
  obtain ⟨⟨hf, hlo⟩, ⟨hc1, hc2⟩, hf1, hl1⟩ := K_room K (by omega)
  have hcs : 0 ≤ C.2.2.2.2.1.cells ∧ 0 ≤ C.2.2.2.2.1.slots := ⟨Nat.zero_le _, Nat.zero_le _⟩
  unfold m_X10_isDigit
  refine s_iload_n (j := 1) (pc2 := 1) X dX10_isDigit_0 rfl rfl ?_
  refine s_aload_n (j := 0) (pc2 := 2) X dX10_isDigit_1 rfl rfl ?_
  refine s_getI (pc2 := 5) X dX10_isDigit_2 rfl fl_RX10_79 rfl (fun v1 hv1 => ?_)
  refine s_icge (tgt := 34) X dX10_isDigit_5 (by decide) rfl h1 hv1 ?_ ?_
  · refine s_sub (lv2 := []) [] rfl ?_
    exact z_X10_isDigit_L34 d hd K X
  · refine s_aload_n (j := 0) (pc2 := 9) X dX10_isDigit_8 rfl rfl ?_
    refine s_getR (pc2 := 12) X dX10_isDigit_9 rfl fl_RX10_7 rfl (fun v2 => ?_)
    refine s_iload_n (j := 1) (pc2 := 13) X dX10_isDigit_12 rfl rfl ?_
    refine s_bald (pc2 := 14) X dX10_isDigit_13 rfl (fun v3 hv3 => ?_)
    refine s_bipush (n := 48) (pc2 := 16) X dX10_isDigit_14 rfl rfl ?_
    refine s_iclt (tgt := 34) X dX10_isDigit_16 (by decide) rfl hv3 (inI_c 48 rfl) ?_ ?_
    · refine s_sub (lv2 := []) [] rfl ?_
      exact z_X10_isDigit_L34 d hd K X
    · refine s_aload_n (j := 0) (pc2 := 20) X dX10_isDigit_19 rfl rfl ?_
      refine s_getR (pc2 := 23) X dX10_isDigit_20 rfl fl_RX10_7 rfl (fun v4 => ?_)
      refine s_iload_n (j := 1) (pc2 := 24) X dX10_isDigit_23 rfl rfl ?_
      refine s_bald (pc2 := 25) X dX10_isDigit_24 rfl (fun v5 hv5 => ?_)
      refine s_bipush (n := 57) (pc2 := 27) X dX10_isDigit_25 rfl rfl ?_
      refine s_icgt (tgt := 34) X dX10_isDigit_27 (by decide) rfl hv5 (inI_c 57 rfl) ?_ ?_
      · refine s_sub (lv2 := []) [] rfl ?_
        exact z_X10_isDigit_L34 d hd K X
      · refine s_iconst (n := 1) (pc2 := 31) X dX10_isDigit_30 rfl ?_
        refine s_goto (pc2 := 35) X dX10_isDigit_31 (by decide) ?_
        refine s_sub (lv2 := []) [] rfl ?_
        exact z_X10_isDigit_L35 d hd K X 1 (inI_c 1 rfl)
theorem c_X10_isDigit (d : Nat) (hd : 1 ≤ d) (G : hG) (l : Launch) (l0 : Nat) (l1 : Int) (h1 : inI l1) : hMet G l yX10_isDigit cX10_isDigit 2 (some .boolean) d 0 0 [vR G.1 l0, vI l1] (m_X10_isDigit l0 l1) := by
  refine hMet.of (lv := [(0, vR G.1 l0), (1, vI l1)]) (by decide +kernel) (by simp [lg_sl, vR_cat, vI_cat, vL_cat, vS_cat2, vT_cat2]) (by simp [lv_args, vR_cat, vI_cat, vL_cat, vS_cat2, vT_cat2]) (fun C K X => ?_)
  obtain ⟨rfl, rfl, K⟩ := K
  exact z_X10_isDigit d hd ⟨rfl, rfl, K⟩ X l0 l1 h1
def m_X10_isLetter_L35 (s0 : Int) : hM :=
  hretZ s0
def m_X10_isLetter_L34 : hM :=
  m_X10_isLetter_L35 0
def m_X10_isLetter (l0 : Nat) (l1 : Int) : hM :=
  hgI 10 l0 1 fun v1 =>
  hif (l1 ≥ v1) (
m_X10_isLetter_L34) (
hgR 10 l0 0 fun v2 =>
  haI 22 v2 l1 fun v3 =>
  hif (v3 < 97) (
m_X10_isLetter_L34) (
hgR 10 l0 0 fun v4 =>
  haI 22 v4 l1 fun v5 =>
  hif (v5 > 122) (
m_X10_isLetter_L34) (
m_X10_isLetter_L35 1)))
set_option maxRecDepth 4000 in
theorem z_X10_isLetter_L35 (d : Nat) (hd : 1 ≤ d) {C : hCx} (K : hCtx C.1 C.2.2.1 d 0 0 "isLetter" C) (X : hOK C cX10_isLetter RX10 2 (some .boolean)) (s0 : Int) (g0 : inI s0) : hSim C (some .boolean) 0 0 2 35 [] [vI s0] 0 0 (m_X10_isLetter_L35 s0) := by
  obtain ⟨⟨hf, hlo⟩, ⟨hc1, hc2⟩, hf1, hl1⟩ := K_room K (by omega)
  have hcs : 0 ≤ C.2.2.2.2.1.cells ∧ 0 ≤ C.2.2.2.2.1.slots := ⟨Nat.zero_le _, Nat.zero_le _⟩
  unfold m_X10_isLetter_L35
  exact s_zret X dX10_isLetter_35
set_option maxRecDepth 4000 in
theorem z_X10_isLetter_L34 (d : Nat) (hd : 1 ≤ d) {C : hCx} (K : hCtx C.1 C.2.2.1 d 0 0 "isLetter" C) (X : hOK C cX10_isLetter RX10 2 (some .boolean)) : hSim C (some .boolean) 0 0 2 34 [] [] 0 0 (m_X10_isLetter_L34) := by
  obtain ⟨⟨hf, hlo⟩, ⟨hc1, hc2⟩, hf1, hl1⟩ := K_room K (by omega)
  have hcs : 0 ≤ C.2.2.2.2.1.cells ∧ 0 ≤ C.2.2.2.2.1.slots := ⟨Nat.zero_le _, Nat.zero_le _⟩
  unfold m_X10_isLetter_L34
  refine s_iconst (n := 0) (pc2 := 35) X dX10_isLetter_34 rfl ?_
  exact z_X10_isLetter_L35 d hd K X 0 (inI_c 0 rfl)
set_option maxRecDepth 4000 in
set_option maxHeartbeats 20000000 in
theorem z_X10_isLetter (d : Nat) (hd : 1 ≤ d) {C : hCx} (K : hCtx C.1 C.2.2.1 d 0 0 "isLetter" C) (X : hOK C cX10_isLetter RX10 2 (some .boolean)) (l0 : Nat) (l1 : Int) (h1 : inI l1) : hSim C (some .boolean) 0 0 2 0 [(0, vR C.1.1 l0), (1, vI l1)] [] 0 0 (m_X10_isLetter l0 l1) := by
  obtain ⟨⟨hf, hlo⟩, ⟨hc1, hc2⟩, hf1, hl1⟩ := K_room K (by omega)
  have hcs : 0 ≤ C.2.2.2.2.1.cells ∧ 0 ≤ C.2.2.2.2.1.slots := ⟨Nat.zero_le _, Nat.zero_le _⟩
  unfold m_X10_isLetter
  refine s_iload_n (j := 1) (pc2 := 1) X dX10_isLetter_0 rfl rfl ?_
  refine s_aload_n (j := 0) (pc2 := 2) X dX10_isLetter_1 rfl rfl ?_
  refine s_getI (pc2 := 5) X dX10_isLetter_2 rfl fl_RX10_79 rfl (fun v1 hv1 => ?_)
  refine s_icge (tgt := 34) X dX10_isLetter_5 (by decide) rfl h1 hv1 ?_ ?_
  · refine s_sub (lv2 := []) [] rfl ?_
    exact z_X10_isLetter_L34 d hd K X
  · refine s_aload_n (j := 0) (pc2 := 9) X dX10_isLetter_8 rfl rfl ?_
    refine s_getR (pc2 := 12) X dX10_isLetter_9 rfl fl_RX10_7 rfl (fun v2 => ?_)
    refine s_iload_n (j := 1) (pc2 := 13) X dX10_isLetter_12 rfl rfl ?_
    refine s_bald (pc2 := 14) X dX10_isLetter_13 rfl (fun v3 hv3 => ?_)
    refine s_bipush (n := 97) (pc2 := 16) X dX10_isLetter_14 rfl rfl ?_
    refine s_iclt (tgt := 34) X dX10_isLetter_16 (by decide) rfl hv3 (inI_c 97 rfl) ?_ ?_
    · refine s_sub (lv2 := []) [] rfl ?_
      exact z_X10_isLetter_L34 d hd K X
    · refine s_aload_n (j := 0) (pc2 := 20) X dX10_isLetter_19 rfl rfl ?_
      refine s_getR (pc2 := 23) X dX10_isLetter_20 rfl fl_RX10_7 rfl (fun v4 => ?_)
      refine s_iload_n (j := 1) (pc2 := 24) X dX10_isLetter_23 rfl rfl ?_
      refine s_bald (pc2 := 25) X dX10_isLetter_24 rfl (fun v5 hv5 => ?_)
      refine s_bipush (n := 122) (pc2 := 27) X dX10_isLetter_25 rfl rfl ?_
      refine s_icgt (tgt := 34) X dX10_isLetter_27 (by decide) rfl hv5 (inI_c 122 rfl) ?_ ?_
      · refine s_sub (lv2 := []) [] rfl ?_
        exact z_X10_isLetter_L34 d hd K X
      · refine s_iconst (n := 1) (pc2 := 31) X dX10_isLetter_30 rfl ?_
        refine s_goto (pc2 := 35) X dX10_isLetter_31 (by decide) ?_
        refine s_sub (lv2 := []) [] rfl ?_
        exact z_X10_isLetter_L35 d hd K X 1 (inI_c 1 rfl)
theorem c_X10_isLetter (d : Nat) (hd : 1 ≤ d) (G : hG) (l : Launch) (l0 : Nat) (l1 : Int) (h1 : inI l1) : hMet G l yX10_isLetter cX10_isLetter 2 (some .boolean) d 0 0 [vR G.1 l0, vI l1] (m_X10_isLetter l0 l1) := by
  refine hMet.of (lv := [(0, vR G.1 l0), (1, vI l1)]) (by decide +kernel) (by simp [lg_sl, vR_cat, vI_cat, vL_cat, vS_cat2, vT_cat2]) (by simp [lv_args, vR_cat, vI_cat, vL_cat, vS_cat2, vT_cat2]) (fun C K X => ?_)
  obtain ⟨rfl, rfl, K⟩ := K
  exact z_X10_isLetter d hd ⟨rfl, rfl, K⟩ X l0 l1 h1
def m_X10_isWord_L79 (s0 : Int) : hM :=
  hretZ s0
def m_X10_isWord_L78 : hM :=
  m_X10_isWord_L79 0
def m_X10_isWord_L50 (k10 : Nat → Int → Int → Int → hM) (l0 : Nat) (l1 : Int) (l3 : Int) (l5 : Int) : hM :=
  hlet (w32 (l5 + 1)) fun (w1 : Int) =>
  k10 l0 l1 l3 w1
def m_X10_isWord_L10 : Nat → Nat → Int → Int → Int → hM
  | 0, _, _, _, _ => hfail
  | n + 1, l0, l1, l3, l5 =>
    hgI 10 l0 8 fun v1 =>
  hcallV 10 l0 (m_X10_isLetter l0 ((w32 (v1 + l5)))) fun v2 =>
  hif (v2 = 0) (
hif (l5 ≤ 0) (
m_X10_isWord_L78) (
hif (l5 ≥ 8) (
m_X10_isWord_L78) (
hif (((lcmpZ l3 l1)) ≠ 0) (
m_X10_isWord_L78) (
m_X10_isWord_L79 1)))) (
hif (l5 ≥ 8) (
m_X10_isWord_L50 (m_X10_isWord_L10 n) l0 l1 l3 l5) (
hgR 10 l0 0 fun v3 =>
  hgI 10 l0 8 fun v4 =>
  haI 22 v3 ((w32 (v4 + l5))) fun v5 =>
  hlet ((lorZ ((lshlZ l3 8)) v5)) fun (w6 : Int) =>
  m_X10_isWord_L50 (m_X10_isWord_L10 n) l0 l1 w6 l5))
def m_X10_isWord (l0 : Nat) (l1 : Int) : hM :=
  hcallV 10 l0 (m_X10_see l0) fun v1 =>
  hlet (0 : Int) fun (w2 : Int) =>
  hlet (0 : Int) fun (w3 : Int) =>
  m_X10_isWord_L10 1000000000 l0 l1 w2 w3
set_option maxRecDepth 4000 in
theorem z_X10_isWord_L79 (d : Nat) (hd : 2 ≤ d) {C : hCx} (K : hCtx C.1 C.2.2.1 d 0 0 "isWord" C) (X : hOK C cX10_isWord RX10 6 (some .boolean)) (s0 : Int) (g0 : inI s0) : hSim C (some .boolean) 0 0 6 79 [] [vI s0] 0 0 (m_X10_isWord_L79 s0) := by
  obtain ⟨⟨hf, hlo⟩, ⟨hc1, hc2⟩, hf1, hl1⟩ := K_room K (by omega)
  have hcs : 0 ≤ C.2.2.2.2.1.cells ∧ 0 ≤ C.2.2.2.2.1.slots := ⟨Nat.zero_le _, Nat.zero_le _⟩
  unfold m_X10_isWord_L79
  exact s_zret X dX10_isWord_79
set_option maxRecDepth 4000 in
theorem z_X10_isWord_L78 (d : Nat) (hd : 2 ≤ d) {C : hCx} (K : hCtx C.1 C.2.2.1 d 0 0 "isWord" C) (X : hOK C cX10_isWord RX10 6 (some .boolean)) : hSim C (some .boolean) 0 0 6 78 [] [] 0 0 (m_X10_isWord_L78) := by
  obtain ⟨⟨hf, hlo⟩, ⟨hc1, hc2⟩, hf1, hl1⟩ := K_room K (by omega)
  have hcs : 0 ≤ C.2.2.2.2.1.cells ∧ 0 ≤ C.2.2.2.2.1.slots := ⟨Nat.zero_le _, Nat.zero_le _⟩
  unfold m_X10_isWord_L78
  refine s_iconst (n := 0) (pc2 := 79) X dX10_isWord_78 rfl ?_
  exact z_X10_isWord_L79 d hd K X 0 (inI_c 0 rfl)
set_option maxRecDepth 4000 in
theorem z_X10_isWord_L50 (d : Nat) (hd : 2 ≤ d) {C : hCx} (K : hCtx C.1 C.2.2.1 d 0 0 "isWord" C) (X : hOK C cX10_isWord RX10 6 (some .boolean)) (k10 : Nat → Int → Int → Int → hM) (hk10 : ∀ (l0 : Nat) (l1 : Int) (l3 : Int) (l5 : Int), inL l1 → inL l3 → inI l5 → hSim C (some .boolean) 0 0 6 10 [(0, vR C.1.1 l0), (1, vL l1), (3, vL l3), (5, vI l5)] [] 0 0 (k10 l0 l1 l3 l5)) (l0 : Nat) (l1 : Int) (l3 : Int) (l5 : Int) (h1 : inL l1) (h3 : inL l3) (h5 : inI l5) : hSim C (some .boolean) 0 0 6 50 [(0, vR C.1.1 l0), (1, vL l1), (3, vL l3), (5, vI l5)] [] 0 0 (m_X10_isWord_L50 k10 l0 l1 l3 l5) := by
  obtain ⟨⟨hf, hlo⟩, ⟨hc1, hc2⟩, hf1, hl1⟩ := K_room K (by omega)
  have hcs : 0 ≤ C.2.2.2.2.1.cells ∧ 0 ≤ C.2.2.2.2.1.slots := ⟨Nat.zero_le _, Nat.zero_le _⟩
  unfold m_X10_isWord_L50
  refine s_iinc (j := 3) (pc2 := 53) X dX10_isWord_50 rfl (by decide) rfl rfl rfl cat1_N (fun w1 hw1 => ?_)
  refine s_goto (pc2 := 10) X dX10_isWord_53 (by decide) ?_
  refine s_sub (lv2 := [(0, vR C.1.1 l0), (1, vL l1), (3, vL l3), (5, vI w1)]) [1, 2, 3, 0] rfl ?_
  exact hk10 l0 l1 l3 w1 h1 h3 hw1
set_option maxRecDepth 4000 in
theorem z_X10_isWord_L10 (d : Nat) (hd : 2 ≤ d) {C : hCx} (K : hCtx C.1 C.2.2.1 d 0 0 "isWord" C) (X : hOK C cX10_isWord RX10 6 (some .boolean)) : ∀ (n : Nat) (l0 : Nat) (l1 : Int) (l3 : Int) (l5 : Int) (h1 : inL l1) (h3 : inL l3) (h5 : inI l5), hSim C (some .boolean) 0 0 6 10 [(0, vR C.1.1 l0), (1, vL l1), (3, vL l3), (5, vI l5)] [] 0 0 (m_X10_isWord_L10 n l0 l1 l3 l5) := by
  obtain ⟨⟨hf, hlo⟩, ⟨hc1, hc2⟩, hf1, hl1⟩ := K_room K (by omega)
  have hcs : 0 ≤ C.2.2.2.2.1.cells ∧ 0 ≤ C.2.2.2.2.1.slots := ⟨Nat.zero_le _, Nat.zero_le _⟩
  intro n
  induction n with
  | zero => intros; exact s_none (fun _ => rfl)
  | succ n ih =>
    intro l0 l1 l3 l5 h1 h3 h5
    unfold m_X10_isWord_L10
    refine s_aload_n (j := 0) (pc2 := 11) X dX10_isWord_10 rfl rfl ?_
    refine s_aload_n (j := 0) (pc2 := 12) X dX10_isWord_11 rfl rfl ?_
    refine s_getI (pc2 := 15) X dX10_isWord_12 rfl fl_RX10_90 rfl (fun v1 hv1 => ?_)
    refine s_iload (j := 3) (pc2 := 17) X dX10_isWord_15 rfl rfl ?_
    refine s_iadd (pc2 := 18) X dX10_isWord_17 rfl ?_
    refine s_callVZ (d2 := d - 1) (As := [vI ((w32 (v1 + l5)))]) (st := []) (pc2 := 21) X dX10_isWord_18 rfl ml_RX10_97 im_X10_isLetter se_X10_isLetter kX10 rfl (c_X10_isLetter (d - 1) (by omega) C.1 C.2.2.1 l0 ((w32 (v1 + l5))) (w32_in _)) hy_X10_isLetter rfl rfl hf hlo (st_room (Nat.le_of_ble_eq_true rfl)) hcs (fun v2 hv2 => ?_)
    refine s_ifeq (tgt := 56) X dX10_isWord_21 (by decide) rfl hv2 ?_ ?_
    · refine s_iload (j := 3) (pc2 := 58) X dX10_isWord_56 rfl rfl ?_
      refine s_ifle (tgt := 78) X dX10_isWord_58 (by decide) rfl h5 ?_ ?_
      · refine s_sub (lv2 := []) [] rfl ?_
        exact z_X10_isWord_L78 d hd K X
      · refine s_iload (j := 3) (pc2 := 63) X dX10_isWord_61 rfl rfl ?_
        refine s_bipush (n := 8) (pc2 := 65) X dX10_isWord_63 rfl rfl ?_
        refine s_icge (tgt := 78) X dX10_isWord_65 (by decide) rfl h5 (inI_c 8 rfl) ?_ ?_
        · refine s_sub (lv2 := []) [] rfl ?_
          exact z_X10_isWord_L78 d hd K X
        · refine s_lload_n (j := 2) (pc2 := 69) X dX10_isWord_68 rfl rfl ?_
          refine s_lload_n (j := 1) (pc2 := 70) X dX10_isWord_69 rfl rfl ?_
          refine s_lcmp (pc2 := 71) X dX10_isWord_70 rfl h3 h1 ?_
          refine s_ifne (tgt := 78) X dX10_isWord_71 (by decide) rfl (lcmpZ_in _ _) ?_ ?_
          · refine s_sub (lv2 := []) [] rfl ?_
            exact z_X10_isWord_L78 d hd K X
          · refine s_iconst (n := 1) (pc2 := 75) X dX10_isWord_74 rfl ?_
            refine s_goto (pc2 := 79) X dX10_isWord_75 (by decide) ?_
            refine s_sub (lv2 := []) [] rfl ?_
            exact z_X10_isWord_L79 d hd K X 1 (inI_c 1 rfl)
    · refine s_iload (j := 3) (pc2 := 26) X dX10_isWord_24 rfl rfl ?_
      refine s_bipush (n := 8) (pc2 := 28) X dX10_isWord_26 rfl rfl ?_
      refine s_icge (tgt := 50) X dX10_isWord_28 (by decide) rfl h5 (inI_c 8 rfl) ?_ ?_
      · exact z_X10_isWord_L50 d hd K X (m_X10_isWord_L10 n) ih l0 l1 l3 l5 h1 h3 h5
      · refine s_lload_n (j := 2) (pc2 := 32) X dX10_isWord_31 rfl rfl ?_
        refine s_bipush (n := 8) (pc2 := 34) X dX10_isWord_32 rfl rfl ?_
        refine s_lshl (pc2 := 35) X dX10_isWord_34 rfl ?_
        refine s_aload_n (j := 0) (pc2 := 36) X dX10_isWord_35 rfl rfl ?_
        refine s_getR (pc2 := 39) X dX10_isWord_36 rfl fl_RX10_7 rfl (fun v3 => ?_)
        refine s_aload_n (j := 0) (pc2 := 40) X dX10_isWord_39 rfl rfl ?_
        refine s_getI (pc2 := 43) X dX10_isWord_40 rfl fl_RX10_90 rfl (fun v4 hv4 => ?_)
        refine s_iload (j := 3) (pc2 := 45) X dX10_isWord_43 rfl rfl ?_
        refine s_iadd (pc2 := 46) X dX10_isWord_45 rfl ?_
        refine s_bald (pc2 := 47) X dX10_isWord_46 rfl (fun v5 hv5 => ?_)
        refine s_i2l (pc2 := 48) X dX10_isWord_47 rfl hv5 ?_
        refine s_lor (pc2 := 49) X dX10_isWord_48 rfl ?_
        refine s_lstore_n (pc2 := 50) X dX10_isWord_49 rfl (by decide) rfl rfl cat1_N (lorZ_in _ _) (fun w6 hw6 => ?_)
        refine s_sub (lv2 := [(0, vR C.1.1 l0), (1, vL l1), (3, vL w6), (5, vI l5)]) [1, 2, 0, 3] rfl ?_
        exact z_X10_isWord_L50 d hd K X (m_X10_isWord_L10 n) ih l0 l1 w6 l5 h1 hw6 h5
set_option maxRecDepth 4000 in
set_option maxHeartbeats 20000000 in
theorem z_X10_isWord (d : Nat) (hd : 2 ≤ d) {C : hCx} (K : hCtx C.1 C.2.2.1 d 0 0 "isWord" C) (X : hOK C cX10_isWord RX10 6 (some .boolean)) (l0 : Nat) (l1 : Int) (h1 : inL l1) : hSim C (some .boolean) 0 0 6 0 [(0, vR C.1.1 l0), (1, vL l1)] [] 0 0 (m_X10_isWord l0 l1) := by
  obtain ⟨⟨hf, hlo⟩, ⟨hc1, hc2⟩, hf1, hl1⟩ := K_room K (by omega)
  have hcs : 0 ≤ C.2.2.2.2.1.cells ∧ 0 ≤ C.2.2.2.2.1.slots := ⟨Nat.zero_le _, Nat.zero_le _⟩
  unfold m_X10_isWord
  refine s_aload_n (j := 0) (pc2 := 1) X dX10_isWord_0 rfl rfl ?_
  refine s_callVI (d2 := d - 1) (As := []) (st := []) (pc2 := 4) X dX10_isWord_1 rfl ml_RX10_93 im_X10_see se_X10_see kX10 rfl (c_X10_see (d - 1) (by omega) C.1 C.2.2.1 l0) hy_X10_see rfl rfl hf hlo (st_room (Nat.le_of_ble_eq_true rfl)) hcs (fun v1 hv1 => ?_)
  refine s_pop (pc2 := 5) X dX10_isWord_4 rfl rfl ?_
  refine s_lconst (z := 0) (pc2 := 6) X dX10_isWord_5 rfl rfl ?_
  refine s_lstore_n (pc2 := 7) X dX10_isWord_6 rfl (by decide) rfl rfl cat1_N (inL_c 0 rfl) (fun w2 hw2 => ?_)
  refine s_iconst (n := 0) (pc2 := 8) X dX10_isWord_7 rfl ?_
  refine s_istore (pc2 := 10) X dX10_isWord_8 rfl (by decide) rfl rfl cat1_N (inI_c 0 rfl) (fun w3 hw3 => ?_)
  refine s_sub (lv2 := [(0, vR C.1.1 l0), (1, vL l1), (3, vL w2), (5, vI w3)]) [2, 3, 1, 0] rfl ?_
  exact z_X10_isWord_L10 d hd K X 1000000000 l0 l1 w2 w3 h1 hw2 hw3
theorem c_X10_isWord (d : Nat) (hd : 2 ≤ d) (G : hG) (l : Launch) (l0 : Nat) (l1 : Int) (h1 : inL l1) : hMet G l yX10_isWord cX10_isWord 6 (some .boolean) d 0 0 [vR G.1 l0, vL l1] (m_X10_isWord l0 l1) := by
  refine hMet.of (lv := [(0, vR G.1 l0), (1, vL l1)]) (by decide +kernel) (by simp [lg_sl, vR_cat, vI_cat, vL_cat, vS_cat2, vT_cat2]) (by simp [lv_args, vR_cat, vI_cat, vL_cat, vS_cat2, vT_cat2]) (fun C K X => ?_)
  obtain ⟨rfl, rfl, K⟩ := K
  exact z_X10_isWord d hd ⟨rfl, rfl, K⟩ X l0 l1 h1
def m_X10_passWord_L0 : Nat → Nat → hM
  | 0, _ => hfail
  | n + 1, l0 =>
    hgI 10 l0 8 fun v1 =>
  hcallV 10 l0 (m_X10_isLetter l0 v1) fun v2 =>
  hif (v2 = 0) (
hret 0) (
hgI 10 l0 8 fun v3 =>
  hpI 10 l0 8 ((w32 (v3 + 1))) <|
  m_X10_passWord_L0 n l0)
def m_X10_passWord (l0 : Nat) : hM :=
  m_X10_passWord_L0 1000000000 l0
set_option maxRecDepth 4000 in
theorem z_X10_passWord_L0 (d : Nat) (hd : 2 ≤ d) {C : hCx} (K : hCtx C.1 C.2.2.1 d 0 0 "passWord" C) (X : hOK C cX10_passWord RX10 1 none) : ∀ (n : Nat) (l0 : Nat), hSim C none 0 0 1 0 [(0, vR C.1.1 l0)] [] 0 0 (m_X10_passWord_L0 n l0) := by
  obtain ⟨⟨hf, hlo⟩, ⟨hc1, hc2⟩, hf1, hl1⟩ := K_room K (by omega)
  have hcs : 0 ≤ C.2.2.2.2.1.cells ∧ 0 ≤ C.2.2.2.2.1.slots := ⟨Nat.zero_le _, Nat.zero_le _⟩
  intro n
  induction n with
  | zero => intros; exact s_none (fun _ => rfl)
  | succ n ih =>
    intro l0
    unfold m_X10_passWord_L0
    refine s_aload_n (j := 0) (pc2 := 1) X dX10_passWord_0 rfl rfl ?_
    refine s_aload_n (j := 0) (pc2 := 2) X dX10_passWord_1 rfl rfl ?_
    refine s_getI (pc2 := 5) X dX10_passWord_2 rfl fl_RX10_90 rfl (fun v1 hv1 => ?_)
    refine s_callVZ (d2 := d - 1) (As := [vI v1]) (st := []) (pc2 := 8) X dX10_passWord_5 rfl ml_RX10_97 im_X10_isLetter se_X10_isLetter kX10 rfl (c_X10_isLetter (d - 1) (by omega) C.1 C.2.2.1 l0 v1 hv1) hy_X10_isLetter rfl rfl hf hlo (st_room (Nat.le_of_ble_eq_true rfl)) hcs (fun v2 hv2 => ?_)
    refine s_ifeq (tgt := 24) X dX10_passWord_8 (by decide) rfl hv2 ?_ ?_
    · exact s_ret X dX10_passWord_24
    · refine s_aload_n (j := 0) (pc2 := 12) X dX10_passWord_11 rfl rfl ?_
      refine s_dup (pc2 := 13) X dX10_passWord_12 rfl (vR_cat _ _) ?_
      refine s_getI (pc2 := 16) X dX10_passWord_13 rfl fl_RX10_90 rfl (fun v3 hv3 => ?_)
      refine s_iconst (n := 1) (pc2 := 17) X dX10_passWord_16 rfl ?_
      refine s_iadd (pc2 := 18) X dX10_passWord_17 rfl ?_
      refine s_putI (pc2 := 21) X dX10_passWord_18 rfl fl_RX10_90 (Or.inl rfl) rfl (w32_in _) ?_
      refine s_goto (pc2 := 0) X dX10_passWord_21 (by decide) ?_
      exact ih l0
set_option maxRecDepth 4000 in
set_option maxHeartbeats 20000000 in
theorem z_X10_passWord (d : Nat) (hd : 2 ≤ d) {C : hCx} (K : hCtx C.1 C.2.2.1 d 0 0 "passWord" C) (X : hOK C cX10_passWord RX10 1 none) (l0 : Nat) : hSim C none 0 0 1 0 [(0, vR C.1.1 l0)] [] 0 0 (m_X10_passWord l0) := by
  obtain ⟨⟨hf, hlo⟩, ⟨hc1, hc2⟩, hf1, hl1⟩ := K_room K (by omega)
  have hcs : 0 ≤ C.2.2.2.2.1.cells ∧ 0 ≤ C.2.2.2.2.1.slots := ⟨Nat.zero_le _, Nat.zero_le _⟩
  unfold m_X10_passWord
  exact z_X10_passWord_L0 d hd K X 1000000000 l0
theorem c_X10_passWord (d : Nat) (hd : 2 ≤ d) (G : hG) (l : Launch) (l0 : Nat) : hMet G l yX10_passWord cX10_passWord 1 none d 0 0 [vR G.1 l0] (m_X10_passWord l0) := by
  refine hMet.of (lv := [(0, vR G.1 l0)]) (by decide +kernel) (by simp [lg_sl, vR_cat, vI_cat, vL_cat, vS_cat2, vT_cat2]) (by simp [lv_args, vR_cat, vI_cat, vL_cat, vS_cat2, vT_cat2]) (fun C K X => ?_)
  obtain ⟨rfl, rfl, K⟩ := K
  exact z_X10_passWord d hd ⟨rfl, rfl, K⟩ X l0
def m_X10_takesWord (l0 : Nat) (l1 : Int) : hM :=
  hcallV 10 l0 (m_X10_isWord l0 l1) fun v1 =>
  hif (v1 ≠ 0) (
hcallV 10 l0 (m_X10_passWord l0) fun _ =>
  hretZ 1) (
hretZ 0)
set_option maxRecDepth 4000 in
set_option maxHeartbeats 20000000 in
theorem z_X10_takesWord (d : Nat) (hd : 3 ≤ d) {C : hCx} (K : hCtx C.1 C.2.2.1 d 0 0 "takesWord" C) (X : hOK C cX10_takesWord RX10 3 (some .boolean)) (l0 : Nat) (l1 : Int) (h1 : inL l1) : hSim C (some .boolean) 0 0 3 0 [(0, vR C.1.1 l0), (1, vL l1)] [] 0 0 (m_X10_takesWord l0 l1) := by
  obtain ⟨⟨hf, hlo⟩, ⟨hc1, hc2⟩, hf1, hl1⟩ := K_room K (by omega)
  have hcs : 0 ≤ C.2.2.2.2.1.cells ∧ 0 ≤ C.2.2.2.2.1.slots := ⟨Nat.zero_le _, Nat.zero_le _⟩
  unfold m_X10_takesWord
  refine s_aload_n (j := 0) (pc2 := 1) X dX10_takesWord_0 rfl rfl ?_
  refine s_lload_n (j := 1) (pc2 := 2) X dX10_takesWord_1 rfl rfl ?_
  refine s_callVZ (d2 := d - 1) (As := [vL l1]) (st := []) (pc2 := 5) X dX10_takesWord_2 rfl ml_RX10_101 im_X10_isWord se_X10_isWord kX10 rfl (c_X10_isWord (d - 1) (by omega) C.1 C.2.2.1 l0 l1 h1) hy_X10_isWord rfl rfl hf hlo (st_room (Nat.le_of_ble_eq_true rfl)) hcs (fun v1 hv1 => ?_)
  refine s_ifne (tgt := 10) X dX10_takesWord_5 (by decide) rfl hv1 ?_ ?_
  · refine s_aload_n (j := 0) (pc2 := 11) X dX10_takesWord_10 rfl rfl ?_
    refine s_callVV (d2 := d - 1) (As := []) (st := []) (pc2 := 14) X dX10_takesWord_11 rfl ml_RX10_105 im_X10_passWord se_X10_passWord kX10 rfl (c_X10_passWord (d - 1) (by omega) C.1 C.2.2.1 l0) hy_X10_passWord rfl rfl hf hlo (st_room (Nat.le_of_ble_eq_true rfl)) hcs (fun _ => ?_)
    refine s_iconst (n := 1) (pc2 := 15) X dX10_takesWord_14 rfl ?_
    exact s_zret X dX10_takesWord_15
  · refine s_iconst (n := 0) (pc2 := 9) X dX10_takesWord_8 rfl ?_
    exact s_zret X dX10_takesWord_9
theorem c_X10_takesWord (d : Nat) (hd : 3 ≤ d) (G : hG) (l : Launch) (l0 : Nat) (l1 : Int) (h1 : inL l1) : hMet G l yX10_takesWord cX10_takesWord 3 (some .boolean) d 0 0 [vR G.1 l0, vL l1] (m_X10_takesWord l0 l1) := by
  refine hMet.of (lv := [(0, vR G.1 l0), (1, vL l1)]) (by decide +kernel) (by simp [lg_sl, vR_cat, vI_cat, vL_cat, vS_cat2, vT_cat2]) (by simp [lv_args, vR_cat, vI_cat, vL_cat, vS_cat2, vT_cat2]) (fun C K X => ?_)
  obtain ⟨rfl, rfl, K⟩ := K
  exact z_X10_takesWord d hd ⟨rfl, rfl, K⟩ X l0 l1 h1
def m_X10_numberHere_L131 (s0 : Int) : hM :=
  hretZ s0
def m_X10_numberHere_L126 : hM :=
  m_X10_numberHere_L131 1
def m_X10_numberHere_L117 (l0 : Nat) (l3 : Int) : hM :=
  hcallV 10 l0 (m_X10_fails l0 1 l3) fun v1 =>
  hif (v1 = 0) (
m_X10_numberHere_L131 0) (
m_X10_numberHere_L126)
def m_X10_numberHere_L75 (k34 : Nat → Int → Int → Int → Int → hM) (l0 : Nat) (l1 : Int) (l2 : Int) (l3 : Int) (l4 : Int) : hM :=
  hgI 10 l0 8 fun v1 =>
  hpI 10 l0 8 ((w32 (v1 + 1))) <|
  k34 l0 l1 l2 l3 l4
def m_X10_numberHere_L34 : Nat → Nat → Int → Int → Int → Int → hM
  | 0, _, _, _, _, _ => hfail
  | n + 1, l0, l1, l2, l3, l4 =>
    hgI 10 l0 8 fun v1 =>
  hcallV 10 l0 (m_X10_isDigit l0 v1) fun v2 =>
  hif (v2 = 0) (
hpI 10 l0 10 l4 <|
  hgI 10 l0 8 fun v3 =>
  hif (((w32 (v3 - l3))) > 5) (
m_X10_numberHere_L117 l0 l3) (
hcall (m_X10_in l4 l1 l2) fun v4 =>
  hif (v4 ≠ 0) (
m_X10_numberHere_L126) (
m_X10_numberHere_L117 l0 l3))) (
hgI 10 l0 8 fun v5 =>
  hif (((w32 (v5 - l3))) ≥ 5) (
m_X10_numberHere_L75 (m_X10_numberHere_L34 n) l0 l1 l2 l3 l4) (
hgR 10 l0 0 fun v6 =>
  hgI 10 l0 8 fun v7 =>
  haI 22 v6 v7 fun v8 =>
  hlet ((w32 (((w32 (((w32 (10 * l4))) + v8))) - 48))) fun (w9 : Int) =>
  m_X10_numberHere_L75 (m_X10_numberHere_L34 n) l0 l1 l2 l3 w9))
def m_X10_numberHere (l0 : Nat) (l1 : Int) (l2 : Int) : hM :=
  hcallV 10 l0 (m_X10_see l0) fun v1 =>
  hgI 10 l0 8 fun v2 =>
  hcallV 10 l0 (m_X10_isDigit l0 v2) fun v3 =>
  hif (v3 ≠ 0) (
hgI 10 l0 8 fun v4 =>
  hlet v4 fun (w5 : Int) =>
  hlet (0 : Int) fun (w6 : Int) =>
  m_X10_numberHere_L34 1000000000 l0 l1 l2 w5 w6) (
hgI 10 l0 8 fun v7 =>
  hcallV 10 l0 (m_X10_fails l0 0 v7) fun v8 =>
  hretZ v8)
set_option maxRecDepth 4000 in
theorem z_X10_numberHere_L131 (d : Nat) (hd : 2 ≤ d) {C : hCx} (K : hCtx C.1 C.2.2.1 d 0 0 "numberHere" C) (X : hOK C cX10_numberHere RX10 5 (some .boolean)) (s0 : Int) (g0 : inI s0) : hSim C (some .boolean) 0 0 5 131 [] [vI s0] 0 0 (m_X10_numberHere_L131 s0) := by
  obtain ⟨⟨hf, hlo⟩, ⟨hc1, hc2⟩, hf1, hl1⟩ := K_room K (by omega)
  have hcs : 0 ≤ C.2.2.2.2.1.cells ∧ 0 ≤ C.2.2.2.2.1.slots := ⟨Nat.zero_le _, Nat.zero_le _⟩
  unfold m_X10_numberHere_L131
  exact s_zret X dX10_numberHere_131
set_option maxRecDepth 4000 in
theorem z_X10_numberHere_L126 (d : Nat) (hd : 2 ≤ d) {C : hCx} (K : hCtx C.1 C.2.2.1 d 0 0 "numberHere" C) (X : hOK C cX10_numberHere RX10 5 (some .boolean)) : hSim C (some .boolean) 0 0 5 126 [] [] 0 0 (m_X10_numberHere_L126) := by
  obtain ⟨⟨hf, hlo⟩, ⟨hc1, hc2⟩, hf1, hl1⟩ := K_room K (by omega)
  have hcs : 0 ≤ C.2.2.2.2.1.cells ∧ 0 ≤ C.2.2.2.2.1.slots := ⟨Nat.zero_le _, Nat.zero_le _⟩
  unfold m_X10_numberHere_L126
  refine s_iconst (n := 1) (pc2 := 127) X dX10_numberHere_126 rfl ?_
  refine s_goto (pc2 := 131) X dX10_numberHere_127 (by decide) ?_
  exact z_X10_numberHere_L131 d hd K X 1 (inI_c 1 rfl)
set_option maxRecDepth 4000 in
theorem z_X10_numberHere_L117 (d : Nat) (hd : 2 ≤ d) {C : hCx} (K : hCtx C.1 C.2.2.1 d 0 0 "numberHere" C) (X : hOK C cX10_numberHere RX10 5 (some .boolean)) (l0 : Nat) (l3 : Int) (h3 : inI l3) : hSim C (some .boolean) 0 0 5 117 [(0, vR C.1.1 l0), (3, vI l3)] [] 0 0 (m_X10_numberHere_L117 l0 l3) := by
  obtain ⟨⟨hf, hlo⟩, ⟨hc1, hc2⟩, hf1, hl1⟩ := K_room K (by omega)
  have hcs : 0 ≤ C.2.2.2.2.1.cells ∧ 0 ≤ C.2.2.2.2.1.slots := ⟨Nat.zero_le _, Nat.zero_le _⟩
  unfold m_X10_numberHere_L117
  refine s_aload_n (j := 0) (pc2 := 118) X dX10_numberHere_117 rfl rfl ?_
  refine s_iconst (n := 1) (pc2 := 119) X dX10_numberHere_118 rfl ?_
  refine s_iload_n (j := 1) (pc2 := 120) X dX10_numberHere_119 rfl rfl ?_
  refine s_callVZ (d2 := d - 1) (As := [vI 1, vI l3]) (st := []) (pc2 := 123) X dX10_numberHere_120 rfl ml_RX10_111 im_X10_fails se_X10_fails kX10 rfl (c_X10_fails (d - 1) (by omega) C.1 C.2.2.1 l0 1 l3 (inI_c 1 rfl) h3) hy_X10_fails rfl rfl hf hlo (st_room (Nat.le_of_ble_eq_true rfl)) hcs (fun v1 hv1 => ?_)
  refine s_ifeq (tgt := 130) X dX10_numberHere_123 (by decide) rfl hv1 ?_ ?_
  · refine s_iconst (n := 0) (pc2 := 131) X dX10_numberHere_130 rfl ?_
    refine s_sub (lv2 := []) [] rfl ?_
    exact z_X10_numberHere_L131 d hd K X 0 (inI_c 0 rfl)
  · refine s_sub (lv2 := []) [] rfl ?_
    exact z_X10_numberHere_L126 d hd K X
set_option maxRecDepth 4000 in
theorem z_X10_numberHere_L75 (d : Nat) (hd : 2 ≤ d) {C : hCx} (K : hCtx C.1 C.2.2.1 d 0 0 "numberHere" C) (X : hOK C cX10_numberHere RX10 5 (some .boolean)) (k34 : Nat → Int → Int → Int → Int → hM) (hk34 : ∀ (l0 : Nat) (l1 : Int) (l2 : Int) (l3 : Int) (l4 : Int), inI l1 → inI l2 → inI l3 → inI l4 → hSim C (some .boolean) 0 0 5 34 [(0, vR C.1.1 l0), (1, vI l1), (2, vI l2), (3, vI l3), (4, vI l4)] [] 0 0 (k34 l0 l1 l2 l3 l4)) (l0 : Nat) (l1 : Int) (l2 : Int) (l3 : Int) (l4 : Int) (h1 : inI l1) (h2 : inI l2) (h3 : inI l3) (h4 : inI l4) : hSim C (some .boolean) 0 0 5 75 [(0, vR C.1.1 l0), (1, vI l1), (2, vI l2), (3, vI l3), (4, vI l4)] [] 0 0 (m_X10_numberHere_L75 k34 l0 l1 l2 l3 l4) := by
  obtain ⟨⟨hf, hlo⟩, ⟨hc1, hc2⟩, hf1, hl1⟩ := K_room K (by omega)
  have hcs : 0 ≤ C.2.2.2.2.1.cells ∧ 0 ≤ C.2.2.2.2.1.slots := ⟨Nat.zero_le _, Nat.zero_le _⟩
  unfold m_X10_numberHere_L75
  refine s_aload_n (j := 0) (pc2 := 76) X dX10_numberHere_75 rfl rfl ?_
  refine s_dup (pc2 := 77) X dX10_numberHere_76 rfl (vR_cat _ _) ?_
  refine s_getI (pc2 := 80) X dX10_numberHere_77 rfl fl_RX10_90 rfl (fun v1 hv1 => ?_)
  refine s_iconst (n := 1) (pc2 := 81) X dX10_numberHere_80 rfl ?_
  refine s_iadd (pc2 := 82) X dX10_numberHere_81 rfl ?_
  refine s_putI (pc2 := 85) X dX10_numberHere_82 rfl fl_RX10_90 (Or.inl rfl) rfl (w32_in _) ?_
  refine s_goto (pc2 := 34) X dX10_numberHere_85 (by decide) ?_
  exact hk34 l0 l1 l2 l3 l4 h1 h2 h3 h4
set_option maxRecDepth 4000 in
theorem z_X10_numberHere_L34 (d : Nat) (hd : 2 ≤ d) {C : hCx} (K : hCtx C.1 C.2.2.1 d 0 0 "numberHere" C) (X : hOK C cX10_numberHere RX10 5 (some .boolean)) : ∀ (n : Nat) (l0 : Nat) (l1 : Int) (l2 : Int) (l3 : Int) (l4 : Int) (h1 : inI l1) (h2 : inI l2) (h3 : inI l3) (h4 : inI l4), hSim C (some .boolean) 0 0 5 34 [(0, vR C.1.1 l0), (1, vI l1), (2, vI l2), (3, vI l3), (4, vI l4)] [] 0 0 (m_X10_numberHere_L34 n l0 l1 l2 l3 l4) := by
  obtain ⟨⟨hf, hlo⟩, ⟨hc1, hc2⟩, hf1, hl1⟩ := K_room K (by omega)
  have hcs : 0 ≤ C.2.2.2.2.1.cells ∧ 0 ≤ C.2.2.2.2.1.slots := ⟨Nat.zero_le _, Nat.zero_le _⟩
  intro n
  induction n with
  | zero => intros; exact s_none (fun _ => rfl)
  | succ n ih =>
    intro l0 l1 l2 l3 l4 h1 h2 h3 h4
    unfold m_X10_numberHere_L34
    refine s_aload_n (j := 0) (pc2 := 35) X dX10_numberHere_34 rfl rfl ?_
    refine s_aload_n (j := 0) (pc2 := 36) X dX10_numberHere_35 rfl rfl ?_
    refine s_getI (pc2 := 39) X dX10_numberHere_36 rfl fl_RX10_90 rfl (fun v1 hv1 => ?_)
    refine s_callVZ (d2 := d - 1) (As := [vI v1]) (st := []) (pc2 := 42) X dX10_numberHere_39 rfl ml_RX10_108 im_X10_isDigit se_X10_isDigit kX10 rfl (c_X10_isDigit (d - 1) (by omega) C.1 C.2.2.1 l0 v1 hv1) hy_X10_isDigit rfl rfl hf hlo (st_room (Nat.le_of_ble_eq_true rfl)) hcs (fun v2 hv2 => ?_)
    refine s_ifeq (tgt := 88) X dX10_numberHere_42 (by decide) rfl hv2 ?_ ?_
    · refine s_aload_n (j := 0) (pc2 := 89) X dX10_numberHere_88 rfl rfl ?_
      refine s_iload (j := 4) (pc2 := 91) X dX10_numberHere_89 rfl rfl ?_
      refine s_putI (pc2 := 94) X dX10_numberHere_91 rfl fl_RX10_115 (Or.inl rfl) rfl h4 ?_
      refine s_aload_n (j := 0) (pc2 := 95) X dX10_numberHere_94 rfl rfl ?_
      refine s_getI (pc2 := 98) X dX10_numberHere_95 rfl fl_RX10_90 rfl (fun v3 hv3 => ?_)
      refine s_iload_n (j := 3) (pc2 := 99) X dX10_numberHere_98 rfl rfl ?_
      refine s_isub (pc2 := 100) X dX10_numberHere_99 rfl ?_
      refine s_iconst (n := 5) (pc2 := 101) X dX10_numberHere_100 rfl ?_
      refine s_icgt (tgt := 117) X dX10_numberHere_101 (by decide) rfl (w32_in _) (inI_c 5 rfl) ?_ ?_
      · refine s_sub (lv2 := [(0, vR C.1.1 l0), (3, vI l3)]) [0, 3] rfl ?_
        exact z_X10_numberHere_L117 d hd K X l0 l3 h3
      · refine s_iload (j := 4) (pc2 := 106) X dX10_numberHere_104 rfl rfl ?_
        refine s_i2l (pc2 := 107) X dX10_numberHere_106 rfl h4 ?_
        refine s_iload_n (j := 1) (pc2 := 108) X dX10_numberHere_107 rfl rfl ?_
        refine s_i2l (pc2 := 109) X dX10_numberHere_108 rfl h1 ?_
        refine s_iload_n (j := 2) (pc2 := 110) X dX10_numberHere_109 rfl rfl ?_
        refine s_i2l (pc2 := 111) X dX10_numberHere_110 rfl h2 ?_
        refine s_callSZ (d2 := d - 1) (As := [vL l4, vL l1, vL l2]) (st := []) (pc2 := 114) X dX10_numberHere_111 rfl ml_RX10_118 sm_X10_in (c_X10_in (d - 1) (by omega) C.1 C.2.2.1 l4 l1 l2 (inL_of h4) (inL_of h1) (inL_of h2)) hy_X10_in rfl rfl hf hlo (st_room (Nat.le_of_ble_eq_true rfl)) hcs (fun v4 hv4 => ?_)
        refine s_ifne (tgt := 126) X dX10_numberHere_114 (by decide) rfl hv4 ?_ ?_
        · refine s_sub (lv2 := []) [] rfl ?_
          exact z_X10_numberHere_L126 d hd K X
        · refine s_sub (lv2 := [(0, vR C.1.1 l0), (3, vI l3)]) [0, 3] rfl ?_
          exact z_X10_numberHere_L117 d hd K X l0 l3 h3
    · refine s_aload_n (j := 0) (pc2 := 46) X dX10_numberHere_45 rfl rfl ?_
      refine s_getI (pc2 := 49) X dX10_numberHere_46 rfl fl_RX10_90 rfl (fun v5 hv5 => ?_)
      refine s_iload_n (j := 3) (pc2 := 50) X dX10_numberHere_49 rfl rfl ?_
      refine s_isub (pc2 := 51) X dX10_numberHere_50 rfl ?_
      refine s_iconst (n := 5) (pc2 := 52) X dX10_numberHere_51 rfl ?_
      refine s_icge (tgt := 75) X dX10_numberHere_52 (by decide) rfl (w32_in _) (inI_c 5 rfl) ?_ ?_
      · exact z_X10_numberHere_L75 d hd K X (m_X10_numberHere_L34 n) ih l0 l1 l2 l3 l4 h1 h2 h3 h4
      · refine s_bipush (n := 10) (pc2 := 57) X dX10_numberHere_55 rfl rfl ?_
        refine s_iload (j := 4) (pc2 := 59) X dX10_numberHere_57 rfl rfl ?_
        refine s_imul (pc2 := 60) X dX10_numberHere_59 rfl ?_
        refine s_aload_n (j := 0) (pc2 := 61) X dX10_numberHere_60 rfl rfl ?_
        refine s_getR (pc2 := 64) X dX10_numberHere_61 rfl fl_RX10_7 rfl (fun v6 => ?_)
        refine s_aload_n (j := 0) (pc2 := 65) X dX10_numberHere_64 rfl rfl ?_
        refine s_getI (pc2 := 68) X dX10_numberHere_65 rfl fl_RX10_90 rfl (fun v7 hv7 => ?_)
        refine s_bald (pc2 := 69) X dX10_numberHere_68 rfl (fun v8 hv8 => ?_)
        refine s_iadd (pc2 := 70) X dX10_numberHere_69 rfl ?_
        refine s_bipush (n := 48) (pc2 := 72) X dX10_numberHere_70 rfl rfl ?_
        refine s_isub (pc2 := 73) X dX10_numberHere_72 rfl ?_
        refine s_istore (pc2 := 75) X dX10_numberHere_73 rfl (by decide) rfl rfl cat1_I (w32_in _) (fun w9 hw9 => ?_)
        refine s_sub (lv2 := [(0, vR C.1.1 l0), (1, vI l1), (2, vI l2), (3, vI l3), (4, vI w9)]) [1, 2, 3, 4, 0] rfl ?_
        exact z_X10_numberHere_L75 d hd K X (m_X10_numberHere_L34 n) ih l0 l1 l2 l3 w9 h1 h2 h3 hw9
set_option maxRecDepth 4000 in
set_option maxHeartbeats 20000000 in
theorem z_X10_numberHere (d : Nat) (hd : 2 ≤ d) {C : hCx} (K : hCtx C.1 C.2.2.1 d 0 0 "numberHere" C) (X : hOK C cX10_numberHere RX10 5 (some .boolean)) (l0 : Nat) (l1 : Int) (l2 : Int) (h1 : inI l1) (h2 : inI l2) : hSim C (some .boolean) 0 0 5 0 [(0, vR C.1.1 l0), (1, vI l1), (2, vI l2)] [] 0 0 (m_X10_numberHere l0 l1 l2) := by
  obtain ⟨⟨hf, hlo⟩, ⟨hc1, hc2⟩, hf1, hl1⟩ := K_room K (by omega)
  have hcs : 0 ≤ C.2.2.2.2.1.cells ∧ 0 ≤ C.2.2.2.2.1.slots := ⟨Nat.zero_le _, Nat.zero_le _⟩
  unfold m_X10_numberHere
  refine s_aload_n (j := 0) (pc2 := 1) X dX10_numberHere_0 rfl rfl ?_
  refine s_callVI (d2 := d - 1) (As := []) (st := []) (pc2 := 4) X dX10_numberHere_1 rfl ml_RX10_93 im_X10_see se_X10_see kX10 rfl (c_X10_see (d - 1) (by omega) C.1 C.2.2.1 l0) hy_X10_see rfl rfl hf hlo (st_room (Nat.le_of_ble_eq_true rfl)) hcs (fun v1 hv1 => ?_)
  refine s_pop (pc2 := 5) X dX10_numberHere_4 rfl rfl ?_
  refine s_aload_n (j := 0) (pc2 := 6) X dX10_numberHere_5 rfl rfl ?_
  refine s_aload_n (j := 0) (pc2 := 7) X dX10_numberHere_6 rfl rfl ?_
  refine s_getI (pc2 := 10) X dX10_numberHere_7 rfl fl_RX10_90 rfl (fun v2 hv2 => ?_)
  refine s_callVZ (d2 := d - 1) (As := [vI v2]) (st := []) (pc2 := 13) X dX10_numberHere_10 rfl ml_RX10_108 im_X10_isDigit se_X10_isDigit kX10 rfl (c_X10_isDigit (d - 1) (by omega) C.1 C.2.2.1 l0 v2 hv2) hy_X10_isDigit rfl rfl hf hlo (st_room (Nat.le_of_ble_eq_true rfl)) hcs (fun v3 hv3 => ?_)
  refine s_ifne (tgt := 26) X dX10_numberHere_13 (by decide) rfl hv3 ?_ ?_
  · refine s_aload_n (j := 0) (pc2 := 27) X dX10_numberHere_26 rfl rfl ?_
    refine s_getI (pc2 := 30) X dX10_numberHere_27 rfl fl_RX10_90 rfl (fun v4 hv4 => ?_)
    refine s_istore_n (pc2 := 31) X dX10_numberHere_30 rfl (by decide) rfl rfl cat1_I hv4 (fun w5 hw5 => ?_)
    refine s_iconst (n := 0) (pc2 := 32) X dX10_numberHere_31 rfl ?_
    refine s_istore (pc2 := 34) X dX10_numberHere_32 rfl (by decide) rfl rfl cat1_I (inI_c 0 rfl) (fun w6 hw6 => ?_)
    refine s_sub (lv2 := [(0, vR C.1.1 l0), (1, vI l1), (2, vI l2), (3, vI w5), (4, vI w6)]) [2, 3, 4, 1, 0] rfl ?_
    exact z_X10_numberHere_L34 d hd K X 1000000000 l0 l1 l2 w5 w6 h1 h2 hw5 hw6
  · refine s_aload_n (j := 0) (pc2 := 17) X dX10_numberHere_16 rfl rfl ?_
    refine s_iconst (n := 0) (pc2 := 18) X dX10_numberHere_17 rfl ?_
    refine s_aload_n (j := 0) (pc2 := 19) X dX10_numberHere_18 rfl rfl ?_
    refine s_getI (pc2 := 22) X dX10_numberHere_19 rfl fl_RX10_90 rfl (fun v7 hv7 => ?_)
    refine s_callVZ (d2 := d - 1) (As := [vI 0, vI v7]) (st := []) (pc2 := 25) X dX10_numberHere_22 rfl ml_RX10_111 im_X10_fails se_X10_fails kX10 rfl (c_X10_fails (d - 1) (by omega) C.1 C.2.2.1 l0 0 v7 (inI_c 0 rfl) hv7) hy_X10_fails rfl rfl hf hlo (st_room (Nat.le_of_ble_eq_true rfl)) hcs (fun v8 hv8 => ?_)
    exact s_zret X dX10_numberHere_25
theorem c_X10_numberHere (d : Nat) (hd : 2 ≤ d) (G : hG) (l : Launch) (l0 : Nat) (l1 : Int) (l2 : Int) (h1 : inI l1) (h2 : inI l2) : hMet G l yX10_numberHere cX10_numberHere 5 (some .boolean) d 0 0 [vR G.1 l0, vI l1, vI l2] (m_X10_numberHere l0 l1 l2) := by
  refine hMet.of (lv := [(0, vR G.1 l0), (1, vI l1), (2, vI l2)]) (by decide +kernel) (by simp [lg_sl, vR_cat, vI_cat, vL_cat, vS_cat2, vT_cat2]) (by simp [lv_args, vR_cat, vI_cat, vL_cat, vS_cat2, vT_cat2]) (fun C K X => ?_)
  obtain ⟨rfl, rfl, K⟩ := K
  exact z_X10_numberHere d hd ⟨rfl, rfl, K⟩ X l0 l1 l2 h1 h2
def m_X10_wordHere_L155 (s0 : Int) : hM :=
  hret s0
def m_X10_wordHere (l0 : Nat) : hM :=
  hcallV 10 l0 (m_X10_isWord l0 123581014175598) fun v1 =>
  hif (v1 = 0) (
hcallV 10 l0 (m_X10_isWord l0 108243533981541) fun v2 =>
  hif (v2 = 0) (
hcallV 10 l0 (m_X10_isWord l0 1718775661) fun v3 =>
  hif (v3 = 0) (
hcallV 10 l0 (m_X10_isWord l0 29807) fun v4 =>
  hif (v4 = 0) (
hcallV 10 l0 (m_X10_isWord l0 1752132965) fun v5 =>
  hif (v5 = 0) (
hcallV 10 l0 (m_X10_isWord l0 1818584692) fun v6 =>
  hif (v6 = 0) (
hcallV 10 l0 (m_X10_isWord l0 6578553) fun v7 =>
  hif (v7 = 0) (
hcallV 10 l0 (m_X10_isWord l0 1735352684) fun v8 =>
  hif (v8 = 0) (
hcallV 10 l0 (m_X10_isWord l0 7364985) fun v9 =>
  hif (v9 = 0) (
hcallV 10 l0 (m_X10_isWord l0 504364296556) fun v10 =>
  hif (v10 = 0) (
hcallV 10 l0 (m_X10_isWord l0 121381705639282) fun v11 =>
  hif (v11 = 0) (
hcallV 10 l0 (m_X10_isWord l0 123580963646565) fun v12 =>
  hif (v12 = 0) (
m_X10_wordHere_L155 ((-1))) (
m_X10_wordHere_L155 11)) (
m_X10_wordHere_L155 10)) (
hret 9)) (
hret 8)) (
hret 7)) (
hret 6)) (
hret 5)) (
hret 4)) (
hret 3)) (
hret 2)) (
hret 1)) (
hret 0)
set_option maxRecDepth 4000 in
theorem z_X10_wordHere_L155 (d : Nat) (hd : 3 ≤ d) {C : hCx} (K : hCtx C.1 C.2.2.1 d 0 0 "wordHere" C) (X : hOK C cX10_wordHere RX10 1 (some .int)) (s0 : Int) (g0 : inI s0) : hSim C (some .int) 0 0 1 155 [] [vI s0] 0 0 (m_X10_wordHere_L155 s0) := by
  obtain ⟨⟨hf, hlo⟩, ⟨hc1, hc2⟩, hf1, hl1⟩ := K_room K (by omega)
  have hcs : 0 ≤ C.2.2.2.2.1.cells ∧ 0 ≤ C.2.2.2.2.1.slots := ⟨Nat.zero_le _, Nat.zero_le _⟩
  unfold m_X10_wordHere_L155
  exact s_iret X dX10_wordHere_155 g0
set_option maxRecDepth 4000 in
set_option maxHeartbeats 20000000 in
theorem z_X10_wordHere (d : Nat) (hd : 3 ≤ d) {C : hCx} (K : hCtx C.1 C.2.2.1 d 0 0 "wordHere" C) (X : hOK C cX10_wordHere RX10 1 (some .int)) (l0 : Nat) : hSim C (some .int) 0 0 1 0 [(0, vR C.1.1 l0)] [] 0 0 (m_X10_wordHere l0) := by
  obtain ⟨⟨hf, hlo⟩, ⟨hc1, hc2⟩, hf1, hl1⟩ := K_room K (by omega)
  have hcs : 0 ≤ C.2.2.2.2.1.cells ∧ 0 ≤ C.2.2.2.2.1.slots := ⟨Nat.zero_le _, Nat.zero_le _⟩
  unfold m_X10_wordHere
  refine s_aload_n (j := 0) (pc2 := 1) X dX10_wordHere_0 rfl rfl ?_
  refine s_ldc2 (z := 123581014175598) (pc2 := 4) X dX10_wordHere_1 rfl kc_RX10_122 ?_
  refine s_callVZ (d2 := d - 1) (As := [vL 123581014175598]) (st := []) (pc2 := 7) X dX10_wordHere_4 rfl ml_RX10_101 im_X10_isWord se_X10_isWord kX10 rfl (c_X10_isWord (d - 1) (by omega) C.1 C.2.2.1 l0 123581014175598 (inL_c 123581014175598 rfl)) hy_X10_isWord rfl rfl hf hlo (st_room (Nat.le_of_ble_eq_true rfl)) hcs (fun v1 hv1 => ?_)
  refine s_ifeq (tgt := 12) X dX10_wordHere_7 (by decide) rfl hv1 ?_ ?_
  · refine s_aload_n (j := 0) (pc2 := 13) X dX10_wordHere_12 rfl rfl ?_
    refine s_ldc2 (z := 108243533981541) (pc2 := 16) X dX10_wordHere_13 rfl kc_RX10_124 ?_
    refine s_callVZ (d2 := d - 1) (As := [vL 108243533981541]) (st := []) (pc2 := 19) X dX10_wordHere_16 rfl ml_RX10_101 im_X10_isWord se_X10_isWord kX10 rfl (c_X10_isWord (d - 1) (by omega) C.1 C.2.2.1 l0 108243533981541 (inL_c 108243533981541 rfl)) hy_X10_isWord rfl rfl hf hlo (st_room (Nat.le_of_ble_eq_true rfl)) hcs (fun v2 hv2 => ?_)
    refine s_ifeq (tgt := 24) X dX10_wordHere_19 (by decide) rfl hv2 ?_ ?_
    · refine s_aload_n (j := 0) (pc2 := 25) X dX10_wordHere_24 rfl rfl ?_
      refine s_ldc2 (z := 1718775661) (pc2 := 28) X dX10_wordHere_25 rfl kc_RX10_126 ?_
      refine s_callVZ (d2 := d - 1) (As := [vL 1718775661]) (st := []) (pc2 := 31) X dX10_wordHere_28 rfl ml_RX10_101 im_X10_isWord se_X10_isWord kX10 rfl (c_X10_isWord (d - 1) (by omega) C.1 C.2.2.1 l0 1718775661 (inL_c 1718775661 rfl)) hy_X10_isWord rfl rfl hf hlo (st_room (Nat.le_of_ble_eq_true rfl)) hcs (fun v3 hv3 => ?_)
      refine s_ifeq (tgt := 36) X dX10_wordHere_31 (by decide) rfl hv3 ?_ ?_
      · refine s_aload_n (j := 0) (pc2 := 37) X dX10_wordHere_36 rfl rfl ?_
        refine s_ldc2 (z := 29807) (pc2 := 40) X dX10_wordHere_37 rfl kc_RX10_128 ?_
        refine s_callVZ (d2 := d - 1) (As := [vL 29807]) (st := []) (pc2 := 43) X dX10_wordHere_40 rfl ml_RX10_101 im_X10_isWord se_X10_isWord kX10 rfl (c_X10_isWord (d - 1) (by omega) C.1 C.2.2.1 l0 29807 (inL_c 29807 rfl)) hy_X10_isWord rfl rfl hf hlo (st_room (Nat.le_of_ble_eq_true rfl)) hcs (fun v4 hv4 => ?_)
        refine s_ifeq (tgt := 48) X dX10_wordHere_43 (by decide) rfl hv4 ?_ ?_
        · refine s_aload_n (j := 0) (pc2 := 49) X dX10_wordHere_48 rfl rfl ?_
          refine s_ldc2 (z := 1752132965) (pc2 := 52) X dX10_wordHere_49 rfl kc_RX10_130 ?_
          refine s_callVZ (d2 := d - 1) (As := [vL 1752132965]) (st := []) (pc2 := 55) X dX10_wordHere_52 rfl ml_RX10_101 im_X10_isWord se_X10_isWord kX10 rfl (c_X10_isWord (d - 1) (by omega) C.1 C.2.2.1 l0 1752132965 (inL_c 1752132965 rfl)) hy_X10_isWord rfl rfl hf hlo (st_room (Nat.le_of_ble_eq_true rfl)) hcs (fun v5 hv5 => ?_)
          refine s_ifeq (tgt := 60) X dX10_wordHere_55 (by decide) rfl hv5 ?_ ?_
          · refine s_aload_n (j := 0) (pc2 := 61) X dX10_wordHere_60 rfl rfl ?_
            refine s_ldc2 (z := 1818584692) (pc2 := 64) X dX10_wordHere_61 rfl kc_RX10_132 ?_
            refine s_callVZ (d2 := d - 1) (As := [vL 1818584692]) (st := []) (pc2 := 67) X dX10_wordHere_64 rfl ml_RX10_101 im_X10_isWord se_X10_isWord kX10 rfl (c_X10_isWord (d - 1) (by omega) C.1 C.2.2.1 l0 1818584692 (inL_c 1818584692 rfl)) hy_X10_isWord rfl rfl hf hlo (st_room (Nat.le_of_ble_eq_true rfl)) hcs (fun v6 hv6 => ?_)
            refine s_ifeq (tgt := 72) X dX10_wordHere_67 (by decide) rfl hv6 ?_ ?_
            · refine s_aload_n (j := 0) (pc2 := 73) X dX10_wordHere_72 rfl rfl ?_
              refine s_ldc2 (z := 6578553) (pc2 := 76) X dX10_wordHere_73 rfl kc_RX10_134 ?_
              refine s_callVZ (d2 := d - 1) (As := [vL 6578553]) (st := []) (pc2 := 79) X dX10_wordHere_76 rfl ml_RX10_101 im_X10_isWord se_X10_isWord kX10 rfl (c_X10_isWord (d - 1) (by omega) C.1 C.2.2.1 l0 6578553 (inL_c 6578553 rfl)) hy_X10_isWord rfl rfl hf hlo (st_room (Nat.le_of_ble_eq_true rfl)) hcs (fun v7 hv7 => ?_)
              refine s_ifeq (tgt := 85) X dX10_wordHere_79 (by decide) rfl hv7 ?_ ?_
              · refine s_aload_n (j := 0) (pc2 := 86) X dX10_wordHere_85 rfl rfl ?_
                refine s_ldc2 (z := 1735352684) (pc2 := 89) X dX10_wordHere_86 rfl kc_RX10_136 ?_
                refine s_callVZ (d2 := d - 1) (As := [vL 1735352684]) (st := []) (pc2 := 92) X dX10_wordHere_89 rfl ml_RX10_101 im_X10_isWord se_X10_isWord kX10 rfl (c_X10_isWord (d - 1) (by omega) C.1 C.2.2.1 l0 1735352684 (inL_c 1735352684 rfl)) hy_X10_isWord rfl rfl hf hlo (st_room (Nat.le_of_ble_eq_true rfl)) hcs (fun v8 hv8 => ?_)
                refine s_ifeq (tgt := 98) X dX10_wordHere_92 (by decide) rfl hv8 ?_ ?_
                · refine s_aload_n (j := 0) (pc2 := 99) X dX10_wordHere_98 rfl rfl ?_
                  refine s_ldc2 (z := 7364985) (pc2 := 102) X dX10_wordHere_99 rfl kc_RX10_138 ?_
                  refine s_callVZ (d2 := d - 1) (As := [vL 7364985]) (st := []) (pc2 := 105) X dX10_wordHere_102 rfl ml_RX10_101 im_X10_isWord se_X10_isWord kX10 rfl (c_X10_isWord (d - 1) (by omega) C.1 C.2.2.1 l0 7364985 (inL_c 7364985 rfl)) hy_X10_isWord rfl rfl hf hlo (st_room (Nat.le_of_ble_eq_true rfl)) hcs (fun v9 hv9 => ?_)
                  refine s_ifeq (tgt := 111) X dX10_wordHere_105 (by decide) rfl hv9 ?_ ?_
                  · refine s_aload_n (j := 0) (pc2 := 112) X dX10_wordHere_111 rfl rfl ?_
                    refine s_ldc2 (z := 504364296556) (pc2 := 115) X dX10_wordHere_112 rfl kc_RX10_140 ?_
                    refine s_callVZ (d2 := d - 1) (As := [vL 504364296556]) (st := []) (pc2 := 118) X dX10_wordHere_115 rfl ml_RX10_101 im_X10_isWord se_X10_isWord kX10 rfl (c_X10_isWord (d - 1) (by omega) C.1 C.2.2.1 l0 504364296556 (inL_c 504364296556 rfl)) hy_X10_isWord rfl rfl hf hlo (st_room (Nat.le_of_ble_eq_true rfl)) hcs (fun v10 hv10 => ?_)
                    refine s_ifeq (tgt := 124) X dX10_wordHere_118 (by decide) rfl hv10 ?_ ?_
                    · refine s_aload_n (j := 0) (pc2 := 125) X dX10_wordHere_124 rfl rfl ?_
                      refine s_ldc2 (z := 121381705639282) (pc2 := 128) X dX10_wordHere_125 rfl kc_RX10_142 ?_
                      refine s_callVZ (d2 := d - 1) (As := [vL 121381705639282]) (st := []) (pc2 := 131) X dX10_wordHere_128 rfl ml_RX10_101 im_X10_isWord se_X10_isWord kX10 rfl (c_X10_isWord (d - 1) (by omega) C.1 C.2.2.1 l0 121381705639282 (inL_c 121381705639282 rfl)) hy_X10_isWord rfl rfl hf hlo (st_room (Nat.le_of_ble_eq_true rfl)) hcs (fun v11 hv11 => ?_)
                      refine s_ifeq (tgt := 139) X dX10_wordHere_131 (by decide) rfl hv11 ?_ ?_
                      · refine s_aload_n (j := 0) (pc2 := 140) X dX10_wordHere_139 rfl rfl ?_
                        refine s_ldc2 (z := 123580963646565) (pc2 := 143) X dX10_wordHere_140 rfl kc_RX10_144 ?_
                        refine s_callVZ (d2 := d - 1) (As := [vL 123580963646565]) (st := []) (pc2 := 146) X dX10_wordHere_143 rfl ml_RX10_101 im_X10_isWord se_X10_isWord kX10 rfl (c_X10_isWord (d - 1) (by omega) C.1 C.2.2.1 l0 123580963646565 (inL_c 123580963646565 rfl)) hy_X10_isWord rfl rfl hf hlo (st_room (Nat.le_of_ble_eq_true rfl)) hcs (fun v12 hv12 => ?_)
                        refine s_ifeq (tgt := 154) X dX10_wordHere_146 (by decide) rfl hv12 ?_ ?_
                        · refine s_iconst (n := (-1)) (pc2 := 155) X dX10_wordHere_154 rfl ?_
                          refine s_sub (lv2 := []) [] rfl ?_
                          exact z_X10_wordHere_L155 d hd K X ((-1)) (inI_c (-1) rfl)
                        · refine s_bipush (n := 11) (pc2 := 151) X dX10_wordHere_149 rfl rfl ?_
                          refine s_goto (pc2 := 155) X dX10_wordHere_151 (by decide) ?_
                          refine s_sub (lv2 := []) [] rfl ?_
                          exact z_X10_wordHere_L155 d hd K X 11 (inI_c 11 rfl)
                      · refine s_bipush (n := 10) (pc2 := 136) X dX10_wordHere_134 rfl rfl ?_
                        refine s_goto (pc2 := 155) X dX10_wordHere_136 (by decide) ?_
                        refine s_sub (lv2 := []) [] rfl ?_
                        exact z_X10_wordHere_L155 d hd K X 10 (inI_c 10 rfl)
                    · refine s_bipush (n := 9) (pc2 := 123) X dX10_wordHere_121 rfl rfl ?_
                      exact s_iret X dX10_wordHere_123 (inI_c 9 rfl)
                  · refine s_bipush (n := 8) (pc2 := 110) X dX10_wordHere_108 rfl rfl ?_
                    exact s_iret X dX10_wordHere_110 (inI_c 8 rfl)
                · refine s_bipush (n := 7) (pc2 := 97) X dX10_wordHere_95 rfl rfl ?_
                  exact s_iret X dX10_wordHere_97 (inI_c 7 rfl)
              · refine s_bipush (n := 6) (pc2 := 84) X dX10_wordHere_82 rfl rfl ?_
                exact s_iret X dX10_wordHere_84 (inI_c 6 rfl)
            · refine s_iconst (n := 5) (pc2 := 71) X dX10_wordHere_70 rfl ?_
              exact s_iret X dX10_wordHere_71 (inI_c 5 rfl)
          · refine s_iconst (n := 4) (pc2 := 59) X dX10_wordHere_58 rfl ?_
            exact s_iret X dX10_wordHere_59 (inI_c 4 rfl)
        · refine s_iconst (n := 3) (pc2 := 47) X dX10_wordHere_46 rfl ?_
          exact s_iret X dX10_wordHere_47 (inI_c 3 rfl)
      · refine s_iconst (n := 2) (pc2 := 35) X dX10_wordHere_34 rfl ?_
        exact s_iret X dX10_wordHere_35 (inI_c 2 rfl)
    · refine s_iconst (n := 1) (pc2 := 23) X dX10_wordHere_22 rfl ?_
      exact s_iret X dX10_wordHere_23 (inI_c 1 rfl)
  · refine s_iconst (n := 0) (pc2 := 11) X dX10_wordHere_10 rfl ?_
    exact s_iret X dX10_wordHere_11 (inI_c 0 rfl)
theorem c_X10_wordHere (d : Nat) (hd : 3 ≤ d) (G : hG) (l : Launch) (l0 : Nat) : hMet G l yX10_wordHere cX10_wordHere 1 (some .int) d 0 0 [vR G.1 l0] (m_X10_wordHere l0) := by
  refine hMet.of (lv := [(0, vR G.1 l0)]) (by decide +kernel) (by simp [lg_sl, vR_cat, vI_cat, vL_cat, vS_cat2, vT_cat2]) (by simp [lv_args, vR_cat, vI_cat, vL_cat, vS_cat2, vT_cat2]) (fun C K X => ?_)
  obtain ⟨rfl, rfl, K⟩ := K
  exact z_X10_wordHere d hd ⟨rfl, rfl, K⟩ X l0
def m_X10_puts (l0 : Nat) (l1 : Int) (l2 : Int) : hM :=
  hgR 10 l0 3 fun v1 =>
  hgI 10 l0 11 fun v2 =>
  hgR 10 l0 4 fun v3 =>
  hgI 10 l0 11 fun v4 =>
  haI 20 v3 v4 fun v5 =>
  hsI 20 v1 ((w32 (((w32 (400 * v2))) + v5))) ((w32 (l1 + ((w32 (16 * l2)))))) <|
  hgR 10 l0 4 fun v6 =>
  hgI 10 l0 11 fun v7 =>
  haI 20 v6 v7 fun v8 =>
  hsI 20 v6 v7 ((w32 (v8 + 1))) <|
  hret 0
set_option maxRecDepth 4000 in
set_option maxHeartbeats 20000000 in
theorem z_X10_puts (d : Nat) (hd : 1 ≤ d) {C : hCx} (K : hCtx C.1 C.2.2.1 d 0 0 "puts" C) (X : hOK C cX10_puts RX10 3 none) (l0 : Nat) (l1 : Int) (l2 : Int) (h1 : inI l1) (h2 : inI l2) : hSim C none 0 0 3 0 [(0, vR C.1.1 l0), (1, vI l1), (2, vI l2)] [] 0 0 (m_X10_puts l0 l1 l2) := by
  obtain ⟨⟨hf, hlo⟩, ⟨hc1, hc2⟩, hf1, hl1⟩ := K_room K (by omega)
  have hcs : 0 ≤ C.2.2.2.2.1.cells ∧ 0 ≤ C.2.2.2.2.1.slots := ⟨Nat.zero_le _, Nat.zero_le _⟩
  unfold m_X10_puts
  refine s_aload_n (j := 0) (pc2 := 1) X dX10_puts_0 rfl rfl ?_
  refine s_getR (pc2 := 4) X dX10_puts_1 rfl fl_RX10_13 rfl (fun v1 => ?_)
  refine s_sipush (n := 400) (pc2 := 7) X dX10_puts_4 rfl rfl ?_
  refine s_aload_n (j := 0) (pc2 := 8) X dX10_puts_7 rfl rfl ?_
  refine s_getI (pc2 := 11) X dX10_puts_8 rfl fl_RX10_146 rfl (fun v2 hv2 => ?_)
  refine s_imul (pc2 := 12) X dX10_puts_11 rfl ?_
  refine s_aload_n (j := 0) (pc2 := 13) X dX10_puts_12 rfl rfl ?_
  refine s_getR (pc2 := 16) X dX10_puts_13 rfl fl_RX10_17 rfl (fun v3 => ?_)
  refine s_aload_n (j := 0) (pc2 := 17) X dX10_puts_16 rfl rfl ?_
  refine s_getI (pc2 := 20) X dX10_puts_17 rfl fl_RX10_146 rfl (fun v4 hv4 => ?_)
  refine s_iald (pc2 := 21) X dX10_puts_20 rfl (fun v5 hv5 => ?_)
  refine s_iadd (pc2 := 22) X dX10_puts_21 rfl ?_
  refine s_iload_n (j := 1) (pc2 := 23) X dX10_puts_22 rfl rfl ?_
  refine s_bipush (n := 16) (pc2 := 25) X dX10_puts_23 rfl rfl ?_
  refine s_iload_n (j := 2) (pc2 := 26) X dX10_puts_25 rfl rfl ?_
  refine s_imul (pc2 := 27) X dX10_puts_26 rfl ?_
  refine s_iadd (pc2 := 28) X dX10_puts_27 rfl ?_
  refine s_iast (pc2 := 29) X dX10_puts_28 rfl (w32_in _) ?_
  refine s_aload_n (j := 0) (pc2 := 30) X dX10_puts_29 rfl rfl ?_
  refine s_getR (pc2 := 33) X dX10_puts_30 rfl fl_RX10_17 rfl (fun v6 => ?_)
  refine s_aload_n (j := 0) (pc2 := 34) X dX10_puts_33 rfl rfl ?_
  refine s_getI (pc2 := 37) X dX10_puts_34 rfl fl_RX10_146 rfl (fun v7 hv7 => ?_)
  refine s_dup2 (pc2 := 38) X dX10_puts_37 rfl rfl (vR_cat _ _) ?_
  refine s_iald (pc2 := 39) X dX10_puts_38 rfl (fun v8 hv8 => ?_)
  refine s_iconst (n := 1) (pc2 := 40) X dX10_puts_39 rfl ?_
  refine s_iadd (pc2 := 41) X dX10_puts_40 rfl ?_
  refine s_iast (pc2 := 42) X dX10_puts_41 rfl (w32_in _) ?_
  exact s_ret X dX10_puts_42
theorem c_X10_puts (d : Nat) (hd : 1 ≤ d) (G : hG) (l : Launch) (l0 : Nat) (l1 : Int) (l2 : Int) (h1 : inI l1) (h2 : inI l2) : hMet G l yX10_puts cX10_puts 3 none d 0 0 [vR G.1 l0, vI l1, vI l2] (m_X10_puts l0 l1 l2) := by
  refine hMet.of (lv := [(0, vR G.1 l0), (1, vI l1), (2, vI l2)]) (by decide +kernel) (by simp [lg_sl, vR_cat, vI_cat, vL_cat, vS_cat2, vT_cat2]) (by simp [lv_args, vR_cat, vI_cat, vL_cat, vS_cat2, vT_cat2]) (fun C K X => ?_)
  obtain ⟨rfl, rfl, K⟩ := K
  exact z_X10_puts d hd ⟨rfl, rfl, K⟩ X l0 l1 l2 h1 h2
def m_X10_makes (l0 : Nat) (l1 : Int) : hM :=
  hgI 10 l0 12 fun v1 =>
  hif (v1 ≠ 60) (
hgI 10 l0 12 fun v2 =>
  hpI 10 l0 12 ((w32 (v2 + 1))) <|
  hretZ 1) (
hcallV 10 l0 (m_X10_fails l0 3 l1) fun v3 =>
  hretZ v3)
set_option maxRecDepth 4000 in
set_option maxHeartbeats 20000000 in
theorem z_X10_makes (d : Nat) (hd : 2 ≤ d) {C : hCx} (K : hCtx C.1 C.2.2.1 d 0 0 "makes" C) (X : hOK C cX10_makes RX10 2 (some .boolean)) (l0 : Nat) (l1 : Int) (h1 : inI l1) : hSim C (some .boolean) 0 0 2 0 [(0, vR C.1.1 l0), (1, vI l1)] [] 0 0 (m_X10_makes l0 l1) := by
  obtain ⟨⟨hf, hlo⟩, ⟨hc1, hc2⟩, hf1, hl1⟩ := K_room K (by omega)
  have hcs : 0 ≤ C.2.2.2.2.1.cells ∧ 0 ≤ C.2.2.2.2.1.slots := ⟨Nat.zero_le _, Nat.zero_le _⟩
  unfold m_X10_makes
  refine s_aload_n (j := 0) (pc2 := 1) X dX10_makes_0 rfl rfl ?_
  refine s_getI (pc2 := 4) X dX10_makes_1 rfl fl_RX10_149 rfl (fun v1 hv1 => ?_)
  refine s_bipush (n := 60) (pc2 := 6) X dX10_makes_4 rfl rfl ?_
  refine s_icne (tgt := 16) X dX10_makes_6 (by decide) rfl hv1 (inI_c 60 rfl) ?_ ?_
  · refine s_aload_n (j := 0) (pc2 := 17) X dX10_makes_16 rfl rfl ?_
    refine s_dup (pc2 := 18) X dX10_makes_17 rfl (vR_cat _ _) ?_
    refine s_getI (pc2 := 21) X dX10_makes_18 rfl fl_RX10_149 rfl (fun v2 hv2 => ?_)
    refine s_iconst (n := 1) (pc2 := 22) X dX10_makes_21 rfl ?_
    refine s_iadd (pc2 := 23) X dX10_makes_22 rfl ?_
    refine s_putI (pc2 := 26) X dX10_makes_23 rfl fl_RX10_149 (Or.inl rfl) rfl (w32_in _) ?_
    refine s_iconst (n := 1) (pc2 := 27) X dX10_makes_26 rfl ?_
    exact s_zret X dX10_makes_27
  · refine s_aload_n (j := 0) (pc2 := 10) X dX10_makes_9 rfl rfl ?_
    refine s_iconst (n := 3) (pc2 := 11) X dX10_makes_10 rfl ?_
    refine s_iload_n (j := 1) (pc2 := 12) X dX10_makes_11 rfl rfl ?_
    refine s_callVZ (d2 := d - 1) (As := [vI 3, vI l1]) (st := []) (pc2 := 15) X dX10_makes_12 rfl ml_RX10_111 im_X10_fails se_X10_fails kX10 rfl (c_X10_fails (d - 1) (by omega) C.1 C.2.2.1 l0 3 l1 (inI_c 3 rfl) h1) hy_X10_fails rfl rfl hf hlo (st_room (Nat.le_of_ble_eq_true rfl)) hcs (fun v3 hv3 => ?_)
    exact s_zret X dX10_makes_15
theorem c_X10_makes (d : Nat) (hd : 2 ≤ d) (G : hG) (l : Launch) (l0 : Nat) (l1 : Int) (h1 : inI l1) : hMet G l yX10_makes cX10_makes 2 (some .boolean) d 0 0 [vR G.1 l0, vI l1] (m_X10_makes l0 l1) := by
  refine hMet.of (lv := [(0, vR G.1 l0), (1, vI l1)]) (by decide +kernel) (by simp [lg_sl, vR_cat, vI_cat, vL_cat, vS_cat2, vT_cat2]) (by simp [lv_args, vR_cat, vI_cat, vL_cat, vS_cat2, vT_cat2]) (fun C K X => ?_)
  obtain ⟨rfl, rfl, K⟩ := K
  exact z_X10_makes d hd ⟨rfl, rfl, K⟩ X l0 l1 h1
def m_X10_opens (l0 : Nat) (l1 : Int) : hM :=
  hgI 10 l0 13 fun v1 =>
  hif (v1 ≠ 10) (
hgI 10 l0 13 fun v2 =>
  hpI 10 l0 13 ((w32 (v2 + 1))) <|
  hgR 10 l0 15 fun v3 =>
  hgI 10 l0 16 fun v4 =>
  hsI 20 v3 v4 l1 <|
  hgI 10 l0 16 fun v5 =>
  hpI 10 l0 16 ((w32 (v5 + 1))) <|
  hretZ 1) (
hgI 10 l0 8 fun v6 =>
  hcallV 10 l0 (m_X10_fails l0 2 v6) fun v7 =>
  hretZ v7)
set_option maxRecDepth 4000 in
set_option maxHeartbeats 20000000 in
theorem z_X10_opens (d : Nat) (hd : 2 ≤ d) {C : hCx} (K : hCtx C.1 C.2.2.1 d 0 0 "opens" C) (X : hOK C cX10_opens RX10 2 (some .boolean)) (l0 : Nat) (l1 : Int) (h1 : inI l1) : hSim C (some .boolean) 0 0 2 0 [(0, vR C.1.1 l0), (1, vI l1)] [] 0 0 (m_X10_opens l0 l1) := by
  obtain ⟨⟨hf, hlo⟩, ⟨hc1, hc2⟩, hf1, hl1⟩ := K_room K (by omega)
  have hcs : 0 ≤ C.2.2.2.2.1.cells ∧ 0 ≤ C.2.2.2.2.1.slots := ⟨Nat.zero_le _, Nat.zero_le _⟩
  unfold m_X10_opens
  refine s_aload_n (j := 0) (pc2 := 1) X dX10_opens_0 rfl rfl ?_
  refine s_getI (pc2 := 4) X dX10_opens_1 rfl fl_RX10_152 rfl (fun v1 hv1 => ?_)
  refine s_bipush (n := 10) (pc2 := 6) X dX10_opens_4 rfl rfl ?_
  refine s_icne (tgt := 19) X dX10_opens_6 (by decide) rfl hv1 (inI_c 10 rfl) ?_ ?_
  · refine s_aload_n (j := 0) (pc2 := 20) X dX10_opens_19 rfl rfl ?_
    refine s_dup (pc2 := 21) X dX10_opens_20 rfl (vR_cat _ _) ?_
    refine s_getI (pc2 := 24) X dX10_opens_21 rfl fl_RX10_152 rfl (fun v2 hv2 => ?_)
    refine s_iconst (n := 1) (pc2 := 25) X dX10_opens_24 rfl ?_
    refine s_iadd (pc2 := 26) X dX10_opens_25 rfl ?_
    refine s_putI (pc2 := 29) X dX10_opens_26 rfl fl_RX10_152 (Or.inl rfl) rfl (w32_in _) ?_
    refine s_aload_n (j := 0) (pc2 := 30) X dX10_opens_29 rfl rfl ?_
    refine s_getR (pc2 := 33) X dX10_opens_30 rfl fl_RX10_29 rfl (fun v3 => ?_)
    refine s_aload_n (j := 0) (pc2 := 34) X dX10_opens_33 rfl rfl ?_
    refine s_getI (pc2 := 37) X dX10_opens_34 rfl fl_RX10_155 rfl (fun v4 hv4 => ?_)
    refine s_iload_n (j := 1) (pc2 := 38) X dX10_opens_37 rfl rfl ?_
    refine s_iast (pc2 := 39) X dX10_opens_38 rfl h1 ?_
    refine s_aload_n (j := 0) (pc2 := 40) X dX10_opens_39 rfl rfl ?_
    refine s_dup (pc2 := 41) X dX10_opens_40 rfl (vR_cat _ _) ?_
    refine s_getI (pc2 := 44) X dX10_opens_41 rfl fl_RX10_155 rfl (fun v5 hv5 => ?_)
    refine s_iconst (n := 1) (pc2 := 45) X dX10_opens_44 rfl ?_
    refine s_iadd (pc2 := 46) X dX10_opens_45 rfl ?_
    refine s_putI (pc2 := 49) X dX10_opens_46 rfl fl_RX10_155 (Or.inl rfl) rfl (w32_in _) ?_
    refine s_iconst (n := 1) (pc2 := 50) X dX10_opens_49 rfl ?_
    exact s_zret X dX10_opens_50
  · refine s_aload_n (j := 0) (pc2 := 10) X dX10_opens_9 rfl rfl ?_
    refine s_iconst (n := 2) (pc2 := 11) X dX10_opens_10 rfl ?_
    refine s_aload_n (j := 0) (pc2 := 12) X dX10_opens_11 rfl rfl ?_
    refine s_getI (pc2 := 15) X dX10_opens_12 rfl fl_RX10_90 rfl (fun v6 hv6 => ?_)
    refine s_callVZ (d2 := d - 1) (As := [vI 2, vI v6]) (st := []) (pc2 := 18) X dX10_opens_15 rfl ml_RX10_111 im_X10_fails se_X10_fails kX10 rfl (c_X10_fails (d - 1) (by omega) C.1 C.2.2.1 l0 2 v6 (inI_c 2 rfl) hv6) hy_X10_fails rfl rfl hf hlo (st_room (Nat.le_of_ble_eq_true rfl)) hcs (fun v7 hv7 => ?_)
    exact s_zret X dX10_opens_18
theorem c_X10_opens (d : Nat) (hd : 2 ≤ d) (G : hG) (l : Launch) (l0 : Nat) (l1 : Int) (h1 : inI l1) : hMet G l yX10_opens cX10_opens 2 (some .boolean) d 0 0 [vR G.1 l0, vI l1] (m_X10_opens l0 l1) := by
  refine hMet.of (lv := [(0, vR G.1 l0), (1, vI l1)]) (by decide +kernel) (by simp [lg_sl, vR_cat, vI_cat, vL_cat, vS_cat2, vT_cat2]) (by simp [lv_args, vR_cat, vI_cat, vL_cat, vS_cat2, vT_cat2]) (fun C K X => ?_)
  obtain ⟨rfl, rfl, K⟩ := K
  exact z_X10_opens d hd ⟨rfl, rfl, K⟩ X l0 l1 h1
def m_X10_strength_L31 (s0 : Int) : hM :=
  hret s0
def m_X10_strength (l0 : Int) : hM :=
  hif (l0 ≠ 13) (
hif (l0 ≠ 12) (
hif (l0 ≠ 11) (
m_X10_strength_L31 0) (
m_X10_strength_L31 3)) (
m_X10_strength_L31 2)) (
m_X10_strength_L31 1)
set_option maxRecDepth 4000 in
theorem z_X10_strength_L31 (d : Nat) (hd : 1 ≤ d) {C : hCx} (K : hCtx C.1 C.2.2.1 d 0 0 "strength" C) (X : hOK C cX10_strength RX10 1 (some .int)) (s0 : Int) (g0 : inI s0) : hSim C (some .int) 0 0 1 31 [] [vI s0] 0 0 (m_X10_strength_L31 s0) := by
  obtain ⟨⟨hf, hlo⟩, ⟨hc1, hc2⟩, hf1, hl1⟩ := K_room K (by omega)
  have hcs : 0 ≤ C.2.2.2.2.1.cells ∧ 0 ≤ C.2.2.2.2.1.slots := ⟨Nat.zero_le _, Nat.zero_le _⟩
  unfold m_X10_strength_L31
  exact s_iret X dX10_strength_31 g0
set_option maxRecDepth 4000 in
set_option maxHeartbeats 20000000 in
theorem z_X10_strength (d : Nat) (hd : 1 ≤ d) {C : hCx} (K : hCtx C.1 C.2.2.1 d 0 0 "strength" C) (X : hOK C cX10_strength RX10 1 (some .int)) (l0 : Int) (h0 : inI l0) : hSim C (some .int) 0 0 1 0 [(0, vI l0)] [] 0 0 (m_X10_strength l0) := by
  obtain ⟨⟨hf, hlo⟩, ⟨hc1, hc2⟩, hf1, hl1⟩ := K_room K (by omega)
  have hcs : 0 ≤ C.2.2.2.2.1.cells ∧ 0 ≤ C.2.2.2.2.1.slots := ⟨Nat.zero_le _, Nat.zero_le _⟩
  unfold m_X10_strength
  refine s_iload_n (j := 0) (pc2 := 1) X dX10_strength_0 rfl rfl ?_
  refine s_bipush (n := 13) (pc2 := 3) X dX10_strength_1 rfl rfl ?_
  refine s_icne (tgt := 10) X dX10_strength_3 (by decide) rfl h0 (inI_c 13 rfl) ?_ ?_
  · refine s_iload_n (j := 0) (pc2 := 11) X dX10_strength_10 rfl rfl ?_
    refine s_bipush (n := 12) (pc2 := 13) X dX10_strength_11 rfl rfl ?_
    refine s_icne (tgt := 20) X dX10_strength_13 (by decide) rfl h0 (inI_c 12 rfl) ?_ ?_
    · refine s_iload_n (j := 0) (pc2 := 21) X dX10_strength_20 rfl rfl ?_
      refine s_bipush (n := 11) (pc2 := 23) X dX10_strength_21 rfl rfl ?_
      refine s_icne (tgt := 30) X dX10_strength_23 (by decide) rfl h0 (inI_c 11 rfl) ?_ ?_
      · refine s_iconst (n := 0) (pc2 := 31) X dX10_strength_30 rfl ?_
        refine s_sub (lv2 := []) [] rfl ?_
        exact z_X10_strength_L31 d hd K X 0 (inI_c 0 rfl)
      · refine s_iconst (n := 3) (pc2 := 27) X dX10_strength_26 rfl ?_
        refine s_goto (pc2 := 31) X dX10_strength_27 (by decide) ?_
        refine s_sub (lv2 := []) [] rfl ?_
        exact z_X10_strength_L31 d hd K X 3 (inI_c 3 rfl)
    · refine s_iconst (n := 2) (pc2 := 17) X dX10_strength_16 rfl ?_
      refine s_goto (pc2 := 31) X dX10_strength_17 (by decide) ?_
      refine s_sub (lv2 := []) [] rfl ?_
      exact z_X10_strength_L31 d hd K X 2 (inI_c 2 rfl)
  · refine s_iconst (n := 1) (pc2 := 7) X dX10_strength_6 rfl ?_
    refine s_goto (pc2 := 31) X dX10_strength_7 (by decide) ?_
    refine s_sub (lv2 := []) [] rfl ?_
    exact z_X10_strength_L31 d hd K X 1 (inI_c 1 rfl)
theorem c_X10_strength (d : Nat) (hd : 1 ≤ d) (G : hG) (l : Launch) (l0 : Int) (h0 : inI l0) : hMet G l yX10_strength cX10_strength 1 (some .int) d 0 0 [vI l0] (m_X10_strength l0) := by
  refine hMet.of (lv := [(0, vI l0)]) (by decide +kernel) (by simp [lg_sl, vR_cat, vI_cat, vL_cat, vS_cat2, vT_cat2]) (by simp [lv_args, vR_cat, vI_cat, vL_cat, vS_cat2, vT_cat2]) (fun C K X => ?_)
  obtain ⟨rfl, rfl, K⟩ := K
  exact z_X10_strength d hd ⟨rfl, rfl, K⟩ X l0 h0
def m_X10_settles_L76 : hM :=
  hret 0
def m_X10_settles_L0 : Nat → Nat → Int → hM
  | 0, _, _ => hfail
  | n + 1, l0, l1 =>
    hgI 10 l0 16 fun v1 =>
  hif (v1 ≤ 0) (
m_X10_settles_L76) (
hgR 10 l0 15 fun v2 =>
  hgI 10 l0 16 fun v3 =>
  haI 20 v2 ((w32 (v3 - 1))) fun v4 =>
  hcall (m_X10_strength v4) fun v5 =>
  hif (v5 < l1) (
m_X10_settles_L76) (
hgI 10 l0 16 fun v6 =>
  hpI 10 l0 16 ((w32 (v6 - 1))) <|
  hgR 10 l0 15 fun v7 =>
  hgI 10 l0 16 fun v8 =>
  haI 20 v7 v8 fun v9 =>
  hcallV 10 l0 (m_X10_puts l0 v9 0) fun _ =>
  hgR 10 l0 15 fun v10 =>
  hgI 10 l0 16 fun v11 =>
  haI 20 v10 v11 fun v12 =>
  hif (v12 ≠ 11) (
m_X10_settles_L0 n l0 l1) (
hgI 10 l0 13 fun v13 =>
  hpI 10 l0 13 ((w32 (v13 - 1))) <|
  m_X10_settles_L0 n l0 l1)))
def m_X10_settles (l0 : Nat) (l1 : Int) : hM :=
  m_X10_settles_L0 1000000000 l0 l1
set_option maxRecDepth 4000 in
theorem z_X10_settles_L76 (d : Nat) (hd : 2 ≤ d) {C : hCx} (K : hCtx C.1 C.2.2.1 d 0 0 "settles" C) (X : hOK C cX10_settles RX10 2 none) : hSim C none 0 0 2 76 [] [] 0 0 (m_X10_settles_L76) := by
  obtain ⟨⟨hf, hlo⟩, ⟨hc1, hc2⟩, hf1, hl1⟩ := K_room K (by omega)
  have hcs : 0 ≤ C.2.2.2.2.1.cells ∧ 0 ≤ C.2.2.2.2.1.slots := ⟨Nat.zero_le _, Nat.zero_le _⟩
  unfold m_X10_settles_L76
  exact s_ret X dX10_settles_76
set_option maxRecDepth 4000 in
theorem z_X10_settles_L0 (d : Nat) (hd : 2 ≤ d) {C : hCx} (K : hCtx C.1 C.2.2.1 d 0 0 "settles" C) (X : hOK C cX10_settles RX10 2 none) : ∀ (n : Nat) (l0 : Nat) (l1 : Int) (h1 : inI l1), hSim C none 0 0 2 0 [(0, vR C.1.1 l0), (1, vI l1)] [] 0 0 (m_X10_settles_L0 n l0 l1) := by
  obtain ⟨⟨hf, hlo⟩, ⟨hc1, hc2⟩, hf1, hl1⟩ := K_room K (by omega)
  have hcs : 0 ≤ C.2.2.2.2.1.cells ∧ 0 ≤ C.2.2.2.2.1.slots := ⟨Nat.zero_le _, Nat.zero_le _⟩
  intro n
  induction n with
  | zero => intros; exact s_none (fun _ => rfl)
  | succ n ih =>
    intro l0 l1 h1
    unfold m_X10_settles_L0
    refine s_aload_n (j := 0) (pc2 := 1) X dX10_settles_0 rfl rfl ?_
    refine s_getI (pc2 := 4) X dX10_settles_1 rfl fl_RX10_155 rfl (fun v1 hv1 => ?_)
    refine s_ifle (tgt := 76) X dX10_settles_4 (by decide) rfl hv1 ?_ ?_
    · refine s_sub (lv2 := []) [] rfl ?_
      exact z_X10_settles_L76 d hd K X
    · refine s_aload_n (j := 0) (pc2 := 8) X dX10_settles_7 rfl rfl ?_
      refine s_getR (pc2 := 11) X dX10_settles_8 rfl fl_RX10_29 rfl (fun v2 => ?_)
      refine s_aload_n (j := 0) (pc2 := 12) X dX10_settles_11 rfl rfl ?_
      refine s_getI (pc2 := 15) X dX10_settles_12 rfl fl_RX10_155 rfl (fun v3 hv3 => ?_)
      refine s_iconst (n := 1) (pc2 := 16) X dX10_settles_15 rfl ?_
      refine s_isub (pc2 := 17) X dX10_settles_16 rfl ?_
      refine s_iald (pc2 := 18) X dX10_settles_17 rfl (fun v4 hv4 => ?_)
      refine s_callSI (d2 := d - 1) (As := [vI v4]) (st := []) (pc2 := 21) X dX10_settles_18 rfl ml_RX10_158 sm_X10_strength (c_X10_strength (d - 1) (by omega) C.1 C.2.2.1 v4 hv4) hy_X10_strength rfl rfl hf hlo (st_room (Nat.le_of_ble_eq_true rfl)) hcs (fun v5 hv5 => ?_)
      refine s_iload_n (j := 1) (pc2 := 22) X dX10_settles_21 rfl rfl ?_
      refine s_iclt (tgt := 76) X dX10_settles_22 (by decide) rfl hv5 h1 ?_ ?_
      · refine s_sub (lv2 := []) [] rfl ?_
        exact z_X10_settles_L76 d hd K X
      · refine s_aload_n (j := 0) (pc2 := 26) X dX10_settles_25 rfl rfl ?_
        refine s_dup (pc2 := 27) X dX10_settles_26 rfl (vR_cat _ _) ?_
        refine s_getI (pc2 := 30) X dX10_settles_27 rfl fl_RX10_155 rfl (fun v6 hv6 => ?_)
        refine s_iconst (n := 1) (pc2 := 31) X dX10_settles_30 rfl ?_
        refine s_isub (pc2 := 32) X dX10_settles_31 rfl ?_
        refine s_putI (pc2 := 35) X dX10_settles_32 rfl fl_RX10_155 (Or.inl rfl) rfl (w32_in _) ?_
        refine s_aload_n (j := 0) (pc2 := 36) X dX10_settles_35 rfl rfl ?_
        refine s_aload_n (j := 0) (pc2 := 37) X dX10_settles_36 rfl rfl ?_
        refine s_getR (pc2 := 40) X dX10_settles_37 rfl fl_RX10_29 rfl (fun v7 => ?_)
        refine s_aload_n (j := 0) (pc2 := 41) X dX10_settles_40 rfl rfl ?_
        refine s_getI (pc2 := 44) X dX10_settles_41 rfl fl_RX10_155 rfl (fun v8 hv8 => ?_)
        refine s_iald (pc2 := 45) X dX10_settles_44 rfl (fun v9 hv9 => ?_)
        refine s_iconst (n := 0) (pc2 := 46) X dX10_settles_45 rfl ?_
        refine s_callVV (d2 := d - 1) (As := [vI v9, vI 0]) (st := []) (pc2 := 49) X dX10_settles_46 rfl ml_RX10_162 im_X10_puts se_X10_puts kX10 rfl (c_X10_puts (d - 1) (by omega) C.1 C.2.2.1 l0 v9 0 hv9 (inI_c 0 rfl)) hy_X10_puts rfl rfl hf hlo (st_room (Nat.le_of_ble_eq_true rfl)) hcs (fun _ => ?_)
        refine s_aload_n (j := 0) (pc2 := 50) X dX10_settles_49 rfl rfl ?_
        refine s_getR (pc2 := 53) X dX10_settles_50 rfl fl_RX10_29 rfl (fun v10 => ?_)
        refine s_aload_n (j := 0) (pc2 := 54) X dX10_settles_53 rfl rfl ?_
        refine s_getI (pc2 := 57) X dX10_settles_54 rfl fl_RX10_155 rfl (fun v11 hv11 => ?_)
        refine s_iald (pc2 := 58) X dX10_settles_57 rfl (fun v12 hv12 => ?_)
        refine s_bipush (n := 11) (pc2 := 60) X dX10_settles_58 rfl rfl ?_
        refine s_icne (tgt := 0) X dX10_settles_60 (by decide) rfl hv12 (inI_c 11 rfl) ?_ ?_
        · exact ih l0 l1 h1
        · refine s_aload_n (j := 0) (pc2 := 64) X dX10_settles_63 rfl rfl ?_
          refine s_dup (pc2 := 65) X dX10_settles_64 rfl (vR_cat _ _) ?_
          refine s_getI (pc2 := 68) X dX10_settles_65 rfl fl_RX10_152 rfl (fun v13 hv13 => ?_)
          refine s_iconst (n := 1) (pc2 := 69) X dX10_settles_68 rfl ?_
          refine s_isub (pc2 := 70) X dX10_settles_69 rfl ?_
          refine s_putI (pc2 := 73) X dX10_settles_70 rfl fl_RX10_152 (Or.inl rfl) rfl (w32_in _) ?_
          refine s_goto (pc2 := 0) X dX10_settles_73 (by decide) ?_
          exact ih l0 l1 h1
set_option maxRecDepth 4000 in
set_option maxHeartbeats 20000000 in
theorem z_X10_settles (d : Nat) (hd : 2 ≤ d) {C : hCx} (K : hCtx C.1 C.2.2.1 d 0 0 "settles" C) (X : hOK C cX10_settles RX10 2 none) (l0 : Nat) (l1 : Int) (h1 : inI l1) : hSim C none 0 0 2 0 [(0, vR C.1.1 l0), (1, vI l1)] [] 0 0 (m_X10_settles l0 l1) := by
  obtain ⟨⟨hf, hlo⟩, ⟨hc1, hc2⟩, hf1, hl1⟩ := K_room K (by omega)
  have hcs : 0 ≤ C.2.2.2.2.1.cells ∧ 0 ≤ C.2.2.2.2.1.slots := ⟨Nat.zero_le _, Nat.zero_le _⟩
  unfold m_X10_settles
  exact z_X10_settles_L0 d hd K X 1000000000 l0 l1 h1
theorem c_X10_settles (d : Nat) (hd : 2 ≤ d) (G : hG) (l : Launch) (l0 : Nat) (l1 : Int) (h1 : inI l1) : hMet G l yX10_settles cX10_settles 2 none d 0 0 [vR G.1 l0, vI l1] (m_X10_settles l0 l1) := by
  refine hMet.of (lv := [(0, vR G.1 l0), (1, vI l1)]) (by decide +kernel) (by simp [lg_sl, vR_cat, vI_cat, vL_cat, vS_cat2, vT_cat2]) (by simp [lv_args, vR_cat, vI_cat, vL_cat, vS_cat2, vT_cat2]) (fun C K X => ?_)
  obtain ⟨rfl, rfl, K⟩ := K
  exact z_X10_settles d hd ⟨rfl, rfl, K⟩ X l0 l1 h1
def m_X10_value_L39 : hM :=
  hretZ 0
def m_X10_value (l0 : Nat) : hM :=
  hcallV 10 l0 (m_X10_see l0) fun v1 =>
  hgI 10 l0 8 fun v2 =>
  hlet v2 fun (w3 : Int) =>
  hgI 10 l0 8 fun v4 =>
  hcallV 10 l0 (m_X10_isDigit l0 v4) fun v5 =>
  hif (v5 = 0) (
hcallV 10 l0 (m_X10_wordHere l0) fun v6 =>
  hlet v6 fun (w7 : Int) =>
  hif (w7 ≥ 0) (
hcallV 10 l0 (m_X10_makes l0 w3) fun v8 =>
  hif (v8 ≠ 0) (
hcallV 10 l0 (m_X10_passWord l0) fun _ =>
  hcallV 10 l0 (m_X10_puts l0 1 w7) fun _ =>
  hretZ 1) (
hretZ 0)) (
hcallV 10 l0 (m_X10_fails l0 0 w3) fun v9 =>
  hretZ v9)) (
hcallV 10 l0 (m_X10_numberHere l0 0 99999) fun v10 =>
  hif (v10 = 0) (
m_X10_value_L39) (
hcallV 10 l0 (m_X10_makes l0 w3) fun v11 =>
  hif (v11 ≠ 0) (
hgI 10 l0 10 fun v12 =>
  hcallV 10 l0 (m_X10_puts l0 0 v12) fun _ =>
  hretZ 1) (
m_X10_value_L39)))
set_option maxRecDepth 4000 in
theorem z_X10_value_L39 (d : Nat) (hd : 4 ≤ d) {C : hCx} (K : hCtx C.1 C.2.2.1 d 0 0 "value" C) (X : hOK C cX10_value RX10 3 (some .boolean)) : hSim C (some .boolean) 0 0 3 39 [] [] 0 0 (m_X10_value_L39) := by
  obtain ⟨⟨hf, hlo⟩, ⟨hc1, hc2⟩, hf1, hl1⟩ := K_room K (by omega)
  have hcs : 0 ≤ C.2.2.2.2.1.cells ∧ 0 ≤ C.2.2.2.2.1.slots := ⟨Nat.zero_le _, Nat.zero_le _⟩
  unfold m_X10_value_L39
  refine s_iconst (n := 0) (pc2 := 40) X dX10_value_39 rfl ?_
  exact s_zret X dX10_value_40
set_option maxRecDepth 4000 in
set_option maxHeartbeats 20000000 in
theorem z_X10_value (d : Nat) (hd : 4 ≤ d) {C : hCx} (K : hCtx C.1 C.2.2.1 d 0 0 "value" C) (X : hOK C cX10_value RX10 3 (some .boolean)) (l0 : Nat) : hSim C (some .boolean) 0 0 3 0 [(0, vR C.1.1 l0)] [] 0 0 (m_X10_value l0) := by
  obtain ⟨⟨hf, hlo⟩, ⟨hc1, hc2⟩, hf1, hl1⟩ := K_room K (by omega)
  have hcs : 0 ≤ C.2.2.2.2.1.cells ∧ 0 ≤ C.2.2.2.2.1.slots := ⟨Nat.zero_le _, Nat.zero_le _⟩
  unfold m_X10_value
  refine s_aload_n (j := 0) (pc2 := 1) X dX10_value_0 rfl rfl ?_
  refine s_callVI (d2 := d - 1) (As := []) (st := []) (pc2 := 4) X dX10_value_1 rfl ml_RX10_93 im_X10_see se_X10_see kX10 rfl (c_X10_see (d - 1) (by omega) C.1 C.2.2.1 l0) hy_X10_see rfl rfl hf hlo (st_room (Nat.le_of_ble_eq_true rfl)) hcs (fun v1 hv1 => ?_)
  refine s_pop (pc2 := 5) X dX10_value_4 rfl rfl ?_
  refine s_aload_n (j := 0) (pc2 := 6) X dX10_value_5 rfl rfl ?_
  refine s_getI (pc2 := 9) X dX10_value_6 rfl fl_RX10_90 rfl (fun v2 hv2 => ?_)
  refine s_istore_n (pc2 := 10) X dX10_value_9 rfl (by decide) rfl rfl cat1_R hv2 (fun w3 hw3 => ?_)
  refine s_aload_n (j := 1) (pc2 := 11) X dX10_value_10 rfl rfl ?_
  refine s_aload_n (j := 1) (pc2 := 12) X dX10_value_11 rfl rfl ?_
  refine s_getI (pc2 := 15) X dX10_value_12 rfl fl_RX10_90 rfl (fun v4 hv4 => ?_)
  refine s_callVZ (d2 := d - 1) (As := [vI v4]) (st := []) (pc2 := 18) X dX10_value_15 rfl ml_RX10_108 im_X10_isDigit se_X10_isDigit kX10 rfl (c_X10_isDigit (d - 1) (by omega) C.1 C.2.2.1 l0 v4 hv4) hy_X10_isDigit rfl rfl hf hlo (st_room (Nat.le_of_ble_eq_true rfl)) hcs (fun v5 hv5 => ?_)
  refine s_ifeq (tgt := 52) X dX10_value_18 (by decide) rfl hv5 ?_ ?_
  · refine s_aload_n (j := 1) (pc2 := 53) X dX10_value_52 rfl rfl ?_
    refine s_callVI (d2 := d - 1) (As := []) (st := []) (pc2 := 56) X dX10_value_53 rfl ml_RX10_173 im_X10_wordHere se_X10_wordHere kX10 rfl (c_X10_wordHere (d - 1) (by omega) C.1 C.2.2.1 l0) hy_X10_wordHere rfl rfl hf hlo (st_room (Nat.le_of_ble_eq_true rfl)) hcs (fun v6 hv6 => ?_)
    refine s_istore_n (pc2 := 57) X dX10_value_56 rfl (by decide) rfl rfl cat1_I hv6 (fun w7 hw7 => ?_)
    refine s_iload_n (j := 0) (pc2 := 58) X dX10_value_57 rfl rfl ?_
    refine s_ifge (tgt := 68) X dX10_value_58 (by decide) rfl hw7 ?_ ?_
    · refine s_aload_n (j := 2) (pc2 := 69) X dX10_value_68 rfl rfl ?_
      refine s_iload_n (j := 1) (pc2 := 70) X dX10_value_69 rfl rfl ?_
      refine s_callVZ (d2 := d - 1) (As := [vI w3]) (st := []) (pc2 := 73) X dX10_value_70 rfl ml_RX10_170 im_X10_makes se_X10_makes kX10 rfl (c_X10_makes (d - 1) (by omega) C.1 C.2.2.1 l0 w3 hw3) hy_X10_makes rfl rfl hf hlo (st_room (Nat.le_of_ble_eq_true rfl)) hcs (fun v8 hv8 => ?_)
      refine s_ifne (tgt := 78) X dX10_value_73 (by decide) rfl hv8 ?_ ?_
      · refine s_aload_n (j := 2) (pc2 := 79) X dX10_value_78 rfl rfl ?_
        refine s_callVV (d2 := d - 1) (As := []) (st := []) (pc2 := 82) X dX10_value_79 rfl ml_RX10_105 im_X10_passWord se_X10_passWord kX10 rfl (c_X10_passWord (d - 1) (by omega) C.1 C.2.2.1 l0) hy_X10_passWord rfl rfl hf hlo (st_room (Nat.le_of_ble_eq_true rfl)) hcs (fun _ => ?_)
        refine s_aload_n (j := 2) (pc2 := 83) X dX10_value_82 rfl rfl ?_
        refine s_iconst (n := 1) (pc2 := 84) X dX10_value_83 rfl ?_
        refine s_iload_n (j := 0) (pc2 := 85) X dX10_value_84 rfl rfl ?_
        refine s_callVV (d2 := d - 1) (As := [vI 1, vI w7]) (st := []) (pc2 := 88) X dX10_value_85 rfl ml_RX10_162 im_X10_puts se_X10_puts kX10 rfl (c_X10_puts (d - 1) (by omega) C.1 C.2.2.1 l0 1 w7 (inI_c 1 rfl) hw7) hy_X10_puts rfl rfl hf hlo (st_room (Nat.le_of_ble_eq_true rfl)) hcs (fun _ => ?_)
        refine s_iconst (n := 1) (pc2 := 89) X dX10_value_88 rfl ?_
        exact s_zret X dX10_value_89
      · refine s_iconst (n := 0) (pc2 := 77) X dX10_value_76 rfl ?_
        exact s_zret X dX10_value_77
    · refine s_aload_n (j := 2) (pc2 := 62) X dX10_value_61 rfl rfl ?_
      refine s_iconst (n := 0) (pc2 := 63) X dX10_value_62 rfl ?_
      refine s_iload_n (j := 1) (pc2 := 64) X dX10_value_63 rfl rfl ?_
      refine s_callVZ (d2 := d - 1) (As := [vI 0, vI w3]) (st := []) (pc2 := 67) X dX10_value_64 rfl ml_RX10_111 im_X10_fails se_X10_fails kX10 rfl (c_X10_fails (d - 1) (by omega) C.1 C.2.2.1 l0 0 w3 (inI_c 0 rfl) hw3) hy_X10_fails rfl rfl hf hlo (st_room (Nat.le_of_ble_eq_true rfl)) hcs (fun v9 hv9 => ?_)
      exact s_zret X dX10_value_67
  · refine s_aload_n (j := 1) (pc2 := 22) X dX10_value_21 rfl rfl ?_
    refine s_iconst (n := 0) (pc2 := 23) X dX10_value_22 rfl ?_
    refine s_ldc (z := 99999) (pc2 := 25) X dX10_value_23 rfl kc_RX10_166 ?_
    refine s_callVZ (d2 := d - 1) (As := [vI 0, vI 99999]) (st := []) (pc2 := 28) X dX10_value_25 rfl ml_RX10_167 im_X10_numberHere se_X10_numberHere kX10 rfl (c_X10_numberHere (d - 1) (by omega) C.1 C.2.2.1 l0 0 99999 (inI_c 0 rfl) (inI_c 99999 rfl)) hy_X10_numberHere rfl rfl hf hlo (st_room (Nat.le_of_ble_eq_true rfl)) hcs (fun v10 hv10 => ?_)
    refine s_ifeq (tgt := 39) X dX10_value_28 (by decide) rfl hv10 ?_ ?_
    · refine s_sub (lv2 := []) [] rfl ?_
      exact z_X10_value_L39 d hd K X
    · refine s_aload_n (j := 1) (pc2 := 32) X dX10_value_31 rfl rfl ?_
      refine s_iload_n (j := 0) (pc2 := 33) X dX10_value_32 rfl rfl ?_
      refine s_callVZ (d2 := d - 1) (As := [vI w3]) (st := []) (pc2 := 36) X dX10_value_33 rfl ml_RX10_170 im_X10_makes se_X10_makes kX10 rfl (c_X10_makes (d - 1) (by omega) C.1 C.2.2.1 l0 w3 hw3) hy_X10_makes rfl rfl hf hlo (st_room (Nat.le_of_ble_eq_true rfl)) hcs (fun v11 hv11 => ?_)
      refine s_ifne (tgt := 41) X dX10_value_36 (by decide) rfl hv11 ?_ ?_
      · refine s_aload_n (j := 1) (pc2 := 42) X dX10_value_41 rfl rfl ?_
        refine s_iconst (n := 0) (pc2 := 43) X dX10_value_42 rfl ?_
        refine s_aload_n (j := 1) (pc2 := 44) X dX10_value_43 rfl rfl ?_
        refine s_getI (pc2 := 47) X dX10_value_44 rfl fl_RX10_115 rfl (fun v12 hv12 => ?_)
        refine s_callVV (d2 := d - 1) (As := [vI 0, vI v12]) (st := []) (pc2 := 50) X dX10_value_47 rfl ml_RX10_162 im_X10_puts se_X10_puts kX10 rfl (c_X10_puts (d - 1) (by omega) C.1 C.2.2.1 l0 0 v12 (inI_c 0 rfl) hv12) hy_X10_puts rfl rfl hf hlo (st_room (Nat.le_of_ble_eq_true rfl)) hcs (fun _ => ?_)
        refine s_iconst (n := 1) (pc2 := 51) X dX10_value_50 rfl ?_
        exact s_zret X dX10_value_51
      · refine s_sub (lv2 := []) [] rfl ?_
        exact z_X10_value_L39 d hd K X
theorem c_X10_value (d : Nat) (hd : 4 ≤ d) (G : hG) (l : Launch) (l0 : Nat) : hMet G l yX10_value cX10_value 3 (some .boolean) d 0 0 [vR G.1 l0] (m_X10_value l0) := by
  refine hMet.of (lv := [(0, vR G.1 l0)]) (by decide +kernel) (by simp [lg_sl, vR_cat, vI_cat, vL_cat, vS_cat2, vT_cat2]) (by simp [lv_args, vR_cat, vI_cat, vL_cat, vS_cat2, vT_cat2]) (fun C K X => ?_)
  obtain ⟨rfl, rfl, K⟩ := K
  exact z_X10_value d hd ⟨rfl, rfl, K⟩ X l0
def m_X10_term_L74 (k9 : Nat → hM) (l0 : Nat) (s0 : Int) : hM :=
  hlet s0 fun (w1 : Int) =>
  hgI 10 l0 8 fun v2 =>
  hpI 10 l0 8 ((w32 (v2 + 1))) <|
  hcallV 10 l0 (m_X10_value l0) fun v3 =>
  hif (v3 ≠ 0) (
hcallV 10 l0 (m_X10_puts l0 w1 0) fun _ =>
  k9 l0) (
hretZ 0)
def m_X10_term_L36 (k9 : Nat → hM) (l0 : Nat) : hM :=
  hgR 10 l0 0 fun v1 =>
  hgI 10 l0 8 fun v2 =>
  haI 22 v1 v2 fun v3 =>
  hif (v3 ≠ 42) (
hgR 10 l0 0 fun v4 =>
  hgI 10 l0 8 fun v5 =>
  haI 22 v4 v5 fun v6 =>
  hif (v6 ≠ 47) (
m_X10_term_L74 k9 l0 14) (
m_X10_term_L74 k9 l0 5)) (
m_X10_term_L74 k9 l0 4)
def m_X10_term_L9 : Nat → Nat → hM
  | 0, _ => hfail
  | n + 1, l0 =>
    hcallV 10 l0 (m_X10_see l0) fun v1 =>
  hif (v1 = 42) (
m_X10_term_L36 (m_X10_term_L9 n) l0) (
hcallV 10 l0 (m_X10_see l0) fun v2 =>
  hif (v2 = 47) (
m_X10_term_L36 (m_X10_term_L9 n) l0) (
hcallV 10 l0 (m_X10_see l0) fun v3 =>
  hif (v3 ≠ 37) (
hretZ 1) (
m_X10_term_L36 (m_X10_term_L9 n) l0)))
def m_X10_term (l0 : Nat) : hM :=
  hcallV 10 l0 (m_X10_value l0) fun v1 =>
  hif (v1 ≠ 0) (
m_X10_term_L9 1000000000 l0) (
hretZ 0)
set_option maxRecDepth 4000 in
theorem z_X10_term_L74 (d : Nat) (hd : 5 ≤ d) {C : hCx} (K : hCtx C.1 C.2.2.1 d 0 0 "term" C) (X : hOK C cX10_term RX10 2 (some .boolean)) (k9 : Nat → hM) (hk9 : ∀ (l0 : Nat), hSim C (some .boolean) 0 0 2 9 [(0, vR C.1.1 l0)] [] 0 0 (k9 l0)) (l0 : Nat) (s0 : Int) (g0 : inI s0) : hSim C (some .boolean) 0 0 2 74 [(0, vR C.1.1 l0)] [vI s0] 0 0 (m_X10_term_L74 k9 l0 s0) := by
  obtain ⟨⟨hf, hlo⟩, ⟨hc1, hc2⟩, hf1, hl1⟩ := K_room K (by omega)
  have hcs : 0 ≤ C.2.2.2.2.1.cells ∧ 0 ≤ C.2.2.2.2.1.slots := ⟨Nat.zero_le _, Nat.zero_le _⟩
  unfold m_X10_term_L74
  refine s_istore_n (pc2 := 75) X dX10_term_74 rfl (by decide) rfl rfl cat1_R g0 (fun w1 hw1 => ?_)
  refine s_aload_n (j := 1) (pc2 := 76) X dX10_term_75 rfl rfl ?_
  refine s_dup (pc2 := 77) X dX10_term_76 rfl (vR_cat _ _) ?_
  refine s_getI (pc2 := 80) X dX10_term_77 rfl fl_RX10_90 rfl (fun v2 hv2 => ?_)
  refine s_iconst (n := 1) (pc2 := 81) X dX10_term_80 rfl ?_
  refine s_iadd (pc2 := 82) X dX10_term_81 rfl ?_
  refine s_putI (pc2 := 85) X dX10_term_82 rfl fl_RX10_90 (Or.inl rfl) rfl (w32_in _) ?_
  refine s_aload_n (j := 1) (pc2 := 86) X dX10_term_85 rfl rfl ?_
  refine s_callVZ (d2 := d - 1) (As := []) (st := []) (pc2 := 89) X dX10_term_86 rfl ml_RX10_176 im_X10_value se_X10_value kX10 rfl (c_X10_value (d - 1) (by omega) C.1 C.2.2.1 l0) hy_X10_value rfl rfl hf hlo (st_room (Nat.le_of_ble_eq_true rfl)) hcs (fun v3 hv3 => ?_)
  refine s_ifne (tgt := 94) X dX10_term_89 (by decide) rfl hv3 ?_ ?_
  · refine s_aload_n (j := 1) (pc2 := 95) X dX10_term_94 rfl rfl ?_
    refine s_iload_n (j := 0) (pc2 := 96) X dX10_term_95 rfl rfl ?_
    refine s_iconst (n := 0) (pc2 := 97) X dX10_term_96 rfl ?_
    refine s_callVV (d2 := d - 1) (As := [vI w1, vI 0]) (st := []) (pc2 := 100) X dX10_term_97 rfl ml_RX10_162 im_X10_puts se_X10_puts kX10 rfl (c_X10_puts (d - 1) (by omega) C.1 C.2.2.1 l0 w1 0 hw1 (inI_c 0 rfl)) hy_X10_puts rfl rfl hf hlo (st_room (Nat.le_of_ble_eq_true rfl)) hcs (fun _ => ?_)
    refine s_goto (pc2 := 9) X dX10_term_100 (by decide) ?_
    refine s_sub (lv2 := [(0, vR C.1.1 l0)]) [1] rfl ?_
    exact hk9 l0
  · refine s_iconst (n := 0) (pc2 := 93) X dX10_term_92 rfl ?_
    exact s_zret X dX10_term_93
set_option maxRecDepth 4000 in
theorem z_X10_term_L36 (d : Nat) (hd : 5 ≤ d) {C : hCx} (K : hCtx C.1 C.2.2.1 d 0 0 "term" C) (X : hOK C cX10_term RX10 2 (some .boolean)) (k9 : Nat → hM) (hk9 : ∀ (l0 : Nat), hSim C (some .boolean) 0 0 2 9 [(0, vR C.1.1 l0)] [] 0 0 (k9 l0)) (l0 : Nat) : hSim C (some .boolean) 0 0 2 36 [(0, vR C.1.1 l0)] [] 0 0 (m_X10_term_L36 k9 l0) := by
  obtain ⟨⟨hf, hlo⟩, ⟨hc1, hc2⟩, hf1, hl1⟩ := K_room K (by omega)
  have hcs : 0 ≤ C.2.2.2.2.1.cells ∧ 0 ≤ C.2.2.2.2.1.slots := ⟨Nat.zero_le _, Nat.zero_le _⟩
  unfold m_X10_term_L36
  refine s_aload_n (j := 0) (pc2 := 37) X dX10_term_36 rfl rfl ?_
  refine s_getR (pc2 := 40) X dX10_term_37 rfl fl_RX10_7 rfl (fun v1 => ?_)
  refine s_aload_n (j := 0) (pc2 := 41) X dX10_term_40 rfl rfl ?_
  refine s_getI (pc2 := 44) X dX10_term_41 rfl fl_RX10_90 rfl (fun v2 hv2 => ?_)
  refine s_bald (pc2 := 45) X dX10_term_44 rfl (fun v3 hv3 => ?_)
  refine s_bipush (n := 42) (pc2 := 47) X dX10_term_45 rfl rfl ?_
  refine s_icne (tgt := 54) X dX10_term_47 (by decide) rfl hv3 (inI_c 42 rfl) ?_ ?_
  · refine s_aload_n (j := 0) (pc2 := 55) X dX10_term_54 rfl rfl ?_
    refine s_getR (pc2 := 58) X dX10_term_55 rfl fl_RX10_7 rfl (fun v4 => ?_)
    refine s_aload_n (j := 0) (pc2 := 59) X dX10_term_58 rfl rfl ?_
    refine s_getI (pc2 := 62) X dX10_term_59 rfl fl_RX10_90 rfl (fun v5 hv5 => ?_)
    refine s_bald (pc2 := 63) X dX10_term_62 rfl (fun v6 hv6 => ?_)
    refine s_bipush (n := 47) (pc2 := 65) X dX10_term_63 rfl rfl ?_
    refine s_icne (tgt := 72) X dX10_term_65 (by decide) rfl hv6 (inI_c 47 rfl) ?_ ?_
    · refine s_bipush (n := 14) (pc2 := 74) X dX10_term_72 rfl rfl ?_
      exact z_X10_term_L74 d hd K X k9 hk9 l0 14 (inI_c 14 rfl)
    · refine s_iconst (n := 5) (pc2 := 69) X dX10_term_68 rfl ?_
      refine s_goto (pc2 := 74) X dX10_term_69 (by decide) ?_
      exact z_X10_term_L74 d hd K X k9 hk9 l0 5 (inI_c 5 rfl)
  · refine s_iconst (n := 4) (pc2 := 51) X dX10_term_50 rfl ?_
    refine s_goto (pc2 := 74) X dX10_term_51 (by decide) ?_
    exact z_X10_term_L74 d hd K X k9 hk9 l0 4 (inI_c 4 rfl)
set_option maxRecDepth 4000 in
theorem z_X10_term_L9 (d : Nat) (hd : 5 ≤ d) {C : hCx} (K : hCtx C.1 C.2.2.1 d 0 0 "term" C) (X : hOK C cX10_term RX10 2 (some .boolean)) : ∀ (n : Nat) (l0 : Nat), hSim C (some .boolean) 0 0 2 9 [(0, vR C.1.1 l0)] [] 0 0 (m_X10_term_L9 n l0) := by
  obtain ⟨⟨hf, hlo⟩, ⟨hc1, hc2⟩, hf1, hl1⟩ := K_room K (by omega)
  have hcs : 0 ≤ C.2.2.2.2.1.cells ∧ 0 ≤ C.2.2.2.2.1.slots := ⟨Nat.zero_le _, Nat.zero_le _⟩
  intro n
  induction n with
  | zero => intros; exact s_none (fun _ => rfl)
  | succ n ih =>
    intro l0
    unfold m_X10_term_L9
    refine s_aload_n (j := 0) (pc2 := 10) X dX10_term_9 rfl rfl ?_
    refine s_callVI (d2 := d - 1) (As := []) (st := []) (pc2 := 13) X dX10_term_10 rfl ml_RX10_93 im_X10_see se_X10_see kX10 rfl (c_X10_see (d - 1) (by omega) C.1 C.2.2.1 l0) hy_X10_see rfl rfl hf hlo (st_room (Nat.le_of_ble_eq_true rfl)) hcs (fun v1 hv1 => ?_)
    refine s_bipush (n := 42) (pc2 := 15) X dX10_term_13 rfl rfl ?_
    refine s_iceq (tgt := 36) X dX10_term_15 (by decide) rfl hv1 (inI_c 42 rfl) ?_ ?_
    · exact z_X10_term_L36 d hd K X (m_X10_term_L9 n) ih l0
    · refine s_aload_n (j := 0) (pc2 := 19) X dX10_term_18 rfl rfl ?_
      refine s_callVI (d2 := d - 1) (As := []) (st := []) (pc2 := 22) X dX10_term_19 rfl ml_RX10_93 im_X10_see se_X10_see kX10 rfl (c_X10_see (d - 1) (by omega) C.1 C.2.2.1 l0) hy_X10_see rfl rfl hf hlo (st_room (Nat.le_of_ble_eq_true rfl)) hcs (fun v2 hv2 => ?_)
      refine s_bipush (n := 47) (pc2 := 24) X dX10_term_22 rfl rfl ?_
      refine s_iceq (tgt := 36) X dX10_term_24 (by decide) rfl hv2 (inI_c 47 rfl) ?_ ?_
      · exact z_X10_term_L36 d hd K X (m_X10_term_L9 n) ih l0
      · refine s_aload_n (j := 0) (pc2 := 28) X dX10_term_27 rfl rfl ?_
        refine s_callVI (d2 := d - 1) (As := []) (st := []) (pc2 := 31) X dX10_term_28 rfl ml_RX10_93 im_X10_see se_X10_see kX10 rfl (c_X10_see (d - 1) (by omega) C.1 C.2.2.1 l0) hy_X10_see rfl rfl hf hlo (st_room (Nat.le_of_ble_eq_true rfl)) hcs (fun v3 hv3 => ?_)
        refine s_bipush (n := 37) (pc2 := 33) X dX10_term_31 rfl rfl ?_
        refine s_icne (tgt := 103) X dX10_term_33 (by decide) rfl hv3 (inI_c 37 rfl) ?_ ?_
        · refine s_iconst (n := 1) (pc2 := 104) X dX10_term_103 rfl ?_
          exact s_zret X dX10_term_104
        · exact z_X10_term_L36 d hd K X (m_X10_term_L9 n) ih l0
set_option maxRecDepth 4000 in
set_option maxHeartbeats 20000000 in
theorem z_X10_term (d : Nat) (hd : 5 ≤ d) {C : hCx} (K : hCtx C.1 C.2.2.1 d 0 0 "term" C) (X : hOK C cX10_term RX10 2 (some .boolean)) (l0 : Nat) : hSim C (some .boolean) 0 0 2 0 [(0, vR C.1.1 l0)] [] 0 0 (m_X10_term l0) := by
  obtain ⟨⟨hf, hlo⟩, ⟨hc1, hc2⟩, hf1, hl1⟩ := K_room K (by omega)
  have hcs : 0 ≤ C.2.2.2.2.1.cells ∧ 0 ≤ C.2.2.2.2.1.slots := ⟨Nat.zero_le _, Nat.zero_le _⟩
  unfold m_X10_term
  refine s_aload_n (j := 0) (pc2 := 1) X dX10_term_0 rfl rfl ?_
  refine s_callVZ (d2 := d - 1) (As := []) (st := []) (pc2 := 4) X dX10_term_1 rfl ml_RX10_176 im_X10_value se_X10_value kX10 rfl (c_X10_value (d - 1) (by omega) C.1 C.2.2.1 l0) hy_X10_value rfl rfl hf hlo (st_room (Nat.le_of_ble_eq_true rfl)) hcs (fun v1 hv1 => ?_)
  refine s_ifne (tgt := 9) X dX10_term_4 (by decide) rfl hv1 ?_ ?_
  · exact z_X10_term_L9 d hd K X 1000000000 l0
  · refine s_iconst (n := 0) (pc2 := 8) X dX10_term_7 rfl ?_
    exact s_zret X dX10_term_8
theorem c_X10_term (d : Nat) (hd : 5 ≤ d) (G : hG) (l : Launch) (l0 : Nat) : hMet G l yX10_term cX10_term 2 (some .boolean) d 0 0 [vR G.1 l0] (m_X10_term l0) := by
  refine hMet.of (lv := [(0, vR G.1 l0)]) (by decide +kernel) (by simp [lg_sl, vR_cat, vI_cat, vL_cat, vS_cat2, vT_cat2]) (by simp [lv_args, vR_cat, vI_cat, vL_cat, vS_cat2, vT_cat2]) (fun C K X => ?_)
  obtain ⟨rfl, rfl, K⟩ := K
  exact z_X10_term d hd ⟨rfl, rfl, K⟩ X l0
def m_X10_sum_L46 (k9 : Nat → hM) (l0 : Nat) (s0 : Int) : hM :=
  hlet s0 fun (w1 : Int) =>
  hgI 10 l0 8 fun v2 =>
  hpI 10 l0 8 ((w32 (v2 + 1))) <|
  hcallV 10 l0 (m_X10_term l0) fun v3 =>
  hif (v3 ≠ 0) (
hcallV 10 l0 (m_X10_puts l0 w1 0) fun _ =>
  k9 l0) (
hretZ 0)
def m_X10_sum_L27 (k9 : Nat → hM) (l0 : Nat) : hM :=
  hgR 10 l0 0 fun v1 =>
  hgI 10 l0 8 fun v2 =>
  haI 22 v1 v2 fun v3 =>
  hif (v3 ≠ 43) (
m_X10_sum_L46 k9 l0 3) (
m_X10_sum_L46 k9 l0 2)
def m_X10_sum_L9 : Nat → Nat → hM
  | 0, _ => hfail
  | n + 1, l0 =>
    hcallV 10 l0 (m_X10_see l0) fun v1 =>
  hif (v1 = 43) (
m_X10_sum_L27 (m_X10_sum_L9 n) l0) (
hcallV 10 l0 (m_X10_see l0) fun v2 =>
  hif (v2 ≠ 45) (
hretZ 1) (
m_X10_sum_L27 (m_X10_sum_L9 n) l0))
def m_X10_sum (l0 : Nat) : hM :=
  hcallV 10 l0 (m_X10_term l0) fun v1 =>
  hif (v1 ≠ 0) (
m_X10_sum_L9 1000000000 l0) (
hretZ 0)
set_option maxRecDepth 4000 in
theorem z_X10_sum_L46 (d : Nat) (hd : 6 ≤ d) {C : hCx} (K : hCtx C.1 C.2.2.1 d 0 0 "sum" C) (X : hOK C cX10_sum RX10 2 (some .boolean)) (k9 : Nat → hM) (hk9 : ∀ (l0 : Nat), hSim C (some .boolean) 0 0 2 9 [(0, vR C.1.1 l0)] [] 0 0 (k9 l0)) (l0 : Nat) (s0 : Int) (g0 : inI s0) : hSim C (some .boolean) 0 0 2 46 [(0, vR C.1.1 l0)] [vI s0] 0 0 (m_X10_sum_L46 k9 l0 s0) := by
  obtain ⟨⟨hf, hlo⟩, ⟨hc1, hc2⟩, hf1, hl1⟩ := K_room K (by omega)
  have hcs : 0 ≤ C.2.2.2.2.1.cells ∧ 0 ≤ C.2.2.2.2.1.slots := ⟨Nat.zero_le _, Nat.zero_le _⟩
  unfold m_X10_sum_L46
  refine s_istore_n (pc2 := 47) X dX10_sum_46 rfl (by decide) rfl rfl cat1_R g0 (fun w1 hw1 => ?_)
  refine s_aload_n (j := 1) (pc2 := 48) X dX10_sum_47 rfl rfl ?_
  refine s_dup (pc2 := 49) X dX10_sum_48 rfl (vR_cat _ _) ?_
  refine s_getI (pc2 := 52) X dX10_sum_49 rfl fl_RX10_90 rfl (fun v2 hv2 => ?_)
  refine s_iconst (n := 1) (pc2 := 53) X dX10_sum_52 rfl ?_
  refine s_iadd (pc2 := 54) X dX10_sum_53 rfl ?_
  refine s_putI (pc2 := 57) X dX10_sum_54 rfl fl_RX10_90 (Or.inl rfl) rfl (w32_in _) ?_
  refine s_aload_n (j := 1) (pc2 := 58) X dX10_sum_57 rfl rfl ?_
  refine s_callVZ (d2 := d - 1) (As := []) (st := []) (pc2 := 61) X dX10_sum_58 rfl ml_RX10_180 im_X10_term se_X10_term kX10 rfl (c_X10_term (d - 1) (by omega) C.1 C.2.2.1 l0) hy_X10_term rfl rfl hf hlo (st_room (Nat.le_of_ble_eq_true rfl)) hcs (fun v3 hv3 => ?_)
  refine s_ifne (tgt := 66) X dX10_sum_61 (by decide) rfl hv3 ?_ ?_
  · refine s_aload_n (j := 1) (pc2 := 67) X dX10_sum_66 rfl rfl ?_
    refine s_iload_n (j := 0) (pc2 := 68) X dX10_sum_67 rfl rfl ?_
    refine s_iconst (n := 0) (pc2 := 69) X dX10_sum_68 rfl ?_
    refine s_callVV (d2 := d - 1) (As := [vI w1, vI 0]) (st := []) (pc2 := 72) X dX10_sum_69 rfl ml_RX10_162 im_X10_puts se_X10_puts kX10 rfl (c_X10_puts (d - 1) (by omega) C.1 C.2.2.1 l0 w1 0 hw1 (inI_c 0 rfl)) hy_X10_puts rfl rfl hf hlo (st_room (Nat.le_of_ble_eq_true rfl)) hcs (fun _ => ?_)
    refine s_goto (pc2 := 9) X dX10_sum_72 (by decide) ?_
    refine s_sub (lv2 := [(0, vR C.1.1 l0)]) [1] rfl ?_
    exact hk9 l0
  · refine s_iconst (n := 0) (pc2 := 65) X dX10_sum_64 rfl ?_
    exact s_zret X dX10_sum_65
set_option maxRecDepth 4000 in
theorem z_X10_sum_L27 (d : Nat) (hd : 6 ≤ d) {C : hCx} (K : hCtx C.1 C.2.2.1 d 0 0 "sum" C) (X : hOK C cX10_sum RX10 2 (some .boolean)) (k9 : Nat → hM) (hk9 : ∀ (l0 : Nat), hSim C (some .boolean) 0 0 2 9 [(0, vR C.1.1 l0)] [] 0 0 (k9 l0)) (l0 : Nat) : hSim C (some .boolean) 0 0 2 27 [(0, vR C.1.1 l0)] [] 0 0 (m_X10_sum_L27 k9 l0) := by
  obtain ⟨⟨hf, hlo⟩, ⟨hc1, hc2⟩, hf1, hl1⟩ := K_room K (by omega)
  have hcs : 0 ≤ C.2.2.2.2.1.cells ∧ 0 ≤ C.2.2.2.2.1.slots := ⟨Nat.zero_le _, Nat.zero_le _⟩
  unfold m_X10_sum_L27
  refine s_aload_n (j := 0) (pc2 := 28) X dX10_sum_27 rfl rfl ?_
  refine s_getR (pc2 := 31) X dX10_sum_28 rfl fl_RX10_7 rfl (fun v1 => ?_)
  refine s_aload_n (j := 0) (pc2 := 32) X dX10_sum_31 rfl rfl ?_
  refine s_getI (pc2 := 35) X dX10_sum_32 rfl fl_RX10_90 rfl (fun v2 hv2 => ?_)
  refine s_bald (pc2 := 36) X dX10_sum_35 rfl (fun v3 hv3 => ?_)
  refine s_bipush (n := 43) (pc2 := 38) X dX10_sum_36 rfl rfl ?_
  refine s_icne (tgt := 45) X dX10_sum_38 (by decide) rfl hv3 (inI_c 43 rfl) ?_ ?_
  · refine s_iconst (n := 3) (pc2 := 46) X dX10_sum_45 rfl ?_
    exact z_X10_sum_L46 d hd K X k9 hk9 l0 3 (inI_c 3 rfl)
  · refine s_iconst (n := 2) (pc2 := 42) X dX10_sum_41 rfl ?_
    refine s_goto (pc2 := 46) X dX10_sum_42 (by decide) ?_
    exact z_X10_sum_L46 d hd K X k9 hk9 l0 2 (inI_c 2 rfl)
set_option maxRecDepth 4000 in
theorem z_X10_sum_L9 (d : Nat) (hd : 6 ≤ d) {C : hCx} (K : hCtx C.1 C.2.2.1 d 0 0 "sum" C) (X : hOK C cX10_sum RX10 2 (some .boolean)) : ∀ (n : Nat) (l0 : Nat), hSim C (some .boolean) 0 0 2 9 [(0, vR C.1.1 l0)] [] 0 0 (m_X10_sum_L9 n l0) := by
  obtain ⟨⟨hf, hlo⟩, ⟨hc1, hc2⟩, hf1, hl1⟩ := K_room K (by omega)
  have hcs : 0 ≤ C.2.2.2.2.1.cells ∧ 0 ≤ C.2.2.2.2.1.slots := ⟨Nat.zero_le _, Nat.zero_le _⟩
  intro n
  induction n with
  | zero => intros; exact s_none (fun _ => rfl)
  | succ n ih =>
    intro l0
    unfold m_X10_sum_L9
    refine s_aload_n (j := 0) (pc2 := 10) X dX10_sum_9 rfl rfl ?_
    refine s_callVI (d2 := d - 1) (As := []) (st := []) (pc2 := 13) X dX10_sum_10 rfl ml_RX10_93 im_X10_see se_X10_see kX10 rfl (c_X10_see (d - 1) (by omega) C.1 C.2.2.1 l0) hy_X10_see rfl rfl hf hlo (st_room (Nat.le_of_ble_eq_true rfl)) hcs (fun v1 hv1 => ?_)
    refine s_bipush (n := 43) (pc2 := 15) X dX10_sum_13 rfl rfl ?_
    refine s_iceq (tgt := 27) X dX10_sum_15 (by decide) rfl hv1 (inI_c 43 rfl) ?_ ?_
    · exact z_X10_sum_L27 d hd K X (m_X10_sum_L9 n) ih l0
    · refine s_aload_n (j := 0) (pc2 := 19) X dX10_sum_18 rfl rfl ?_
      refine s_callVI (d2 := d - 1) (As := []) (st := []) (pc2 := 22) X dX10_sum_19 rfl ml_RX10_93 im_X10_see se_X10_see kX10 rfl (c_X10_see (d - 1) (by omega) C.1 C.2.2.1 l0) hy_X10_see rfl rfl hf hlo (st_room (Nat.le_of_ble_eq_true rfl)) hcs (fun v2 hv2 => ?_)
      refine s_bipush (n := 45) (pc2 := 24) X dX10_sum_22 rfl rfl ?_
      refine s_icne (tgt := 75) X dX10_sum_24 (by decide) rfl hv2 (inI_c 45 rfl) ?_ ?_
      · refine s_iconst (n := 1) (pc2 := 76) X dX10_sum_75 rfl ?_
        exact s_zret X dX10_sum_76
      · exact z_X10_sum_L27 d hd K X (m_X10_sum_L9 n) ih l0
set_option maxRecDepth 4000 in
set_option maxHeartbeats 20000000 in
theorem z_X10_sum (d : Nat) (hd : 6 ≤ d) {C : hCx} (K : hCtx C.1 C.2.2.1 d 0 0 "sum" C) (X : hOK C cX10_sum RX10 2 (some .boolean)) (l0 : Nat) : hSim C (some .boolean) 0 0 2 0 [(0, vR C.1.1 l0)] [] 0 0 (m_X10_sum l0) := by
  obtain ⟨⟨hf, hlo⟩, ⟨hc1, hc2⟩, hf1, hl1⟩ := K_room K (by omega)
  have hcs : 0 ≤ C.2.2.2.2.1.cells ∧ 0 ≤ C.2.2.2.2.1.slots := ⟨Nat.zero_le _, Nat.zero_le _⟩
  unfold m_X10_sum
  refine s_aload_n (j := 0) (pc2 := 1) X dX10_sum_0 rfl rfl ?_
  refine s_callVZ (d2 := d - 1) (As := []) (st := []) (pc2 := 4) X dX10_sum_1 rfl ml_RX10_180 im_X10_term se_X10_term kX10 rfl (c_X10_term (d - 1) (by omega) C.1 C.2.2.1 l0) hy_X10_term rfl rfl hf hlo (st_room (Nat.le_of_ble_eq_true rfl)) hcs (fun v1 hv1 => ?_)
  refine s_ifne (tgt := 9) X dX10_sum_4 (by decide) rfl hv1 ?_ ?_
  · exact z_X10_sum_L9 d hd K X 1000000000 l0
  · refine s_iconst (n := 0) (pc2 := 8) X dX10_sum_7 rfl ?_
    exact s_zret X dX10_sum_8
theorem c_X10_sum (d : Nat) (hd : 6 ≤ d) (G : hG) (l : Launch) (l0 : Nat) : hMet G l yX10_sum cX10_sum 2 (some .boolean) d 0 0 [vR G.1 l0] (m_X10_sum l0) := by
  refine hMet.of (lv := [(0, vR G.1 l0)]) (by decide +kernel) (by simp [lg_sl, vR_cat, vI_cat, vL_cat, vS_cat2, vT_cat2]) (by simp [lv_args, vR_cat, vI_cat, vL_cat, vS_cat2, vT_cat2]) (fun C K X => ?_)
  obtain ⟨rfl, rfl, K⟩ := K
  exact z_X10_sum d hd ⟨rfl, rfl, K⟩ X l0
def m_X10_compare_L152 (l0 : Nat) (s0 : Int) : hM :=
  hlet s0 fun (w1 : Int) =>
  hcallV 10 l0 (m_X10_sum l0) fun v2 =>
  hif (v2 ≠ 0) (
hcallV 10 l0 (m_X10_puts l0 ((w32 (6 + w1))) 0) fun _ =>
  hretZ 1) (
hretZ 0)
def m_X10_compare_L105 (l0 : Nat) (l1 : Int) (l2 : Int) (l3 : Int) : hM :=
  hcallV 10 l0 (m_X10_makes l0 l2) fun v1 =>
  hif (v1 ≠ 0) (
hif (l1 ≠ 60) (
hif (l1 ≠ 61) (
hif (l3 = 0) (
m_X10_compare_L152 l0 4) (
m_X10_compare_L152 l0 3)) (
m_X10_compare_L152 l0 2)) (
hif (l3 = 0) (
m_X10_compare_L152 l0 0) (
m_X10_compare_L152 l0 1))) (
hretZ 0)
def m_X10_compare_L90 (l0 : Nat) (l1 : Int) (l2 : Int) (s0 : Int) : hM :=
  hlet s0 fun (w1 : Int) =>
  hif (w1 = 0) (
m_X10_compare_L105 l0 l1 l2 w1) (
hgI 10 l0 8 fun v2 =>
  hpI 10 l0 8 ((w32 (v2 + 1))) <|
  m_X10_compare_L105 l0 l1 l2 w1)
def m_X10_compare_L89 (l0 : Nat) (l1 : Int) (l2 : Int) : hM :=
  m_X10_compare_L90 l0 l1 l2 0
def m_X10_compare_L44 (l0 : Nat) (l1 : Int) (l2 : Int) : hM :=
  hgI 10 l0 8 fun v1 =>
  hpI 10 l0 8 ((w32 (v1 + 1))) <|
  hif (l1 = 61) (
m_X10_compare_L89 l0 l1 l2) (
hgI 10 l0 8 fun v2 =>
  hgI 10 l0 1 fun v3 =>
  hif (v2 ≥ v3) (
m_X10_compare_L89 l0 l1 l2) (
hgR 10 l0 0 fun v4 =>
  hgI 10 l0 8 fun v5 =>
  haI 22 v4 v5 fun v6 =>
  hif (v6 ≠ 61) (
m_X10_compare_L89 l0 l1 l2) (
m_X10_compare_L90 l0 l1 l2 1)))
def m_X10_compare (l0 : Nat) : hM :=
  hcallV 10 l0 (m_X10_sum l0) fun v1 =>
  hif (v1 ≠ 0) (
hcallV 10 l0 (m_X10_see l0) fun v2 =>
  hlet v2 fun (w3 : Int) =>
  hgI 10 l0 8 fun v4 =>
  hlet v4 fun (w5 : Int) =>
  hif (w3 = 60) (
m_X10_compare_L44 l0 w3 w5) (
hif (w3 = 61) (
m_X10_compare_L44 l0 w3 w5) (
hif (w3 = 62) (
m_X10_compare_L44 l0 w3 w5) (
hcallV 10 l0 (m_X10_fails l0 0 w5) fun v6 =>
  hretZ v6)))) (
hretZ 0)
set_option maxRecDepth 4000 in
theorem z_X10_compare_L152 (d : Nat) (hd : 7 ≤ d) {C : hCx} (K : hCtx C.1 C.2.2.1 d 0 0 "compare" C) (X : hOK C cX10_compare RX10 5 (some .boolean)) (l0 : Nat) (s0 : Int) (g0 : inI s0) : hSim C (some .boolean) 0 0 5 152 [(0, vR C.1.1 l0)] [vI s0] 0 0 (m_X10_compare_L152 l0 s0) := by
  obtain ⟨⟨hf, hlo⟩, ⟨hc1, hc2⟩, hf1, hl1⟩ := K_room K (by omega)
  have hcs : 0 ≤ C.2.2.2.2.1.cells ∧ 0 ≤ C.2.2.2.2.1.slots := ⟨Nat.zero_le _, Nat.zero_le _⟩
  unfold m_X10_compare_L152
  refine s_istore (pc2 := 154) X dX10_compare_152 rfl (by decide) rfl rfl cat1_N g0 (fun w1 hw1 => ?_)
  refine s_aload_n (j := 1) (pc2 := 155) X dX10_compare_154 rfl rfl ?_
  refine s_callVZ (d2 := d - 1) (As := []) (st := []) (pc2 := 158) X dX10_compare_155 rfl ml_RX10_183 im_X10_sum se_X10_sum kX10 rfl (c_X10_sum (d - 1) (by omega) C.1 C.2.2.1 l0) hy_X10_sum rfl rfl hf hlo (st_room (Nat.le_of_ble_eq_true rfl)) hcs (fun v2 hv2 => ?_)
  refine s_ifne (tgt := 163) X dX10_compare_158 (by decide) rfl hv2 ?_ ?_
  · refine s_aload_n (j := 1) (pc2 := 164) X dX10_compare_163 rfl rfl ?_
    refine s_bipush (n := 6) (pc2 := 166) X dX10_compare_164 rfl rfl ?_
    refine s_iload (j := 0) (pc2 := 168) X dX10_compare_166 rfl rfl ?_
    refine s_iadd (pc2 := 169) X dX10_compare_168 rfl ?_
    refine s_iconst (n := 0) (pc2 := 170) X dX10_compare_169 rfl ?_
    refine s_callVV (d2 := d - 1) (As := [vI ((w32 (6 + w1))), vI 0]) (st := []) (pc2 := 173) X dX10_compare_170 rfl ml_RX10_162 im_X10_puts se_X10_puts kX10 rfl (c_X10_puts (d - 1) (by omega) C.1 C.2.2.1 l0 ((w32 (6 + w1))) 0 (w32_in _) (inI_c 0 rfl)) hy_X10_puts rfl rfl hf hlo (st_room (Nat.le_of_ble_eq_true rfl)) hcs (fun _ => ?_)
    refine s_iconst (n := 1) (pc2 := 174) X dX10_compare_173 rfl ?_
    exact s_zret X dX10_compare_174
  · refine s_iconst (n := 0) (pc2 := 162) X dX10_compare_161 rfl ?_
    exact s_zret X dX10_compare_162
set_option maxRecDepth 4000 in
theorem z_X10_compare_L105 (d : Nat) (hd : 7 ≤ d) {C : hCx} (K : hCtx C.1 C.2.2.1 d 0 0 "compare" C) (X : hOK C cX10_compare RX10 5 (some .boolean)) (l0 : Nat) (l1 : Int) (l2 : Int) (l3 : Int) (h1 : inI l1) (h2 : inI l2) (h3 : inI l3) : hSim C (some .boolean) 0 0 5 105 [(0, vR C.1.1 l0), (1, vI l1), (2, vI l2), (3, vI l3)] [] 0 0 (m_X10_compare_L105 l0 l1 l2 l3) := by
  obtain ⟨⟨hf, hlo⟩, ⟨hc1, hc2⟩, hf1, hl1⟩ := K_room K (by omega)
  have hcs : 0 ≤ C.2.2.2.2.1.cells ∧ 0 ≤ C.2.2.2.2.1.slots := ⟨Nat.zero_le _, Nat.zero_le _⟩
  unfold m_X10_compare_L105
  refine s_aload_n (j := 0) (pc2 := 106) X dX10_compare_105 rfl rfl ?_
  refine s_iload_n (j := 2) (pc2 := 107) X dX10_compare_106 rfl rfl ?_
  refine s_callVZ (d2 := d - 1) (As := [vI l2]) (st := []) (pc2 := 110) X dX10_compare_107 rfl ml_RX10_170 im_X10_makes se_X10_makes kX10 rfl (c_X10_makes (d - 1) (by omega) C.1 C.2.2.1 l0 l2 h2) hy_X10_makes rfl rfl hf hlo (st_room (Nat.le_of_ble_eq_true rfl)) hcs (fun v1 hv1 => ?_)
  refine s_ifne (tgt := 115) X dX10_compare_110 (by decide) rfl hv1 ?_ ?_
  · refine s_iload_n (j := 1) (pc2 := 116) X dX10_compare_115 rfl rfl ?_
    refine s_bipush (n := 60) (pc2 := 118) X dX10_compare_116 rfl rfl ?_
    refine s_icne (tgt := 133) X dX10_compare_118 (by decide) rfl h1 (inI_c 60 rfl) ?_ ?_
    · refine s_iload_n (j := 1) (pc2 := 134) X dX10_compare_133 rfl rfl ?_
      refine s_bipush (n := 61) (pc2 := 136) X dX10_compare_134 rfl rfl ?_
      refine s_icne (tgt := 143) X dX10_compare_136 (by decide) rfl h1 (inI_c 61 rfl) ?_ ?_
      · refine s_iload_n (j := 3) (pc2 := 144) X dX10_compare_143 rfl rfl ?_
        refine s_ifeq (tgt := 151) X dX10_compare_144 (by decide) rfl h3 ?_ ?_
        · refine s_iconst (n := 4) (pc2 := 152) X dX10_compare_151 rfl ?_
          refine s_sub (lv2 := [(0, vR C.1.1 l0)]) [0] rfl ?_
          exact z_X10_compare_L152 d hd K X l0 4 (inI_c 4 rfl)
        · refine s_iconst (n := 3) (pc2 := 148) X dX10_compare_147 rfl ?_
          refine s_goto (pc2 := 152) X dX10_compare_148 (by decide) ?_
          refine s_sub (lv2 := [(0, vR C.1.1 l0)]) [0] rfl ?_
          exact z_X10_compare_L152 d hd K X l0 3 (inI_c 3 rfl)
      · refine s_iconst (n := 2) (pc2 := 140) X dX10_compare_139 rfl ?_
        refine s_goto (pc2 := 152) X dX10_compare_140 (by decide) ?_
        refine s_sub (lv2 := [(0, vR C.1.1 l0)]) [0] rfl ?_
        exact z_X10_compare_L152 d hd K X l0 2 (inI_c 2 rfl)
    · refine s_iload_n (j := 3) (pc2 := 122) X dX10_compare_121 rfl rfl ?_
      refine s_ifeq (tgt := 129) X dX10_compare_122 (by decide) rfl h3 ?_ ?_
      · refine s_iconst (n := 0) (pc2 := 130) X dX10_compare_129 rfl ?_
        refine s_goto (pc2 := 152) X dX10_compare_130 (by decide) ?_
        refine s_sub (lv2 := [(0, vR C.1.1 l0)]) [0] rfl ?_
        exact z_X10_compare_L152 d hd K X l0 0 (inI_c 0 rfl)
      · refine s_iconst (n := 1) (pc2 := 126) X dX10_compare_125 rfl ?_
        refine s_goto (pc2 := 152) X dX10_compare_126 (by decide) ?_
        refine s_sub (lv2 := [(0, vR C.1.1 l0)]) [0] rfl ?_
        exact z_X10_compare_L152 d hd K X l0 1 (inI_c 1 rfl)
  · refine s_iconst (n := 0) (pc2 := 114) X dX10_compare_113 rfl ?_
    exact s_zret X dX10_compare_114
set_option maxRecDepth 4000 in
theorem z_X10_compare_L90 (d : Nat) (hd : 7 ≤ d) {C : hCx} (K : hCtx C.1 C.2.2.1 d 0 0 "compare" C) (X : hOK C cX10_compare RX10 5 (some .boolean)) (l0 : Nat) (l1 : Int) (l2 : Int) (s0 : Int) (h1 : inI l1) (h2 : inI l2) (g0 : inI s0) : hSim C (some .boolean) 0 0 5 90 [(0, vR C.1.1 l0), (1, vI l1), (2, vI l2)] [vI s0] 0 0 (m_X10_compare_L90 l0 l1 l2 s0) := by
  obtain ⟨⟨hf, hlo⟩, ⟨hc1, hc2⟩, hf1, hl1⟩ := K_room K (by omega)
  have hcs : 0 ≤ C.2.2.2.2.1.cells ∧ 0 ≤ C.2.2.2.2.1.slots := ⟨Nat.zero_le _, Nat.zero_le _⟩
  unfold m_X10_compare_L90
  refine s_istore_n (pc2 := 91) X dX10_compare_90 rfl (by decide) rfl rfl cat1_I g0 (fun w1 hw1 => ?_)
  refine s_iload_n (j := 0) (pc2 := 92) X dX10_compare_91 rfl rfl ?_
  refine s_ifeq (tgt := 105) X dX10_compare_92 (by decide) rfl hw1 ?_ ?_
  · refine s_sub (lv2 := [(0, vR C.1.1 l0), (1, vI l1), (2, vI l2), (3, vI w1)]) [1, 2, 3, 0] rfl ?_
    exact z_X10_compare_L105 d hd K X l0 l1 l2 w1 h1 h2 hw1
  · refine s_aload_n (j := 1) (pc2 := 96) X dX10_compare_95 rfl rfl ?_
    refine s_dup (pc2 := 97) X dX10_compare_96 rfl (vR_cat _ _) ?_
    refine s_getI (pc2 := 100) X dX10_compare_97 rfl fl_RX10_90 rfl (fun v2 hv2 => ?_)
    refine s_iconst (n := 1) (pc2 := 101) X dX10_compare_100 rfl ?_
    refine s_iadd (pc2 := 102) X dX10_compare_101 rfl ?_
    refine s_putI (pc2 := 105) X dX10_compare_102 rfl fl_RX10_90 (Or.inl rfl) rfl (w32_in _) ?_
    refine s_sub (lv2 := [(0, vR C.1.1 l0), (1, vI l1), (2, vI l2), (3, vI w1)]) [1, 2, 3, 0] rfl ?_
    exact z_X10_compare_L105 d hd K X l0 l1 l2 w1 h1 h2 hw1
set_option maxRecDepth 4000 in
theorem z_X10_compare_L89 (d : Nat) (hd : 7 ≤ d) {C : hCx} (K : hCtx C.1 C.2.2.1 d 0 0 "compare" C) (X : hOK C cX10_compare RX10 5 (some .boolean)) (l0 : Nat) (l1 : Int) (l2 : Int) (h1 : inI l1) (h2 : inI l2) : hSim C (some .boolean) 0 0 5 89 [(0, vR C.1.1 l0), (1, vI l1), (2, vI l2)] [] 0 0 (m_X10_compare_L89 l0 l1 l2) := by
  obtain ⟨⟨hf, hlo⟩, ⟨hc1, hc2⟩, hf1, hl1⟩ := K_room K (by omega)
  have hcs : 0 ≤ C.2.2.2.2.1.cells ∧ 0 ≤ C.2.2.2.2.1.slots := ⟨Nat.zero_le _, Nat.zero_le _⟩
  unfold m_X10_compare_L89
  refine s_iconst (n := 0) (pc2 := 90) X dX10_compare_89 rfl ?_
  exact z_X10_compare_L90 d hd K X l0 l1 l2 0 h1 h2 (inI_c 0 rfl)
set_option maxRecDepth 4000 in
theorem z_X10_compare_L44 (d : Nat) (hd : 7 ≤ d) {C : hCx} (K : hCtx C.1 C.2.2.1 d 0 0 "compare" C) (X : hOK C cX10_compare RX10 5 (some .boolean)) (l0 : Nat) (l1 : Int) (l2 : Int) (h1 : inI l1) (h2 : inI l2) : hSim C (some .boolean) 0 0 5 44 [(0, vR C.1.1 l0), (1, vI l1), (2, vI l2)] [] 0 0 (m_X10_compare_L44 l0 l1 l2) := by
  obtain ⟨⟨hf, hlo⟩, ⟨hc1, hc2⟩, hf1, hl1⟩ := K_room K (by omega)
  have hcs : 0 ≤ C.2.2.2.2.1.cells ∧ 0 ≤ C.2.2.2.2.1.slots := ⟨Nat.zero_le _, Nat.zero_le _⟩
  unfold m_X10_compare_L44
  refine s_aload_n (j := 0) (pc2 := 45) X dX10_compare_44 rfl rfl ?_
  refine s_dup (pc2 := 46) X dX10_compare_45 rfl (vR_cat _ _) ?_
  refine s_getI (pc2 := 49) X dX10_compare_46 rfl fl_RX10_90 rfl (fun v1 hv1 => ?_)
  refine s_iconst (n := 1) (pc2 := 50) X dX10_compare_49 rfl ?_
  refine s_iadd (pc2 := 51) X dX10_compare_50 rfl ?_
  refine s_putI (pc2 := 54) X dX10_compare_51 rfl fl_RX10_90 (Or.inl rfl) rfl (w32_in _) ?_
  refine s_iload_n (j := 1) (pc2 := 55) X dX10_compare_54 rfl rfl ?_
  refine s_bipush (n := 61) (pc2 := 57) X dX10_compare_55 rfl rfl ?_
  refine s_iceq (tgt := 89) X dX10_compare_57 (by decide) rfl h1 (inI_c 61 rfl) ?_ ?_
  · exact z_X10_compare_L89 d hd K X l0 l1 l2 h1 h2
  · refine s_aload_n (j := 0) (pc2 := 61) X dX10_compare_60 rfl rfl ?_
    refine s_getI (pc2 := 64) X dX10_compare_61 rfl fl_RX10_90 rfl (fun v2 hv2 => ?_)
    refine s_aload_n (j := 0) (pc2 := 65) X dX10_compare_64 rfl rfl ?_
    refine s_getI (pc2 := 68) X dX10_compare_65 rfl fl_RX10_79 rfl (fun v3 hv3 => ?_)
    refine s_icge (tgt := 89) X dX10_compare_68 (by decide) rfl hv2 hv3 ?_ ?_
    · exact z_X10_compare_L89 d hd K X l0 l1 l2 h1 h2
    · refine s_aload_n (j := 0) (pc2 := 72) X dX10_compare_71 rfl rfl ?_
      refine s_getR (pc2 := 75) X dX10_compare_72 rfl fl_RX10_7 rfl (fun v4 => ?_)
      refine s_aload_n (j := 0) (pc2 := 76) X dX10_compare_75 rfl rfl ?_
      refine s_getI (pc2 := 79) X dX10_compare_76 rfl fl_RX10_90 rfl (fun v5 hv5 => ?_)
      refine s_bald (pc2 := 80) X dX10_compare_79 rfl (fun v6 hv6 => ?_)
      refine s_bipush (n := 61) (pc2 := 82) X dX10_compare_80 rfl rfl ?_
      refine s_icne (tgt := 89) X dX10_compare_82 (by decide) rfl hv6 (inI_c 61 rfl) ?_ ?_
      · exact z_X10_compare_L89 d hd K X l0 l1 l2 h1 h2
      · refine s_iconst (n := 1) (pc2 := 86) X dX10_compare_85 rfl ?_
        refine s_goto (pc2 := 90) X dX10_compare_86 (by decide) ?_
        exact z_X10_compare_L90 d hd K X l0 l1 l2 1 h1 h2 (inI_c 1 rfl)
set_option maxRecDepth 4000 in
set_option maxHeartbeats 20000000 in
theorem z_X10_compare (d : Nat) (hd : 7 ≤ d) {C : hCx} (K : hCtx C.1 C.2.2.1 d 0 0 "compare" C) (X : hOK C cX10_compare RX10 5 (some .boolean)) (l0 : Nat) : hSim C (some .boolean) 0 0 5 0 [(0, vR C.1.1 l0)] [] 0 0 (m_X10_compare l0) := by
  obtain ⟨⟨hf, hlo⟩, ⟨hc1, hc2⟩, hf1, hl1⟩ := K_room K (by omega)
  have hcs : 0 ≤ C.2.2.2.2.1.cells ∧ 0 ≤ C.2.2.2.2.1.slots := ⟨Nat.zero_le _, Nat.zero_le _⟩
  unfold m_X10_compare
  refine s_aload_n (j := 0) (pc2 := 1) X dX10_compare_0 rfl rfl ?_
  refine s_callVZ (d2 := d - 1) (As := []) (st := []) (pc2 := 4) X dX10_compare_1 rfl ml_RX10_183 im_X10_sum se_X10_sum kX10 rfl (c_X10_sum (d - 1) (by omega) C.1 C.2.2.1 l0) hy_X10_sum rfl rfl hf hlo (st_room (Nat.le_of_ble_eq_true rfl)) hcs (fun v1 hv1 => ?_)
  refine s_ifne (tgt := 9) X dX10_compare_4 (by decide) rfl hv1 ?_ ?_
  · refine s_aload_n (j := 0) (pc2 := 10) X dX10_compare_9 rfl rfl ?_
    refine s_callVI (d2 := d - 1) (As := []) (st := []) (pc2 := 13) X dX10_compare_10 rfl ml_RX10_93 im_X10_see se_X10_see kX10 rfl (c_X10_see (d - 1) (by omega) C.1 C.2.2.1 l0) hy_X10_see rfl rfl hf hlo (st_room (Nat.le_of_ble_eq_true rfl)) hcs (fun v2 hv2 => ?_)
    refine s_istore_n (pc2 := 14) X dX10_compare_13 rfl (by decide) rfl rfl cat1_R hv2 (fun w3 hw3 => ?_)
    refine s_aload_n (j := 1) (pc2 := 15) X dX10_compare_14 rfl rfl ?_
    refine s_getI (pc2 := 18) X dX10_compare_15 rfl fl_RX10_90 rfl (fun v4 hv4 => ?_)
    refine s_istore_n (pc2 := 19) X dX10_compare_18 rfl (by decide) rfl rfl cat1_I hv4 (fun w5 hw5 => ?_)
    refine s_iload_n (j := 1) (pc2 := 20) X dX10_compare_19 rfl rfl ?_
    refine s_bipush (n := 60) (pc2 := 22) X dX10_compare_20 rfl rfl ?_
    refine s_iceq (tgt := 44) X dX10_compare_22 (by decide) rfl hw3 (inI_c 60 rfl) ?_ ?_
    · refine s_sub (lv2 := [(0, vR C.1.1 l0), (1, vI w3), (2, vI w5)]) [2, 1, 0] rfl ?_
      exact z_X10_compare_L44 d hd K X l0 w3 w5 hw3 hw5
    · refine s_iload_n (j := 1) (pc2 := 26) X dX10_compare_25 rfl rfl ?_
      refine s_bipush (n := 61) (pc2 := 28) X dX10_compare_26 rfl rfl ?_
      refine s_iceq (tgt := 44) X dX10_compare_28 (by decide) rfl hw3 (inI_c 61 rfl) ?_ ?_
      · refine s_sub (lv2 := [(0, vR C.1.1 l0), (1, vI w3), (2, vI w5)]) [2, 1, 0] rfl ?_
        exact z_X10_compare_L44 d hd K X l0 w3 w5 hw3 hw5
      · refine s_iload_n (j := 1) (pc2 := 32) X dX10_compare_31 rfl rfl ?_
        refine s_bipush (n := 62) (pc2 := 34) X dX10_compare_32 rfl rfl ?_
        refine s_iceq (tgt := 44) X dX10_compare_34 (by decide) rfl hw3 (inI_c 62 rfl) ?_ ?_
        · refine s_sub (lv2 := [(0, vR C.1.1 l0), (1, vI w3), (2, vI w5)]) [2, 1, 0] rfl ?_
          exact z_X10_compare_L44 d hd K X l0 w3 w5 hw3 hw5
        · refine s_aload_n (j := 2) (pc2 := 38) X dX10_compare_37 rfl rfl ?_
          refine s_iconst (n := 0) (pc2 := 39) X dX10_compare_38 rfl ?_
          refine s_iload_n (j := 0) (pc2 := 40) X dX10_compare_39 rfl rfl ?_
          refine s_callVZ (d2 := d - 1) (As := [vI 0, vI w5]) (st := []) (pc2 := 43) X dX10_compare_40 rfl ml_RX10_111 im_X10_fails se_X10_fails kX10 rfl (c_X10_fails (d - 1) (by omega) C.1 C.2.2.1 l0 0 w5 (inI_c 0 rfl) hw5) hy_X10_fails rfl rfl hf hlo (st_room (Nat.le_of_ble_eq_true rfl)) hcs (fun v6 hv6 => ?_)
          exact s_zret X dX10_compare_43
  · refine s_iconst (n := 0) (pc2 := 8) X dX10_compare_7 rfl ?_
    exact s_zret X dX10_compare_8
theorem c_X10_compare (d : Nat) (hd : 7 ≤ d) (G : hG) (l : Launch) (l0 : Nat) : hMet G l yX10_compare cX10_compare 5 (some .boolean) d 0 0 [vR G.1 l0] (m_X10_compare l0) := by
  refine hMet.of (lv := [(0, vR G.1 l0)]) (by decide +kernel) (by simp [lg_sl, vR_cat, vI_cat, vL_cat, vS_cat2, vT_cat2]) (by simp [lv_args, vR_cat, vI_cat, vL_cat, vS_cat2, vT_cat2]) (fun C K X => ?_)
  obtain ⟨rfl, rfl, K⟩ := K
  exact z_X10_compare d hd ⟨rfl, rfl, K⟩ X l0
def m_X10_fact_L72 (k2 : Nat → Int → hM) (l0 : Nat) (l1 : Int) : hM :=
  k2 l0 l1
def m_X10_fact_L2 : Nat → Nat → Int → hM
  | 0, _, _ => hfail
  | n + 1, l0, l1 =>
    hif (l1 = 0) (
hcallV 10 l0 (m_X10_compare l0) fun v1 =>
  hretZ v1) (
hlet (0 : Int) fun (w2 : Int) =>
  hcallV 10 l0 (m_X10_see l0) fun v3 =>
  hlet v3 fun (w4 : Int) =>
  hcallV 10 l0 (m_X10_isWord l0 7237492) fun v5 =>
  hif (v5 = 0) (
hif (w4 ≠ 91) (
m_X10_fact_L72 (m_X10_fact_L2 n) l0 w2) (
hcallV 10 l0 (m_X10_opens l0 91) fun v6 =>
  hif (v6 ≠ 0) (
hgI 10 l0 8 fun v7 =>
  hpI 10 l0 8 ((w32 (v7 + 1))) <|
  hlet (1 : Int) fun (w8 : Int) =>
  m_X10_fact_L72 (m_X10_fact_L2 n) l0 w8) (
hretZ 0))) (
hcallV 10 l0 (m_X10_opens l0 11) fun v9 =>
  hif (v9 ≠ 0) (
hcallV 10 l0 (m_X10_passWord l0) fun _ =>
  hlet (1 : Int) fun (w10 : Int) =>
  m_X10_fact_L72 (m_X10_fact_L2 n) l0 w10) (
hretZ 0)))
def m_X10_fact (l0 : Nat) : hM :=
  hlet (1 : Int) fun (w1 : Int) =>
  m_X10_fact_L2 1000000000 l0 w1
set_option maxRecDepth 4000 in
theorem z_X10_fact_L72 (d : Nat) (hd : 8 ≤ d) {C : hCx} (K : hCtx C.1 C.2.2.1 d 0 0 "fact" C) (X : hOK C cX10_fact RX10 3 (some .boolean)) (k2 : Nat → Int → hM) (hk2 : ∀ (l0 : Nat) (l1 : Int), inI l1 → hSim C (some .boolean) 0 0 3 2 [(0, vR C.1.1 l0), (1, vI l1)] [] 0 0 (k2 l0 l1)) (l0 : Nat) (l1 : Int) (h1 : inI l1) : hSim C (some .boolean) 0 0 3 72 [(0, vR C.1.1 l0), (1, vI l1)] [] 0 0 (m_X10_fact_L72 k2 l0 l1) := by
  obtain ⟨⟨hf, hlo⟩, ⟨hc1, hc2⟩, hf1, hl1⟩ := K_room K (by omega)
  have hcs : 0 ≤ C.2.2.2.2.1.cells ∧ 0 ≤ C.2.2.2.2.1.slots := ⟨Nat.zero_le _, Nat.zero_le _⟩
  unfold m_X10_fact_L72
  refine s_goto (pc2 := 2) X dX10_fact_72 (by decide) ?_
  exact hk2 l0 l1 h1
set_option maxRecDepth 4000 in
theorem z_X10_fact_L2 (d : Nat) (hd : 8 ≤ d) {C : hCx} (K : hCtx C.1 C.2.2.1 d 0 0 "fact" C) (X : hOK C cX10_fact RX10 3 (some .boolean)) : ∀ (n : Nat) (l0 : Nat) (l1 : Int) (h1 : inI l1), hSim C (some .boolean) 0 0 3 2 [(0, vR C.1.1 l0), (1, vI l1)] [] 0 0 (m_X10_fact_L2 n l0 l1) := by
  obtain ⟨⟨hf, hlo⟩, ⟨hc1, hc2⟩, hf1, hl1⟩ := K_room K (by omega)
  have hcs : 0 ≤ C.2.2.2.2.1.cells ∧ 0 ≤ C.2.2.2.2.1.slots := ⟨Nat.zero_le _, Nat.zero_le _⟩
  intro n
  induction n with
  | zero => intros; exact s_none (fun _ => rfl)
  | succ n ih =>
    intro l0 l1 h1
    unfold m_X10_fact_L2
    refine s_iload_n (j := 1) (pc2 := 3) X dX10_fact_2 rfl rfl ?_
    refine s_ifeq (tgt := 75) X dX10_fact_3 (by decide) rfl h1 ?_ ?_
    · refine s_aload_n (j := 0) (pc2 := 76) X dX10_fact_75 rfl rfl ?_
      refine s_callVZ (d2 := d - 1) (As := []) (st := []) (pc2 := 79) X dX10_fact_76 rfl ml_RX10_191 im_X10_compare se_X10_compare kX10 rfl (c_X10_compare (d - 1) (by omega) C.1 C.2.2.1 l0) hy_X10_compare rfl rfl hf hlo (st_room (Nat.le_of_ble_eq_true rfl)) hcs (fun v1 hv1 => ?_)
      exact s_zret X dX10_fact_79
    · refine s_iconst (n := 0) (pc2 := 7) X dX10_fact_6 rfl ?_
      refine s_istore_n (pc2 := 8) X dX10_fact_7 rfl (by decide) rfl rfl cat1_R (inI_c 0 rfl) (fun w2 hw2 => ?_)
      refine s_aload_n (j := 1) (pc2 := 9) X dX10_fact_8 rfl rfl ?_
      refine s_callVI (d2 := d - 1) (As := []) (st := []) (pc2 := 12) X dX10_fact_9 rfl ml_RX10_93 im_X10_see se_X10_see kX10 rfl (c_X10_see (d - 1) (by omega) C.1 C.2.2.1 l0) hy_X10_see rfl rfl hf hlo (st_room (Nat.le_of_ble_eq_true rfl)) hcs (fun v3 hv3 => ?_)
      refine s_istore_n (pc2 := 13) X dX10_fact_12 rfl (by decide) rfl rfl cat1_I hv3 (fun w4 hw4 => ?_)
      refine s_aload_n (j := 2) (pc2 := 14) X dX10_fact_13 rfl rfl ?_
      refine s_ldc2 (z := 7237492) (pc2 := 17) X dX10_fact_14 rfl kc_RX10_186 ?_
      refine s_callVZ (d2 := d - 1) (As := [vL 7237492]) (st := []) (pc2 := 20) X dX10_fact_17 rfl ml_RX10_101 im_X10_isWord se_X10_isWord kX10 rfl (c_X10_isWord (d - 1) (by omega) C.1 C.2.2.1 l0 7237492 (inL_c 7237492 rfl)) hy_X10_isWord rfl rfl hf hlo (st_room (Nat.le_of_ble_eq_true rfl)) hcs (fun v5 hv5 => ?_)
      refine s_ifeq (tgt := 43) X dX10_fact_20 (by decide) rfl hv5 ?_ ?_
      · refine s_iload_n (j := 0) (pc2 := 44) X dX10_fact_43 rfl rfl ?_
        refine s_bipush (n := 91) (pc2 := 46) X dX10_fact_44 rfl rfl ?_
        refine s_icne (tgt := 72) X dX10_fact_46 (by decide) rfl hw4 (inI_c 91 rfl) ?_ ?_
        · refine s_sub (lv2 := [(0, vR C.1.1 l0), (1, vI w2)]) [2, 1] rfl ?_
          exact z_X10_fact_L72 d hd K X (m_X10_fact_L2 n) ih l0 w2 hw2
        · refine s_aload_n (j := 2) (pc2 := 50) X dX10_fact_49 rfl rfl ?_
          refine s_bipush (n := 91) (pc2 := 52) X dX10_fact_50 rfl rfl ?_
          refine s_callVZ (d2 := d - 1) (As := [vI 91]) (st := []) (pc2 := 55) X dX10_fact_52 rfl ml_RX10_188 im_X10_opens se_X10_opens kX10 rfl (c_X10_opens (d - 1) (by omega) C.1 C.2.2.1 l0 91 (inI_c 91 rfl)) hy_X10_opens rfl rfl hf hlo (st_room (Nat.le_of_ble_eq_true rfl)) hcs (fun v6 hv6 => ?_)
          refine s_ifne (tgt := 60) X dX10_fact_55 (by decide) rfl hv6 ?_ ?_
          · refine s_aload_n (j := 2) (pc2 := 61) X dX10_fact_60 rfl rfl ?_
            refine s_dup (pc2 := 62) X dX10_fact_61 rfl (vR_cat _ _) ?_
            refine s_getI (pc2 := 65) X dX10_fact_62 rfl fl_RX10_90 rfl (fun v7 hv7 => ?_)
            refine s_iconst (n := 1) (pc2 := 66) X dX10_fact_65 rfl ?_
            refine s_iadd (pc2 := 67) X dX10_fact_66 rfl ?_
            refine s_putI (pc2 := 70) X dX10_fact_67 rfl fl_RX10_90 (Or.inl rfl) rfl (w32_in _) ?_
            refine s_iconst (n := 1) (pc2 := 71) X dX10_fact_70 rfl ?_
            refine s_istore_n (pc2 := 72) X dX10_fact_71 rfl (by decide) rfl rfl cat1_R (inI_c 1 rfl) (fun w8 hw8 => ?_)
            refine s_sub (lv2 := [(0, vR C.1.1 l0), (1, vI w8)]) [2, 0] rfl ?_
            exact z_X10_fact_L72 d hd K X (m_X10_fact_L2 n) ih l0 w8 hw8
          · refine s_iconst (n := 0) (pc2 := 59) X dX10_fact_58 rfl ?_
            exact s_zret X dX10_fact_59
      · refine s_aload_n (j := 2) (pc2 := 24) X dX10_fact_23 rfl rfl ?_
        refine s_bipush (n := 11) (pc2 := 26) X dX10_fact_24 rfl rfl ?_
        refine s_callVZ (d2 := d - 1) (As := [vI 11]) (st := []) (pc2 := 29) X dX10_fact_26 rfl ml_RX10_188 im_X10_opens se_X10_opens kX10 rfl (c_X10_opens (d - 1) (by omega) C.1 C.2.2.1 l0 11 (inI_c 11 rfl)) hy_X10_opens rfl rfl hf hlo (st_room (Nat.le_of_ble_eq_true rfl)) hcs (fun v9 hv9 => ?_)
        refine s_ifne (tgt := 34) X dX10_fact_29 (by decide) rfl hv9 ?_ ?_
        · refine s_aload_n (j := 2) (pc2 := 35) X dX10_fact_34 rfl rfl ?_
          refine s_callVV (d2 := d - 1) (As := []) (st := []) (pc2 := 38) X dX10_fact_35 rfl ml_RX10_105 im_X10_passWord se_X10_passWord kX10 rfl (c_X10_passWord (d - 1) (by omega) C.1 C.2.2.1 l0) hy_X10_passWord rfl rfl hf hlo (st_room (Nat.le_of_ble_eq_true rfl)) hcs (fun _ => ?_)
          refine s_iconst (n := 1) (pc2 := 39) X dX10_fact_38 rfl ?_
          refine s_istore_n (pc2 := 40) X dX10_fact_39 rfl (by decide) rfl rfl cat1_R (inI_c 1 rfl) (fun w10 hw10 => ?_)
          refine s_goto (pc2 := 72) X dX10_fact_40 (by decide) ?_
          refine s_sub (lv2 := [(0, vR C.1.1 l0), (1, vI w10)]) [2, 0] rfl ?_
          exact z_X10_fact_L72 d hd K X (m_X10_fact_L2 n) ih l0 w10 hw10
        · refine s_iconst (n := 0) (pc2 := 33) X dX10_fact_32 rfl ?_
          exact s_zret X dX10_fact_33
set_option maxRecDepth 4000 in
set_option maxHeartbeats 20000000 in
theorem z_X10_fact (d : Nat) (hd : 8 ≤ d) {C : hCx} (K : hCtx C.1 C.2.2.1 d 0 0 "fact" C) (X : hOK C cX10_fact RX10 3 (some .boolean)) (l0 : Nat) : hSim C (some .boolean) 0 0 3 0 [(0, vR C.1.1 l0)] [] 0 0 (m_X10_fact l0) := by
  obtain ⟨⟨hf, hlo⟩, ⟨hc1, hc2⟩, hf1, hl1⟩ := K_room K (by omega)
  have hcs : 0 ≤ C.2.2.2.2.1.cells ∧ 0 ≤ C.2.2.2.2.1.slots := ⟨Nat.zero_le _, Nat.zero_le _⟩
  unfold m_X10_fact
  refine s_iconst (n := 1) (pc2 := 1) X dX10_fact_0 rfl ?_
  refine s_istore_n (pc2 := 2) X dX10_fact_1 rfl (by decide) rfl rfl cat1_R (inI_c 1 rfl) (fun w1 hw1 => ?_)
  refine s_sub (lv2 := [(0, vR C.1.1 l0), (1, vI w1)]) [1, 0] rfl ?_
  exact z_X10_fact_L2 d hd K X 1000000000 l0 w1 hw1
theorem c_X10_fact (d : Nat) (hd : 8 ≤ d) (G : hG) (l : Launch) (l0 : Nat) : hMet G l yX10_fact cX10_fact 3 (some .boolean) d 0 0 [vR G.1 l0] (m_X10_fact l0) := by
  refine hMet.of (lv := [(0, vR G.1 l0)]) (by decide +kernel) (by simp [lg_sl, vR_cat, vI_cat, vL_cat, vS_cat2, vT_cat2]) (by simp [lv_args, vR_cat, vI_cat, vL_cat, vS_cat2, vT_cat2]) (fun C K X => ?_)
  obtain ⟨rfl, rfl, K⟩ := K
  exact z_X10_fact d hd ⟨rfl, rfl, K⟩ X l0
def m_X10_isInside_L2 : Nat → Nat → Int → hM
  | 0, _, _ => hfail
  | n + 1, l0, l1 =>
    hgI 10 l0 16 fun v1 =>
  hif (l1 ≥ v1) (
hretZ 0) (
hgR 10 l0 15 fun v2 =>
  haI 20 v2 l1 fun v3 =>
  hif (v3 ≠ 91) (
hlet (w32 (l1 + 1)) fun (w4 : Int) =>
  m_X10_isInside_L2 n l0 w4) (
hretZ 1))
def m_X10_isInside (l0 : Nat) : hM :=
  hlet (0 : Int) fun (w1 : Int) =>
  m_X10_isInside_L2 1000000000 l0 w1
set_option maxRecDepth 4000 in
theorem z_X10_isInside_L2 (d : Nat) (hd : 1 ≤ d) {C : hCx} (K : hCtx C.1 C.2.2.1 d 0 0 "isInside" C) (X : hOK C cX10_isInside RX10 2 (some .boolean)) : ∀ (n : Nat) (l0 : Nat) (l1 : Int) (h1 : inI l1), hSim C (some .boolean) 0 0 2 2 [(0, vR C.1.1 l0), (1, vI l1)] [] 0 0 (m_X10_isInside_L2 n l0 l1) := by
  obtain ⟨⟨hf, hlo⟩, ⟨hc1, hc2⟩, hf1, hl1⟩ := K_room K (by omega)
  have hcs : 0 ≤ C.2.2.2.2.1.cells ∧ 0 ≤ C.2.2.2.2.1.slots := ⟨Nat.zero_le _, Nat.zero_le _⟩
  intro n
  induction n with
  | zero => intros; exact s_none (fun _ => rfl)
  | succ n ih =>
    intro l0 l1 h1
    unfold m_X10_isInside_L2
    refine s_iload_n (j := 1) (pc2 := 3) X dX10_isInside_2 rfl rfl ?_
    refine s_aload_n (j := 0) (pc2 := 4) X dX10_isInside_3 rfl rfl ?_
    refine s_getI (pc2 := 7) X dX10_isInside_4 rfl fl_RX10_155 rfl (fun v1 hv1 => ?_)
    refine s_icge (tgt := 29) X dX10_isInside_7 (by decide) rfl h1 hv1 ?_ ?_
    · refine s_iconst (n := 0) (pc2 := 30) X dX10_isInside_29 rfl ?_
      exact s_zret X dX10_isInside_30
    · refine s_aload_n (j := 0) (pc2 := 11) X dX10_isInside_10 rfl rfl ?_
      refine s_getR (pc2 := 14) X dX10_isInside_11 rfl fl_RX10_29 rfl (fun v2 => ?_)
      refine s_iload_n (j := 1) (pc2 := 15) X dX10_isInside_14 rfl rfl ?_
      refine s_iald (pc2 := 16) X dX10_isInside_15 rfl (fun v3 hv3 => ?_)
      refine s_bipush (n := 91) (pc2 := 18) X dX10_isInside_16 rfl rfl ?_
      refine s_icne (tgt := 23) X dX10_isInside_18 (by decide) rfl hv3 (inI_c 91 rfl) ?_ ?_
      · refine s_iinc (j := 1) (pc2 := 26) X dX10_isInside_23 rfl (by decide) rfl rfl rfl cat1_R (fun w4 hw4 => ?_)
        refine s_goto (pc2 := 2) X dX10_isInside_26 (by decide) ?_
        refine s_sub (lv2 := [(0, vR C.1.1 l0), (1, vI w4)]) [1, 0] rfl ?_
        exact ih l0 w4 hw4
      · refine s_iconst (n := 1) (pc2 := 22) X dX10_isInside_21 rfl ?_
        exact s_zret X dX10_isInside_22
set_option maxRecDepth 4000 in
set_option maxHeartbeats 20000000 in
theorem z_X10_isInside (d : Nat) (hd : 1 ≤ d) {C : hCx} (K : hCtx C.1 C.2.2.1 d 0 0 "isInside" C) (X : hOK C cX10_isInside RX10 2 (some .boolean)) (l0 : Nat) : hSim C (some .boolean) 0 0 2 0 [(0, vR C.1.1 l0)] [] 0 0 (m_X10_isInside l0) := by
  obtain ⟨⟨hf, hlo⟩, ⟨hc1, hc2⟩, hf1, hl1⟩ := K_room K (by omega)
  have hcs : 0 ≤ C.2.2.2.2.1.cells ∧ 0 ≤ C.2.2.2.2.1.slots := ⟨Nat.zero_le _, Nat.zero_le _⟩
  unfold m_X10_isInside
  refine s_iconst (n := 0) (pc2 := 1) X dX10_isInside_0 rfl ?_
  refine s_istore_n (pc2 := 2) X dX10_isInside_1 rfl (by decide) rfl rfl cat1_R (inI_c 0 rfl) (fun w1 hw1 => ?_)
  refine s_sub (lv2 := [(0, vR C.1.1 l0), (1, vI w1)]) [1, 0] rfl ?_
  exact z_X10_isInside_L2 d hd K X 1000000000 l0 w1 hw1
theorem c_X10_isInside (d : Nat) (hd : 1 ≤ d) (G : hG) (l : Launch) (l0 : Nat) : hMet G l yX10_isInside cX10_isInside 2 (some .boolean) d 0 0 [vR G.1 l0] (m_X10_isInside l0) := by
  refine hMet.of (lv := [(0, vR G.1 l0)]) (by decide +kernel) (by simp [lg_sl, vR_cat, vI_cat, vL_cat, vS_cat2, vT_cat2]) (by simp [lv_args, vR_cat, vI_cat, vL_cat, vS_cat2, vT_cat2]) (fun C K X => ?_)
  obtain ⟨rfl, rfl, K⟩ := K
  exact z_X10_isInside d hd ⟨rfl, rfl, K⟩ X l0
def m_X10_closes_L64 : hM :=
  hret 0
def m_X10_closes_L5 : Nat → Nat → hM
  | 0, _ => hfail
  | n + 1, l0 =>
    hcallV 10 l0 (m_X10_see l0) fun v1 =>
  hif (v1 ≠ 93) (
m_X10_closes_L64) (
hcallV 10 l0 (m_X10_isInside l0) fun v2 =>
  hif (v2 = 0) (
m_X10_closes_L64) (
hcallV 10 l0 (m_X10_settles l0 1) fun _ =>
  hgI 10 l0 16 fun v3 =>
  hpI 10 l0 16 ((w32 (v3 - 1))) <|
  hgI 10 l0 13 fun v4 =>
  hpI 10 l0 13 ((w32 (v4 - 1))) <|
  hgI 10 l0 8 fun v5 =>
  hpI 10 l0 8 ((w32 (v5 + 1))) <|
  hcallV 10 l0 (m_X10_settles l0 3) fun _ =>
  m_X10_closes_L5 n l0))
def m_X10_closes (l0 : Nat) : hM :=
  hcallV 10 l0 (m_X10_settles l0 3) fun _ =>
  m_X10_closes_L5 1000000000 l0
set_option maxRecDepth 4000 in
theorem z_X10_closes_L64 (d : Nat) (hd : 3 ≤ d) {C : hCx} (K : hCtx C.1 C.2.2.1 d 0 0 "closes" C) (X : hOK C cX10_closes RX10 1 none) : hSim C none 0 0 1 64 [] [] 0 0 (m_X10_closes_L64) := by
  obtain ⟨⟨hf, hlo⟩, ⟨hc1, hc2⟩, hf1, hl1⟩ := K_room K (by omega)
  have hcs : 0 ≤ C.2.2.2.2.1.cells ∧ 0 ≤ C.2.2.2.2.1.slots := ⟨Nat.zero_le _, Nat.zero_le _⟩
  unfold m_X10_closes_L64
  exact s_ret X dX10_closes_64
set_option maxRecDepth 4000 in
theorem z_X10_closes_L5 (d : Nat) (hd : 3 ≤ d) {C : hCx} (K : hCtx C.1 C.2.2.1 d 0 0 "closes" C) (X : hOK C cX10_closes RX10 1 none) : ∀ (n : Nat) (l0 : Nat), hSim C none 0 0 1 5 [(0, vR C.1.1 l0)] [] 0 0 (m_X10_closes_L5 n l0) := by
  obtain ⟨⟨hf, hlo⟩, ⟨hc1, hc2⟩, hf1, hl1⟩ := K_room K (by omega)
  have hcs : 0 ≤ C.2.2.2.2.1.cells ∧ 0 ≤ C.2.2.2.2.1.slots := ⟨Nat.zero_le _, Nat.zero_le _⟩
  intro n
  induction n with
  | zero => intros; exact s_none (fun _ => rfl)
  | succ n ih =>
    intro l0
    unfold m_X10_closes_L5
    refine s_aload_n (j := 0) (pc2 := 6) X dX10_closes_5 rfl rfl ?_
    refine s_callVI (d2 := d - 1) (As := []) (st := []) (pc2 := 9) X dX10_closes_6 rfl ml_RX10_93 im_X10_see se_X10_see kX10 rfl (c_X10_see (d - 1) (by omega) C.1 C.2.2.1 l0) hy_X10_see rfl rfl hf hlo (st_room (Nat.le_of_ble_eq_true rfl)) hcs (fun v1 hv1 => ?_)
    refine s_bipush (n := 93) (pc2 := 11) X dX10_closes_9 rfl rfl ?_
    refine s_icne (tgt := 64) X dX10_closes_11 (by decide) rfl hv1 (inI_c 93 rfl) ?_ ?_
    · refine s_sub (lv2 := []) [] rfl ?_
      exact z_X10_closes_L64 d hd K X
    · refine s_aload_n (j := 0) (pc2 := 15) X dX10_closes_14 rfl rfl ?_
      refine s_callVZ (d2 := d - 1) (As := []) (st := []) (pc2 := 18) X dX10_closes_15 rfl ml_RX10_197 im_X10_isInside se_X10_isInside kX10 rfl (c_X10_isInside (d - 1) (by omega) C.1 C.2.2.1 l0) hy_X10_isInside rfl rfl hf hlo (st_room (Nat.le_of_ble_eq_true rfl)) hcs (fun v2 hv2 => ?_)
      refine s_ifeq (tgt := 64) X dX10_closes_18 (by decide) rfl hv2 ?_ ?_
      · refine s_sub (lv2 := []) [] rfl ?_
        exact z_X10_closes_L64 d hd K X
      · refine s_aload_n (j := 0) (pc2 := 22) X dX10_closes_21 rfl rfl ?_
        refine s_iconst (n := 1) (pc2 := 23) X dX10_closes_22 rfl ?_
        refine s_callVV (d2 := d - 1) (As := [vI 1]) (st := []) (pc2 := 26) X dX10_closes_23 rfl ml_RX10_194 im_X10_settles se_X10_settles kX10 rfl (c_X10_settles (d - 1) (by omega) C.1 C.2.2.1 l0 1 (inI_c 1 rfl)) hy_X10_settles rfl rfl hf hlo (st_room (Nat.le_of_ble_eq_true rfl)) hcs (fun _ => ?_)
        refine s_aload_n (j := 0) (pc2 := 27) X dX10_closes_26 rfl rfl ?_
        refine s_dup (pc2 := 28) X dX10_closes_27 rfl (vR_cat _ _) ?_
        refine s_getI (pc2 := 31) X dX10_closes_28 rfl fl_RX10_155 rfl (fun v3 hv3 => ?_)
        refine s_iconst (n := 1) (pc2 := 32) X dX10_closes_31 rfl ?_
        refine s_isub (pc2 := 33) X dX10_closes_32 rfl ?_
        refine s_putI (pc2 := 36) X dX10_closes_33 rfl fl_RX10_155 (Or.inl rfl) rfl (w32_in _) ?_
        refine s_aload_n (j := 0) (pc2 := 37) X dX10_closes_36 rfl rfl ?_
        refine s_dup (pc2 := 38) X dX10_closes_37 rfl (vR_cat _ _) ?_
        refine s_getI (pc2 := 41) X dX10_closes_38 rfl fl_RX10_152 rfl (fun v4 hv4 => ?_)
        refine s_iconst (n := 1) (pc2 := 42) X dX10_closes_41 rfl ?_
        refine s_isub (pc2 := 43) X dX10_closes_42 rfl ?_
        refine s_putI (pc2 := 46) X dX10_closes_43 rfl fl_RX10_152 (Or.inl rfl) rfl (w32_in _) ?_
        refine s_aload_n (j := 0) (pc2 := 47) X dX10_closes_46 rfl rfl ?_
        refine s_dup (pc2 := 48) X dX10_closes_47 rfl (vR_cat _ _) ?_
        refine s_getI (pc2 := 51) X dX10_closes_48 rfl fl_RX10_90 rfl (fun v5 hv5 => ?_)
        refine s_iconst (n := 1) (pc2 := 52) X dX10_closes_51 rfl ?_
        refine s_iadd (pc2 := 53) X dX10_closes_52 rfl ?_
        refine s_putI (pc2 := 56) X dX10_closes_53 rfl fl_RX10_90 (Or.inl rfl) rfl (w32_in _) ?_
        refine s_aload_n (j := 0) (pc2 := 57) X dX10_closes_56 rfl rfl ?_
        refine s_iconst (n := 3) (pc2 := 58) X dX10_closes_57 rfl ?_
        refine s_callVV (d2 := d - 1) (As := [vI 3]) (st := []) (pc2 := 61) X dX10_closes_58 rfl ml_RX10_194 im_X10_settles se_X10_settles kX10 rfl (c_X10_settles (d - 1) (by omega) C.1 C.2.2.1 l0 3 (inI_c 3 rfl)) hy_X10_settles rfl rfl hf hlo (st_room (Nat.le_of_ble_eq_true rfl)) hcs (fun _ => ?_)
        refine s_goto (pc2 := 5) X dX10_closes_61 (by decide) ?_
        exact ih l0
set_option maxRecDepth 4000 in
set_option maxHeartbeats 20000000 in
theorem z_X10_closes (d : Nat) (hd : 3 ≤ d) {C : hCx} (K : hCtx C.1 C.2.2.1 d 0 0 "closes" C) (X : hOK C cX10_closes RX10 1 none) (l0 : Nat) : hSim C none 0 0 1 0 [(0, vR C.1.1 l0)] [] 0 0 (m_X10_closes l0) := by
  obtain ⟨⟨hf, hlo⟩, ⟨hc1, hc2⟩, hf1, hl1⟩ := K_room K (by omega)
  have hcs : 0 ≤ C.2.2.2.2.1.cells ∧ 0 ≤ C.2.2.2.2.1.slots := ⟨Nat.zero_le _, Nat.zero_le _⟩
  unfold m_X10_closes
  refine s_aload_n (j := 0) (pc2 := 1) X dX10_closes_0 rfl rfl ?_
  refine s_iconst (n := 3) (pc2 := 2) X dX10_closes_1 rfl ?_
  refine s_callVV (d2 := d - 1) (As := [vI 3]) (st := []) (pc2 := 5) X dX10_closes_2 rfl ml_RX10_194 im_X10_settles se_X10_settles kX10 rfl (c_X10_settles (d - 1) (by omega) C.1 C.2.2.1 l0 3 (inI_c 3 rfl)) hy_X10_settles rfl rfl hf hlo (st_room (Nat.le_of_ble_eq_true rfl)) hcs (fun _ => ?_)
  exact z_X10_closes_L5 d hd K X 1000000000 l0
theorem c_X10_closes (d : Nat) (hd : 3 ≤ d) (G : hG) (l : Launch) (l0 : Nat) : hMet G l yX10_closes cX10_closes 1 none d 0 0 [vR G.1 l0] (m_X10_closes l0) := by
  refine hMet.of (lv := [(0, vR G.1 l0)]) (by decide +kernel) (by simp [lg_sl, vR_cat, vI_cat, vL_cat, vS_cat2, vT_cat2]) (by simp [lv_args, vR_cat, vI_cat, vL_cat, vS_cat2, vT_cat2]) (fun C K X => ?_)
  obtain ⟨rfl, rfl, K⟩ := K
  exact z_X10_closes d hd ⟨rfl, rfl, K⟩ X l0
def m_X10_tested_L76 (k12 : Nat → Int → hM) (l0 : Nat) (l1 : Int) (s0 : Int) : hM :=
  hlet s0 fun (w1 : Int) =>
  hcallV 10 l0 (m_X10_passWord l0) fun _ =>
  hcall (m_X10_strength w1) fun v2 =>
  hcallV 10 l0 (m_X10_settles l0 v2) fun _ =>
  hgR 10 l0 15 fun v3 =>
  hgI 10 l0 16 fun v4 =>
  hsI 20 v3 v4 w1 <|
  hgI 10 l0 16 fun v5 =>
  hpI 10 l0 16 ((w32 (v5 + 1))) <|
  k12 l0 l1
def m_X10_tested_L54 (k12 : Nat → Int → hM) (l0 : Nat) (s0 : Int) : hM :=
  hlet s0 fun (w1 : Int) =>
  hif (w1 = 0) (
k12 l0 w1) (
hcallV 10 l0 (m_X10_isWord l0 6385252) fun v2 =>
  hif (v2 = 0) (
m_X10_tested_L76 k12 l0 w1 13) (
m_X10_tested_L76 k12 l0 w1 12))
def m_X10_tested_L49 (k12 : Nat → Int → hM) (l0 : Nat) : hM :=
  m_X10_tested_L54 k12 l0 1
def m_X10_tested_L12 : Nat → Nat → Int → hM
  | 0, _, _ => hfail
  | n + 1, l0, l1 =>
    hif (l1 = 0) (
hcallV 10 l0 (m_X10_isInside l0) fun v1 =>
  hif (v1 = 0) (
hcallV 10 l0 (m_X10_settles l0 1) fun _ =>
  hretZ 1) (
hcallV 10 l0 (m_X10_see l0) fun v2 =>
  hgI 10 l0 8 fun v3 =>
  hcallV 10 l0 (m_X10_fails l0 0 v3) fun v4 =>
  hretZ v4)) (
hcallV 10 l0 (m_X10_fact l0) fun v5 =>
  hif (v5 ≠ 0) (
hcallV 10 l0 (m_X10_closes l0) fun _ =>
  hcallV 10 l0 (m_X10_isWord l0 6385252) fun v6 =>
  hif (v6 ≠ 0) (
m_X10_tested_L49 (m_X10_tested_L12 n) l0) (
hcallV 10 l0 (m_X10_isWord l0 28530) fun v7 =>
  hif (v7 = 0) (
m_X10_tested_L54 (m_X10_tested_L12 n) l0 0) (
m_X10_tested_L49 (m_X10_tested_L12 n) l0))) (
hretZ 0))
def m_X10_tested (l0 : Nat) : hM :=
  hpI 10 l0 16 0 <|
  hpI 10 l0 13 0 <|
  hlet (1 : Int) fun (w1 : Int) =>
  m_X10_tested_L12 1000000000 l0 w1
set_option maxRecDepth 4000 in
theorem z_X10_tested_L76 (d : Nat) (hd : 9 ≤ d) {C : hCx} (K : hCtx C.1 C.2.2.1 d 0 0 "tested" C) (X : hOK C cX10_tested RX10 3 (some .boolean)) (k12 : Nat → Int → hM) (hk12 : ∀ (l0 : Nat) (l1 : Int), inI l1 → hSim C (some .boolean) 0 0 3 12 [(0, vR C.1.1 l0), (1, vI l1)] [] 0 0 (k12 l0 l1)) (l0 : Nat) (l1 : Int) (s0 : Int) (h1 : inI l1) (g0 : inI s0) : hSim C (some .boolean) 0 0 3 76 [(0, vR C.1.1 l0), (1, vI l1)] [vI s0] 0 0 (m_X10_tested_L76 k12 l0 l1 s0) := by
  obtain ⟨⟨hf, hlo⟩, ⟨hc1, hc2⟩, hf1, hl1⟩ := K_room K (by omega)
  have hcs : 0 ≤ C.2.2.2.2.1.cells ∧ 0 ≤ C.2.2.2.2.1.slots := ⟨Nat.zero_le _, Nat.zero_le _⟩
  unfold m_X10_tested_L76
  refine s_istore_n (pc2 := 77) X dX10_tested_76 rfl (by decide) rfl rfl cat1_I g0 (fun w1 hw1 => ?_)
  refine s_aload_n (j := 1) (pc2 := 78) X dX10_tested_77 rfl rfl ?_
  refine s_callVV (d2 := d - 1) (As := []) (st := []) (pc2 := 81) X dX10_tested_78 rfl ml_RX10_105 im_X10_passWord se_X10_passWord kX10 rfl (c_X10_passWord (d - 1) (by omega) C.1 C.2.2.1 l0) hy_X10_passWord rfl rfl hf hlo (st_room (Nat.le_of_ble_eq_true rfl)) hcs (fun _ => ?_)
  refine s_aload_n (j := 1) (pc2 := 82) X dX10_tested_81 rfl rfl ?_
  refine s_iload_n (j := 0) (pc2 := 83) X dX10_tested_82 rfl rfl ?_
  refine s_callSI (d2 := d - 1) (As := [vI w1]) (st := [vR C.1.1 l0]) (pc2 := 86) X dX10_tested_83 rfl ml_RX10_158 sm_X10_strength (c_X10_strength (d - 1) (by omega) C.1 C.2.2.1 w1 hw1) hy_X10_strength rfl rfl hf hlo (st_room (Nat.le_of_ble_eq_true rfl)) hcs (fun v2 hv2 => ?_)
  refine s_callVV (d2 := d - 1) (As := [vI v2]) (st := []) (pc2 := 89) X dX10_tested_86 rfl ml_RX10_194 im_X10_settles se_X10_settles kX10 rfl (c_X10_settles (d - 1) (by omega) C.1 C.2.2.1 l0 v2 hv2) hy_X10_settles rfl rfl hf hlo (st_room (Nat.le_of_ble_eq_true rfl)) hcs (fun _ => ?_)
  refine s_aload_n (j := 1) (pc2 := 90) X dX10_tested_89 rfl rfl ?_
  refine s_getR (pc2 := 93) X dX10_tested_90 rfl fl_RX10_29 rfl (fun v3 => ?_)
  refine s_aload_n (j := 1) (pc2 := 94) X dX10_tested_93 rfl rfl ?_
  refine s_getI (pc2 := 97) X dX10_tested_94 rfl fl_RX10_155 rfl (fun v4 hv4 => ?_)
  refine s_iload_n (j := 0) (pc2 := 98) X dX10_tested_97 rfl rfl ?_
  refine s_iast (pc2 := 99) X dX10_tested_98 rfl hw1 ?_
  refine s_aload_n (j := 1) (pc2 := 100) X dX10_tested_99 rfl rfl ?_
  refine s_dup (pc2 := 101) X dX10_tested_100 rfl (vR_cat _ _) ?_
  refine s_getI (pc2 := 104) X dX10_tested_101 rfl fl_RX10_155 rfl (fun v5 hv5 => ?_)
  refine s_iconst (n := 1) (pc2 := 105) X dX10_tested_104 rfl ?_
  refine s_iadd (pc2 := 106) X dX10_tested_105 rfl ?_
  refine s_putI (pc2 := 109) X dX10_tested_106 rfl fl_RX10_155 (Or.inl rfl) rfl (w32_in _) ?_
  refine s_goto (pc2 := 12) X dX10_tested_109 (by decide) ?_
  refine s_sub (lv2 := [(0, vR C.1.1 l0), (1, vI l1)]) [1, 2] rfl ?_
  exact hk12 l0 l1 h1
set_option maxRecDepth 4000 in
theorem z_X10_tested_L54 (d : Nat) (hd : 9 ≤ d) {C : hCx} (K : hCtx C.1 C.2.2.1 d 0 0 "tested" C) (X : hOK C cX10_tested RX10 3 (some .boolean)) (k12 : Nat → Int → hM) (hk12 : ∀ (l0 : Nat) (l1 : Int), inI l1 → hSim C (some .boolean) 0 0 3 12 [(0, vR C.1.1 l0), (1, vI l1)] [] 0 0 (k12 l0 l1)) (l0 : Nat) (s0 : Int) (g0 : inI s0) : hSim C (some .boolean) 0 0 3 54 [(0, vR C.1.1 l0)] [vI s0] 0 0 (m_X10_tested_L54 k12 l0 s0) := by
  obtain ⟨⟨hf, hlo⟩, ⟨hc1, hc2⟩, hf1, hl1⟩ := K_room K (by omega)
  have hcs : 0 ≤ C.2.2.2.2.1.cells ∧ 0 ≤ C.2.2.2.2.1.slots := ⟨Nat.zero_le _, Nat.zero_le _⟩
  unfold m_X10_tested_L54
  refine s_istore_n (pc2 := 55) X dX10_tested_54 rfl (by decide) rfl rfl cat1_R g0 (fun w1 hw1 => ?_)
  refine s_iload_n (j := 0) (pc2 := 56) X dX10_tested_55 rfl rfl ?_
  refine s_ifeq (tgt := 12) X dX10_tested_56 (by decide) rfl hw1 ?_ ?_
  · refine s_sub (lv2 := [(0, vR C.1.1 l0), (1, vI w1)]) [1, 0] rfl ?_
    exact hk12 l0 w1 hw1
  · refine s_aload_n (j := 1) (pc2 := 60) X dX10_tested_59 rfl rfl ?_
    refine s_ldc2 (z := 6385252) (pc2 := 63) X dX10_tested_60 rfl kc_RX10_206 ?_
    refine s_callVZ (d2 := d - 1) (As := [vL 6385252]) (st := []) (pc2 := 66) X dX10_tested_63 rfl ml_RX10_101 im_X10_isWord se_X10_isWord kX10 rfl (c_X10_isWord (d - 1) (by omega) C.1 C.2.2.1 l0 6385252 (inL_c 6385252 rfl)) hy_X10_isWord rfl rfl hf hlo (st_room (Nat.le_of_ble_eq_true rfl)) hcs (fun v2 hv2 => ?_)
    refine s_ifeq (tgt := 74) X dX10_tested_66 (by decide) rfl hv2 ?_ ?_
    · refine s_bipush (n := 13) (pc2 := 76) X dX10_tested_74 rfl rfl ?_
      refine s_sub (lv2 := [(0, vR C.1.1 l0), (1, vI w1)]) [1, 0] rfl ?_
      exact z_X10_tested_L76 d hd K X k12 hk12 l0 w1 13 hw1 (inI_c 13 rfl)
    · refine s_bipush (n := 12) (pc2 := 71) X dX10_tested_69 rfl rfl ?_
      refine s_goto (pc2 := 76) X dX10_tested_71 (by decide) ?_
      refine s_sub (lv2 := [(0, vR C.1.1 l0), (1, vI w1)]) [1, 0] rfl ?_
      exact z_X10_tested_L76 d hd K X k12 hk12 l0 w1 12 hw1 (inI_c 12 rfl)
set_option maxRecDepth 4000 in
theorem z_X10_tested_L49 (d : Nat) (hd : 9 ≤ d) {C : hCx} (K : hCtx C.1 C.2.2.1 d 0 0 "tested" C) (X : hOK C cX10_tested RX10 3 (some .boolean)) (k12 : Nat → Int → hM) (hk12 : ∀ (l0 : Nat) (l1 : Int), inI l1 → hSim C (some .boolean) 0 0 3 12 [(0, vR C.1.1 l0), (1, vI l1)] [] 0 0 (k12 l0 l1)) (l0 : Nat) : hSim C (some .boolean) 0 0 3 49 [(0, vR C.1.1 l0)] [] 0 0 (m_X10_tested_L49 k12 l0) := by
  obtain ⟨⟨hf, hlo⟩, ⟨hc1, hc2⟩, hf1, hl1⟩ := K_room K (by omega)
  have hcs : 0 ≤ C.2.2.2.2.1.cells ∧ 0 ≤ C.2.2.2.2.1.slots := ⟨Nat.zero_le _, Nat.zero_le _⟩
  unfold m_X10_tested_L49
  refine s_iconst (n := 1) (pc2 := 50) X dX10_tested_49 rfl ?_
  refine s_goto (pc2 := 54) X dX10_tested_50 (by decide) ?_
  exact z_X10_tested_L54 d hd K X k12 hk12 l0 1 (inI_c 1 rfl)
set_option maxRecDepth 4000 in
theorem z_X10_tested_L12 (d : Nat) (hd : 9 ≤ d) {C : hCx} (K : hCtx C.1 C.2.2.1 d 0 0 "tested" C) (X : hOK C cX10_tested RX10 3 (some .boolean)) : ∀ (n : Nat) (l0 : Nat) (l1 : Int) (h1 : inI l1), hSim C (some .boolean) 0 0 3 12 [(0, vR C.1.1 l0), (1, vI l1)] [] 0 0 (m_X10_tested_L12 n l0 l1) := by
  obtain ⟨⟨hf, hlo⟩, ⟨hc1, hc2⟩, hf1, hl1⟩ := K_room K (by omega)
  have hcs : 0 ≤ C.2.2.2.2.1.cells ∧ 0 ≤ C.2.2.2.2.1.slots := ⟨Nat.zero_le _, Nat.zero_le _⟩
  intro n
  induction n with
  | zero => intros; exact s_none (fun _ => rfl)
  | succ n ih =>
    intro l0 l1 h1
    unfold m_X10_tested_L12
    refine s_iload_n (j := 1) (pc2 := 13) X dX10_tested_12 rfl rfl ?_
    refine s_ifeq (tgt := 112) X dX10_tested_13 (by decide) rfl h1 ?_ ?_
    · refine s_aload_n (j := 0) (pc2 := 113) X dX10_tested_112 rfl rfl ?_
      refine s_callVZ (d2 := d - 1) (As := []) (st := []) (pc2 := 116) X dX10_tested_113 rfl ml_RX10_197 im_X10_isInside se_X10_isInside kX10 rfl (c_X10_isInside (d - 1) (by omega) C.1 C.2.2.1 l0) hy_X10_isInside rfl rfl hf hlo (st_room (Nat.le_of_ble_eq_true rfl)) hcs (fun v1 hv1 => ?_)
      refine s_ifeq (tgt := 134) X dX10_tested_116 (by decide) rfl hv1 ?_ ?_
      · refine s_aload_n (j := 0) (pc2 := 135) X dX10_tested_134 rfl rfl ?_
        refine s_iconst (n := 1) (pc2 := 136) X dX10_tested_135 rfl ?_
        refine s_callVV (d2 := d - 1) (As := [vI 1]) (st := []) (pc2 := 139) X dX10_tested_136 rfl ml_RX10_194 im_X10_settles se_X10_settles kX10 rfl (c_X10_settles (d - 1) (by omega) C.1 C.2.2.1 l0 1 (inI_c 1 rfl)) hy_X10_settles rfl rfl hf hlo (st_room (Nat.le_of_ble_eq_true rfl)) hcs (fun _ => ?_)
        refine s_iconst (n := 1) (pc2 := 140) X dX10_tested_139 rfl ?_
        exact s_zret X dX10_tested_140
      · refine s_aload_n (j := 0) (pc2 := 120) X dX10_tested_119 rfl rfl ?_
        refine s_callVI (d2 := d - 1) (As := []) (st := []) (pc2 := 123) X dX10_tested_120 rfl ml_RX10_93 im_X10_see se_X10_see kX10 rfl (c_X10_see (d - 1) (by omega) C.1 C.2.2.1 l0) hy_X10_see rfl rfl hf hlo (st_room (Nat.le_of_ble_eq_true rfl)) hcs (fun v2 hv2 => ?_)
        refine s_pop (pc2 := 124) X dX10_tested_123 rfl rfl ?_
        refine s_aload_n (j := 0) (pc2 := 125) X dX10_tested_124 rfl rfl ?_
        refine s_iconst (n := 0) (pc2 := 126) X dX10_tested_125 rfl ?_
        refine s_aload_n (j := 0) (pc2 := 127) X dX10_tested_126 rfl rfl ?_
        refine s_getI (pc2 := 130) X dX10_tested_127 rfl fl_RX10_90 rfl (fun v3 hv3 => ?_)
        refine s_callVZ (d2 := d - 1) (As := [vI 0, vI v3]) (st := []) (pc2 := 133) X dX10_tested_130 rfl ml_RX10_111 im_X10_fails se_X10_fails kX10 rfl (c_X10_fails (d - 1) (by omega) C.1 C.2.2.1 l0 0 v3 (inI_c 0 rfl) hv3) hy_X10_fails rfl rfl hf hlo (st_room (Nat.le_of_ble_eq_true rfl)) hcs (fun v4 hv4 => ?_)
        exact s_zret X dX10_tested_133
    · refine s_aload_n (j := 0) (pc2 := 17) X dX10_tested_16 rfl rfl ?_
      refine s_callVZ (d2 := d - 1) (As := []) (st := []) (pc2 := 20) X dX10_tested_17 rfl ml_RX10_200 im_X10_fact se_X10_fact kX10 rfl (c_X10_fact (d - 1) (by omega) C.1 C.2.2.1 l0) hy_X10_fact rfl rfl hf hlo (st_room (Nat.le_of_ble_eq_true rfl)) hcs (fun v5 hv5 => ?_)
      refine s_ifne (tgt := 25) X dX10_tested_20 (by decide) rfl hv5 ?_ ?_
      · refine s_aload_n (j := 0) (pc2 := 26) X dX10_tested_25 rfl rfl ?_
        refine s_callVV (d2 := d - 1) (As := []) (st := []) (pc2 := 29) X dX10_tested_26 rfl ml_RX10_203 im_X10_closes se_X10_closes kX10 rfl (c_X10_closes (d - 1) (by omega) C.1 C.2.2.1 l0) hy_X10_closes rfl rfl hf hlo (st_room (Nat.le_of_ble_eq_true rfl)) hcs (fun _ => ?_)
        refine s_aload_n (j := 0) (pc2 := 30) X dX10_tested_29 rfl rfl ?_
        refine s_ldc2 (z := 6385252) (pc2 := 33) X dX10_tested_30 rfl kc_RX10_206 ?_
        refine s_callVZ (d2 := d - 1) (As := [vL 6385252]) (st := []) (pc2 := 36) X dX10_tested_33 rfl ml_RX10_101 im_X10_isWord se_X10_isWord kX10 rfl (c_X10_isWord (d - 1) (by omega) C.1 C.2.2.1 l0 6385252 (inL_c 6385252 rfl)) hy_X10_isWord rfl rfl hf hlo (st_room (Nat.le_of_ble_eq_true rfl)) hcs (fun v6 hv6 => ?_)
        refine s_ifne (tgt := 49) X dX10_tested_36 (by decide) rfl hv6 ?_ ?_
        · refine s_sub (lv2 := [(0, vR C.1.1 l0)]) [0] rfl ?_
          exact z_X10_tested_L49 d hd K X (m_X10_tested_L12 n) ih l0
        · refine s_aload_n (j := 0) (pc2 := 40) X dX10_tested_39 rfl rfl ?_
          refine s_ldc2 (z := 28530) (pc2 := 43) X dX10_tested_40 rfl kc_RX10_208 ?_
          refine s_callVZ (d2 := d - 1) (As := [vL 28530]) (st := []) (pc2 := 46) X dX10_tested_43 rfl ml_RX10_101 im_X10_isWord se_X10_isWord kX10 rfl (c_X10_isWord (d - 1) (by omega) C.1 C.2.2.1 l0 28530 (inL_c 28530 rfl)) hy_X10_isWord rfl rfl hf hlo (st_room (Nat.le_of_ble_eq_true rfl)) hcs (fun v7 hv7 => ?_)
          refine s_ifeq (tgt := 53) X dX10_tested_46 (by decide) rfl hv7 ?_ ?_
          · refine s_iconst (n := 0) (pc2 := 54) X dX10_tested_53 rfl ?_
            refine s_sub (lv2 := [(0, vR C.1.1 l0)]) [0] rfl ?_
            exact z_X10_tested_L54 d hd K X (m_X10_tested_L12 n) ih l0 0 (inI_c 0 rfl)
          · refine s_sub (lv2 := [(0, vR C.1.1 l0)]) [0] rfl ?_
            exact z_X10_tested_L49 d hd K X (m_X10_tested_L12 n) ih l0
      · refine s_iconst (n := 0) (pc2 := 24) X dX10_tested_23 rfl ?_
        exact s_zret X dX10_tested_24
set_option maxRecDepth 4000 in
set_option maxHeartbeats 20000000 in
theorem z_X10_tested (d : Nat) (hd : 9 ≤ d) {C : hCx} (K : hCtx C.1 C.2.2.1 d 0 0 "tested" C) (X : hOK C cX10_tested RX10 3 (some .boolean)) (l0 : Nat) : hSim C (some .boolean) 0 0 3 0 [(0, vR C.1.1 l0)] [] 0 0 (m_X10_tested l0) := by
  obtain ⟨⟨hf, hlo⟩, ⟨hc1, hc2⟩, hf1, hl1⟩ := K_room K (by omega)
  have hcs : 0 ≤ C.2.2.2.2.1.cells ∧ 0 ≤ C.2.2.2.2.1.slots := ⟨Nat.zero_le _, Nat.zero_le _⟩
  unfold m_X10_tested
  refine s_aload_n (j := 0) (pc2 := 1) X dX10_tested_0 rfl rfl ?_
  refine s_iconst (n := 0) (pc2 := 2) X dX10_tested_1 rfl ?_
  refine s_putI (pc2 := 5) X dX10_tested_2 rfl fl_RX10_155 (Or.inl rfl) rfl (inI_c 0 rfl) ?_
  refine s_aload_n (j := 0) (pc2 := 6) X dX10_tested_5 rfl rfl ?_
  refine s_iconst (n := 0) (pc2 := 7) X dX10_tested_6 rfl ?_
  refine s_putI (pc2 := 10) X dX10_tested_7 rfl fl_RX10_152 (Or.inl rfl) rfl (inI_c 0 rfl) ?_
  refine s_iconst (n := 1) (pc2 := 11) X dX10_tested_10 rfl ?_
  refine s_istore_n (pc2 := 12) X dX10_tested_11 rfl (by decide) rfl rfl cat1_R (inI_c 1 rfl) (fun w1 hw1 => ?_)
  refine s_sub (lv2 := [(0, vR C.1.1 l0), (1, vI w1)]) [1, 0] rfl ?_
  exact z_X10_tested_L12 d hd K X 1000000000 l0 w1 hw1
theorem c_X10_tested (d : Nat) (hd : 9 ≤ d) (G : hG) (l : Launch) (l0 : Nat) : hMet G l yX10_tested cX10_tested 3 (some .boolean) d 0 0 [vR G.1 l0] (m_X10_tested l0) := by
  refine hMet.of (lv := [(0, vR G.1 l0)]) (by decide +kernel) (by simp [lg_sl, vR_cat, vI_cat, vL_cat, vS_cat2, vT_cat2]) (by simp [lv_args, vR_cat, vI_cat, vL_cat, vS_cat2, vT_cat2]) (fun C K X => ?_)
  obtain ⟨rfl, rfl, K⟩ := K
  exact z_X10_tested d hd ⟨rfl, rfl, K⟩ X l0
def m_X10_isCrossHere_L110 (l0 : Nat) (l1 : Int) : hM :=
  hgR 10 l0 5 fun v1 =>
  hgR 10 l0 4 fun v2 =>
  hgI 10 l0 11 fun v3 =>
  haI 20 v2 v3 fun v4 =>
  hsI 20 v1 ((w32 (l1 + 3))) v4 <|
  hgR 10 l0 6 fun v5 =>
  hgI 10 l0 11 fun v6 =>
  haI 20 v5 v6 fun v7 =>
  hsI 20 v5 v6 ((w32 (v7 + 1))) <|
  hretZ 1
def m_X10_isCrossHere (l0 : Nat) : hM :=
  hcallV 10 l0 (m_X10_passWord l0) fun _ =>
  hgI 10 l0 11 fun v1 =>
  hgR 10 l0 6 fun v2 =>
  hgI 10 l0 11 fun v3 =>
  haI 20 v2 v3 fun v4 =>
  hlet ((w32 (((w32 (48 * v1))) + ((w32 (4 * v4)))))) fun (w5 : Int) =>
  hgR 10 l0 5 fun v6 =>
  hgR 10 l0 4 fun v7 =>
  hgI 10 l0 11 fun v8 =>
  haI 20 v7 v8 fun v9 =>
  hsI 20 v6 w5 v9 <|
  hcallV 10 l0 (m_X10_sum l0) fun v10 =>
  hif (v10 ≠ 0) (
hgR 10 l0 5 fun v11 =>
  hgR 10 l0 4 fun v12 =>
  hgI 10 l0 11 fun v13 =>
  haI 20 v12 v13 fun v14 =>
  hsI 20 v11 ((w32 (w5 + 1))) v14 <|
  hgR 10 l0 5 fun v15 =>
  hsI 20 v15 ((w32 (w5 + 2))) ((-1)) <|
  hcallV 10 l0 (m_X10_takesWord l0 26982) fun v16 =>
  hif (v16 = 0) (
m_X10_isCrossHere_L110 l0 w5) (
hgR 10 l0 5 fun v17 =>
  hgR 10 l0 4 fun v18 =>
  hgI 10 l0 11 fun v19 =>
  haI 20 v18 v19 fun v20 =>
  hsI 20 v17 ((w32 (w5 + 2))) v20 <|
  hcallV 10 l0 (m_X10_tested l0) fun v21 =>
  hif (v21 ≠ 0) (
m_X10_isCrossHere_L110 l0 w5) (
hretZ 0))) (
hretZ 0)
set_option maxRecDepth 4000 in
theorem z_X10_isCrossHere_L110 (d : Nat) (hd : 10 ≤ d) {C : hCx} (K : hCtx C.1 C.2.2.1 d 0 0 "isCrossHere" C) (X : hOK C cX10_isCrossHere RX10 2 (some .boolean)) (l0 : Nat) (l1 : Int) (h1 : inI l1) : hSim C (some .boolean) 0 0 2 110 [(0, vR C.1.1 l0), (1, vI l1)] [] 0 0 (m_X10_isCrossHere_L110 l0 l1) := by
  obtain ⟨⟨hf, hlo⟩, ⟨hc1, hc2⟩, hf1, hl1⟩ := K_room K (by omega)
  have hcs : 0 ≤ C.2.2.2.2.1.cells ∧ 0 ≤ C.2.2.2.2.1.slots := ⟨Nat.zero_le _, Nat.zero_le _⟩
  unfold m_X10_isCrossHere_L110
  refine s_aload_n (j := 0) (pc2 := 111) X dX10_isCrossHere_110 rfl rfl ?_
  refine s_getR (pc2 := 114) X dX10_isCrossHere_111 rfl fl_RX10_20 rfl (fun v1 => ?_)
  refine s_iload_n (j := 1) (pc2 := 115) X dX10_isCrossHere_114 rfl rfl ?_
  refine s_iconst (n := 3) (pc2 := 116) X dX10_isCrossHere_115 rfl ?_
  refine s_iadd (pc2 := 117) X dX10_isCrossHere_116 rfl ?_
  refine s_aload_n (j := 0) (pc2 := 118) X dX10_isCrossHere_117 rfl rfl ?_
  refine s_getR (pc2 := 121) X dX10_isCrossHere_118 rfl fl_RX10_17 rfl (fun v2 => ?_)
  refine s_aload_n (j := 0) (pc2 := 122) X dX10_isCrossHere_121 rfl rfl ?_
  refine s_getI (pc2 := 125) X dX10_isCrossHere_122 rfl fl_RX10_146 rfl (fun v3 hv3 => ?_)
  refine s_iald (pc2 := 126) X dX10_isCrossHere_125 rfl (fun v4 hv4 => ?_)
  refine s_iast (pc2 := 127) X dX10_isCrossHere_126 rfl hv4 ?_
  refine s_aload_n (j := 0) (pc2 := 128) X dX10_isCrossHere_127 rfl rfl ?_
  refine s_getR (pc2 := 131) X dX10_isCrossHere_128 rfl fl_RX10_23 rfl (fun v5 => ?_)
  refine s_aload_n (j := 0) (pc2 := 132) X dX10_isCrossHere_131 rfl rfl ?_
  refine s_getI (pc2 := 135) X dX10_isCrossHere_132 rfl fl_RX10_146 rfl (fun v6 hv6 => ?_)
  refine s_dup2 (pc2 := 136) X dX10_isCrossHere_135 rfl rfl (vR_cat _ _) ?_
  refine s_iald (pc2 := 137) X dX10_isCrossHere_136 rfl (fun v7 hv7 => ?_)
  refine s_iconst (n := 1) (pc2 := 138) X dX10_isCrossHere_137 rfl ?_
  refine s_iadd (pc2 := 139) X dX10_isCrossHere_138 rfl ?_
  refine s_iast (pc2 := 140) X dX10_isCrossHere_139 rfl (w32_in _) ?_
  refine s_iconst (n := 1) (pc2 := 141) X dX10_isCrossHere_140 rfl ?_
  exact s_zret X dX10_isCrossHere_141
set_option maxRecDepth 4000 in
set_option maxHeartbeats 20000000 in
theorem z_X10_isCrossHere (d : Nat) (hd : 10 ≤ d) {C : hCx} (K : hCtx C.1 C.2.2.1 d 0 0 "isCrossHere" C) (X : hOK C cX10_isCrossHere RX10 2 (some .boolean)) (l0 : Nat) : hSim C (some .boolean) 0 0 2 0 [(0, vR C.1.1 l0)] [] 0 0 (m_X10_isCrossHere l0) := by
  obtain ⟨⟨hf, hlo⟩, ⟨hc1, hc2⟩, hf1, hl1⟩ := K_room K (by omega)
  have hcs : 0 ≤ C.2.2.2.2.1.cells ∧ 0 ≤ C.2.2.2.2.1.slots := ⟨Nat.zero_le _, Nat.zero_le _⟩
  unfold m_X10_isCrossHere
  refine s_aload_n (j := 0) (pc2 := 1) X dX10_isCrossHere_0 rfl rfl ?_
  refine s_callVV (d2 := d - 1) (As := []) (st := []) (pc2 := 4) X dX10_isCrossHere_1 rfl ml_RX10_105 im_X10_passWord se_X10_passWord kX10 rfl (c_X10_passWord (d - 1) (by omega) C.1 C.2.2.1 l0) hy_X10_passWord rfl rfl hf hlo (st_room (Nat.le_of_ble_eq_true rfl)) hcs (fun _ => ?_)
  refine s_bipush (n := 48) (pc2 := 6) X dX10_isCrossHere_4 rfl rfl ?_
  refine s_aload_n (j := 0) (pc2 := 7) X dX10_isCrossHere_6 rfl rfl ?_
  refine s_getI (pc2 := 10) X dX10_isCrossHere_7 rfl fl_RX10_146 rfl (fun v1 hv1 => ?_)
  refine s_imul (pc2 := 11) X dX10_isCrossHere_10 rfl ?_
  refine s_iconst (n := 4) (pc2 := 12) X dX10_isCrossHere_11 rfl ?_
  refine s_aload_n (j := 0) (pc2 := 13) X dX10_isCrossHere_12 rfl rfl ?_
  refine s_getR (pc2 := 16) X dX10_isCrossHere_13 rfl fl_RX10_23 rfl (fun v2 => ?_)
  refine s_aload_n (j := 0) (pc2 := 17) X dX10_isCrossHere_16 rfl rfl ?_
  refine s_getI (pc2 := 20) X dX10_isCrossHere_17 rfl fl_RX10_146 rfl (fun v3 hv3 => ?_)
  refine s_iald (pc2 := 21) X dX10_isCrossHere_20 rfl (fun v4 hv4 => ?_)
  refine s_imul (pc2 := 22) X dX10_isCrossHere_21 rfl ?_
  refine s_iadd (pc2 := 23) X dX10_isCrossHere_22 rfl ?_
  refine s_istore_n (pc2 := 24) X dX10_isCrossHere_23 rfl (by decide) rfl rfl cat1_R (w32_in _) (fun w5 hw5 => ?_)
  refine s_aload_n (j := 1) (pc2 := 25) X dX10_isCrossHere_24 rfl rfl ?_
  refine s_getR (pc2 := 28) X dX10_isCrossHere_25 rfl fl_RX10_20 rfl (fun v6 => ?_)
  refine s_iload_n (j := 0) (pc2 := 29) X dX10_isCrossHere_28 rfl rfl ?_
  refine s_aload_n (j := 1) (pc2 := 30) X dX10_isCrossHere_29 rfl rfl ?_
  refine s_getR (pc2 := 33) X dX10_isCrossHere_30 rfl fl_RX10_17 rfl (fun v7 => ?_)
  refine s_aload_n (j := 1) (pc2 := 34) X dX10_isCrossHere_33 rfl rfl ?_
  refine s_getI (pc2 := 37) X dX10_isCrossHere_34 rfl fl_RX10_146 rfl (fun v8 hv8 => ?_)
  refine s_iald (pc2 := 38) X dX10_isCrossHere_37 rfl (fun v9 hv9 => ?_)
  refine s_iast (pc2 := 39) X dX10_isCrossHere_38 rfl hv9 ?_
  refine s_aload_n (j := 1) (pc2 := 40) X dX10_isCrossHere_39 rfl rfl ?_
  refine s_callVZ (d2 := d - 1) (As := []) (st := []) (pc2 := 43) X dX10_isCrossHere_40 rfl ml_RX10_183 im_X10_sum se_X10_sum kX10 rfl (c_X10_sum (d - 1) (by omega) C.1 C.2.2.1 l0) hy_X10_sum rfl rfl hf hlo (st_room (Nat.le_of_ble_eq_true rfl)) hcs (fun v10 hv10 => ?_)
  refine s_ifne (tgt := 48) X dX10_isCrossHere_43 (by decide) rfl hv10 ?_ ?_
  · refine s_aload_n (j := 1) (pc2 := 49) X dX10_isCrossHere_48 rfl rfl ?_
    refine s_getR (pc2 := 52) X dX10_isCrossHere_49 rfl fl_RX10_20 rfl (fun v11 => ?_)
    refine s_iload_n (j := 0) (pc2 := 53) X dX10_isCrossHere_52 rfl rfl ?_
    refine s_iconst (n := 1) (pc2 := 54) X dX10_isCrossHere_53 rfl ?_
    refine s_iadd (pc2 := 55) X dX10_isCrossHere_54 rfl ?_
    refine s_aload_n (j := 1) (pc2 := 56) X dX10_isCrossHere_55 rfl rfl ?_
    refine s_getR (pc2 := 59) X dX10_isCrossHere_56 rfl fl_RX10_17 rfl (fun v12 => ?_)
    refine s_aload_n (j := 1) (pc2 := 60) X dX10_isCrossHere_59 rfl rfl ?_
    refine s_getI (pc2 := 63) X dX10_isCrossHere_60 rfl fl_RX10_146 rfl (fun v13 hv13 => ?_)
    refine s_iald (pc2 := 64) X dX10_isCrossHere_63 rfl (fun v14 hv14 => ?_)
    refine s_iast (pc2 := 65) X dX10_isCrossHere_64 rfl hv14 ?_
    refine s_aload_n (j := 1) (pc2 := 66) X dX10_isCrossHere_65 rfl rfl ?_
    refine s_getR (pc2 := 69) X dX10_isCrossHere_66 rfl fl_RX10_20 rfl (fun v15 => ?_)
    refine s_iload_n (j := 0) (pc2 := 70) X dX10_isCrossHere_69 rfl rfl ?_
    refine s_iconst (n := 2) (pc2 := 71) X dX10_isCrossHere_70 rfl ?_
    refine s_iadd (pc2 := 72) X dX10_isCrossHere_71 rfl ?_
    refine s_iconst (n := (-1)) (pc2 := 73) X dX10_isCrossHere_72 rfl ?_
    refine s_iast (pc2 := 74) X dX10_isCrossHere_73 rfl (inI_c (-1) rfl) ?_
    refine s_aload_n (j := 1) (pc2 := 75) X dX10_isCrossHere_74 rfl rfl ?_
    refine s_ldc2 (z := 26982) (pc2 := 78) X dX10_isCrossHere_75 rfl kc_RX10_210 ?_
    refine s_callVZ (d2 := d - 1) (As := [vL 26982]) (st := []) (pc2 := 81) X dX10_isCrossHere_78 rfl ml_RX10_212 im_X10_takesWord se_X10_takesWord kX10 rfl (c_X10_takesWord (d - 1) (by omega) C.1 C.2.2.1 l0 26982 (inL_c 26982 rfl)) hy_X10_takesWord rfl rfl hf hlo (st_room (Nat.le_of_ble_eq_true rfl)) hcs (fun v16 hv16 => ?_)
    refine s_ifeq (tgt := 110) X dX10_isCrossHere_81 (by decide) rfl hv16 ?_ ?_
    · refine s_sub (lv2 := [(0, vR C.1.1 l0), (1, vI w5)]) [1, 0] rfl ?_
      exact z_X10_isCrossHere_L110 d hd K X l0 w5 hw5
    · refine s_aload_n (j := 1) (pc2 := 85) X dX10_isCrossHere_84 rfl rfl ?_
      refine s_getR (pc2 := 88) X dX10_isCrossHere_85 rfl fl_RX10_20 rfl (fun v17 => ?_)
      refine s_iload_n (j := 0) (pc2 := 89) X dX10_isCrossHere_88 rfl rfl ?_
      refine s_iconst (n := 2) (pc2 := 90) X dX10_isCrossHere_89 rfl ?_
      refine s_iadd (pc2 := 91) X dX10_isCrossHere_90 rfl ?_
      refine s_aload_n (j := 1) (pc2 := 92) X dX10_isCrossHere_91 rfl rfl ?_
      refine s_getR (pc2 := 95) X dX10_isCrossHere_92 rfl fl_RX10_17 rfl (fun v18 => ?_)
      refine s_aload_n (j := 1) (pc2 := 96) X dX10_isCrossHere_95 rfl rfl ?_
      refine s_getI (pc2 := 99) X dX10_isCrossHere_96 rfl fl_RX10_146 rfl (fun v19 hv19 => ?_)
      refine s_iald (pc2 := 100) X dX10_isCrossHere_99 rfl (fun v20 hv20 => ?_)
      refine s_iast (pc2 := 101) X dX10_isCrossHere_100 rfl hv20 ?_
      refine s_aload_n (j := 1) (pc2 := 102) X dX10_isCrossHere_101 rfl rfl ?_
      refine s_callVZ (d2 := d - 1) (As := []) (st := []) (pc2 := 105) X dX10_isCrossHere_102 rfl ml_RX10_215 im_X10_tested se_X10_tested kX10 rfl (c_X10_tested (d - 1) (by omega) C.1 C.2.2.1 l0) hy_X10_tested rfl rfl hf hlo (st_room (Nat.le_of_ble_eq_true rfl)) hcs (fun v21 hv21 => ?_)
      refine s_ifne (tgt := 110) X dX10_isCrossHere_105 (by decide) rfl hv21 ?_ ?_
      · refine s_sub (lv2 := [(0, vR C.1.1 l0), (1, vI w5)]) [1, 0] rfl ?_
        exact z_X10_isCrossHere_L110 d hd K X l0 w5 hw5
      · refine s_iconst (n := 0) (pc2 := 109) X dX10_isCrossHere_108 rfl ?_
        exact s_zret X dX10_isCrossHere_109
  · refine s_iconst (n := 0) (pc2 := 47) X dX10_isCrossHere_46 rfl ?_
    exact s_zret X dX10_isCrossHere_47
theorem c_X10_isCrossHere (d : Nat) (hd : 10 ≤ d) (G : hG) (l : Launch) (l0 : Nat) : hMet G l yX10_isCrossHere cX10_isCrossHere 2 (some .boolean) d 0 0 [vR G.1 l0] (m_X10_isCrossHere l0) := by
  refine hMet.of (lv := [(0, vR G.1 l0)]) (by decide +kernel) (by simp [lg_sl, vR_cat, vI_cat, vL_cat, vS_cat2, vT_cat2]) (by simp [lv_args, vR_cat, vI_cat, vL_cat, vS_cat2, vT_cat2]) (fun C K X => ?_)
  obtain ⟨rfl, rfl, K⟩ := K
  exact z_X10_isCrossHere d hd ⟨rfl, rfl, K⟩ X l0
def m_X10_cellHere (l0 : Nat) (l1 : Int) (l2 : Int) (l3 : Int) : hM :=
  hcallV 10 l0 (m_X10_numberHere l0 l2 l3) fun v1 =>
  hif (v1 ≠ 0) (
hgR 10 l0 7 fun v2 =>
  hgI 10 l0 10 fun v3 =>
  hsI 20 v2 l1 v3 <|
  hretZ 1) (
hretZ 0)
set_option maxRecDepth 4000 in
set_option maxHeartbeats 20000000 in
theorem z_X10_cellHere (d : Nat) (hd : 3 ≤ d) {C : hCx} (K : hCtx C.1 C.2.2.1 d 0 0 "cellHere" C) (X : hOK C cX10_cellHere RX10 4 (some .boolean)) (l0 : Nat) (l1 : Int) (l2 : Int) (l3 : Int) (h1 : inI l1) (h2 : inI l2) (h3 : inI l3) : hSim C (some .boolean) 0 0 4 0 [(0, vR C.1.1 l0), (1, vI l1), (2, vI l2), (3, vI l3)] [] 0 0 (m_X10_cellHere l0 l1 l2 l3) := by
  obtain ⟨⟨hf, hlo⟩, ⟨hc1, hc2⟩, hf1, hl1⟩ := K_room K (by omega)
  have hcs : 0 ≤ C.2.2.2.2.1.cells ∧ 0 ≤ C.2.2.2.2.1.slots := ⟨Nat.zero_le _, Nat.zero_le _⟩
  unfold m_X10_cellHere
  refine s_aload_n (j := 0) (pc2 := 1) X dX10_cellHere_0 rfl rfl ?_
  refine s_iload_n (j := 2) (pc2 := 2) X dX10_cellHere_1 rfl rfl ?_
  refine s_iload_n (j := 3) (pc2 := 3) X dX10_cellHere_2 rfl rfl ?_
  refine s_callVZ (d2 := d - 1) (As := [vI l2, vI l3]) (st := []) (pc2 := 6) X dX10_cellHere_3 rfl ml_RX10_167 im_X10_numberHere se_X10_numberHere kX10 rfl (c_X10_numberHere (d - 1) (by omega) C.1 C.2.2.1 l0 l2 l3 h2 h3) hy_X10_numberHere rfl rfl hf hlo (st_room (Nat.le_of_ble_eq_true rfl)) hcs (fun v1 hv1 => ?_)
  refine s_ifne (tgt := 11) X dX10_cellHere_6 (by decide) rfl hv1 ?_ ?_
  · refine s_aload_n (j := 0) (pc2 := 12) X dX10_cellHere_11 rfl rfl ?_
    refine s_getR (pc2 := 15) X dX10_cellHere_12 rfl fl_RX10_26 rfl (fun v2 => ?_)
    refine s_iload_n (j := 1) (pc2 := 16) X dX10_cellHere_15 rfl rfl ?_
    refine s_aload_n (j := 0) (pc2 := 17) X dX10_cellHere_16 rfl rfl ?_
    refine s_getI (pc2 := 20) X dX10_cellHere_17 rfl fl_RX10_115 rfl (fun v3 hv3 => ?_)
    refine s_iast (pc2 := 21) X dX10_cellHere_20 rfl hv3 ?_
    refine s_iconst (n := 1) (pc2 := 22) X dX10_cellHere_21 rfl ?_
    exact s_zret X dX10_cellHere_22
  · refine s_iconst (n := 0) (pc2 := 10) X dX10_cellHere_9 rfl ?_
    exact s_zret X dX10_cellHere_10
theorem c_X10_cellHere (d : Nat) (hd : 3 ≤ d) (G : hG) (l : Launch) (l0 : Nat) (l1 : Int) (l2 : Int) (l3 : Int) (h1 : inI l1) (h2 : inI l2) (h3 : inI l3) : hMet G l yX10_cellHere cX10_cellHere 4 (some .boolean) d 0 0 [vR G.1 l0, vI l1, vI l2, vI l3] (m_X10_cellHere l0 l1 l2 l3) := by
  refine hMet.of (lv := [(0, vR G.1 l0), (1, vI l1), (2, vI l2), (3, vI l3)]) (by decide +kernel) (by simp [lg_sl, vR_cat, vI_cat, vL_cat, vS_cat2, vT_cat2]) (by simp [lv_args, vR_cat, vI_cat, vL_cat, vS_cat2, vT_cat2]) (fun C K X => ?_)
  obtain ⟨rfl, rfl, K⟩ := K
  exact z_X10_cellHere d hd ⟨rfl, rfl, K⟩ X l0 l1 l2 l3 h1 h2 h3
def m_X10_isTownHere (l0 : Nat) (l1 : Int) : hM :=
  hgR 10 l0 7 fun v1 =>
  haI 20 v1 0 fun v2 =>
  hif (v2 ≤ 0) (
hcallV 10 l0 (m_X10_passWord l0) fun _ =>
  hcallV 10 l0 (m_X10_numberHere l0 2 8) fun v3 =>
  hif (v3 ≠ 0) (
hgI 10 l0 10 fun v4 =>
  hlet v4 fun (w5 : Int) =>
  hcallV 10 l0 (m_X10_cellHere l0 1 1 5) fun v6 =>
  hif (v6 ≠ 0) (
hgR 10 l0 7 fun v7 =>
  hsI 20 v7 0 w5 <|
  hretZ 1) (
hretZ 0)) (
hretZ 0)) (
hcallV 10 l0 (m_X10_fails l0 4 l1) fun v8 =>
  hretZ v8)
set_option maxRecDepth 4000 in
set_option maxHeartbeats 20000000 in
theorem z_X10_isTownHere (d : Nat) (hd : 4 ≤ d) {C : hCx} (K : hCtx C.1 C.2.2.1 d 0 0 "isTownHere" C) (X : hOK C cX10_isTownHere RX10 3 (some .boolean)) (l0 : Nat) (l1 : Int) (h1 : inI l1) : hSim C (some .boolean) 0 0 3 0 [(0, vR C.1.1 l0), (1, vI l1)] [] 0 0 (m_X10_isTownHere l0 l1) := by
  obtain ⟨⟨hf, hlo⟩, ⟨hc1, hc2⟩, hf1, hl1⟩ := K_room K (by omega)
  have hcs : 0 ≤ C.2.2.2.2.1.cells ∧ 0 ≤ C.2.2.2.2.1.slots := ⟨Nat.zero_le _, Nat.zero_le _⟩
  unfold m_X10_isTownHere
  refine s_aload_n (j := 0) (pc2 := 1) X dX10_isTownHere_0 rfl rfl ?_
  refine s_getR (pc2 := 4) X dX10_isTownHere_1 rfl fl_RX10_26 rfl (fun v1 => ?_)
  refine s_iconst (n := 0) (pc2 := 5) X dX10_isTownHere_4 rfl ?_
  refine s_iald (pc2 := 6) X dX10_isTownHere_5 rfl (fun v2 hv2 => ?_)
  refine s_ifle (tgt := 16) X dX10_isTownHere_6 (by decide) rfl hv2 ?_ ?_
  · refine s_aload_n (j := 0) (pc2 := 17) X dX10_isTownHere_16 rfl rfl ?_
    refine s_callVV (d2 := d - 1) (As := []) (st := []) (pc2 := 20) X dX10_isTownHere_17 rfl ml_RX10_105 im_X10_passWord se_X10_passWord kX10 rfl (c_X10_passWord (d - 1) (by omega) C.1 C.2.2.1 l0) hy_X10_passWord rfl rfl hf hlo (st_room (Nat.le_of_ble_eq_true rfl)) hcs (fun _ => ?_)
    refine s_aload_n (j := 0) (pc2 := 21) X dX10_isTownHere_20 rfl rfl ?_
    refine s_iconst (n := 2) (pc2 := 22) X dX10_isTownHere_21 rfl ?_
    refine s_bipush (n := 8) (pc2 := 24) X dX10_isTownHere_22 rfl rfl ?_
    refine s_callVZ (d2 := d - 1) (As := [vI 2, vI 8]) (st := []) (pc2 := 27) X dX10_isTownHere_24 rfl ml_RX10_167 im_X10_numberHere se_X10_numberHere kX10 rfl (c_X10_numberHere (d - 1) (by omega) C.1 C.2.2.1 l0 2 8 (inI_c 2 rfl) (inI_c 8 rfl)) hy_X10_numberHere rfl rfl hf hlo (st_room (Nat.le_of_ble_eq_true rfl)) hcs (fun v3 hv3 => ?_)
    refine s_ifne (tgt := 32) X dX10_isTownHere_27 (by decide) rfl hv3 ?_ ?_
    · refine s_aload_n (j := 0) (pc2 := 33) X dX10_isTownHere_32 rfl rfl ?_
      refine s_getI (pc2 := 36) X dX10_isTownHere_33 rfl fl_RX10_115 rfl (fun v4 hv4 => ?_)
      refine s_istore_n (pc2 := 37) X dX10_isTownHere_36 rfl (by decide) rfl rfl cat1_I hv4 (fun w5 hw5 => ?_)
      refine s_aload_n (j := 1) (pc2 := 38) X dX10_isTownHere_37 rfl rfl ?_
      refine s_iconst (n := 1) (pc2 := 39) X dX10_isTownHere_38 rfl ?_
      refine s_iconst (n := 1) (pc2 := 40) X dX10_isTownHere_39 rfl ?_
      refine s_iconst (n := 5) (pc2 := 41) X dX10_isTownHere_40 rfl ?_
      refine s_callVZ (d2 := d - 1) (As := [vI 1, vI 1, vI 5]) (st := []) (pc2 := 44) X dX10_isTownHere_41 rfl ml_RX10_218 im_X10_cellHere se_X10_cellHere kX10 rfl (c_X10_cellHere (d - 1) (by omega) C.1 C.2.2.1 l0 1 1 5 (inI_c 1 rfl) (inI_c 1 rfl) (inI_c 5 rfl)) hy_X10_cellHere rfl rfl hf hlo (st_room (Nat.le_of_ble_eq_true rfl)) hcs (fun v6 hv6 => ?_)
      refine s_ifne (tgt := 49) X dX10_isTownHere_44 (by decide) rfl hv6 ?_ ?_
      · refine s_aload_n (j := 1) (pc2 := 50) X dX10_isTownHere_49 rfl rfl ?_
        refine s_getR (pc2 := 53) X dX10_isTownHere_50 rfl fl_RX10_26 rfl (fun v7 => ?_)
        refine s_iconst (n := 0) (pc2 := 54) X dX10_isTownHere_53 rfl ?_
        refine s_iload_n (j := 0) (pc2 := 55) X dX10_isTownHere_54 rfl rfl ?_
        refine s_iast (pc2 := 56) X dX10_isTownHere_55 rfl hw5 ?_
        refine s_iconst (n := 1) (pc2 := 57) X dX10_isTownHere_56 rfl ?_
        exact s_zret X dX10_isTownHere_57
      · refine s_iconst (n := 0) (pc2 := 48) X dX10_isTownHere_47 rfl ?_
        exact s_zret X dX10_isTownHere_48
    · refine s_iconst (n := 0) (pc2 := 31) X dX10_isTownHere_30 rfl ?_
      exact s_zret X dX10_isTownHere_31
  · refine s_aload_n (j := 0) (pc2 := 10) X dX10_isTownHere_9 rfl rfl ?_
    refine s_iconst (n := 4) (pc2 := 11) X dX10_isTownHere_10 rfl ?_
    refine s_iload_n (j := 1) (pc2 := 12) X dX10_isTownHere_11 rfl rfl ?_
    refine s_callVZ (d2 := d - 1) (As := [vI 4, vI l1]) (st := []) (pc2 := 15) X dX10_isTownHere_12 rfl ml_RX10_111 im_X10_fails se_X10_fails kX10 rfl (c_X10_fails (d - 1) (by omega) C.1 C.2.2.1 l0 4 l1 (inI_c 4 rfl) h1) hy_X10_fails rfl rfl hf hlo (st_room (Nat.le_of_ble_eq_true rfl)) hcs (fun v8 hv8 => ?_)
    exact s_zret X dX10_isTownHere_15
theorem c_X10_isTownHere (d : Nat) (hd : 4 ≤ d) (G : hG) (l : Launch) (l0 : Nat) (l1 : Int) (h1 : inI l1) : hMet G l yX10_isTownHere cX10_isTownHere 3 (some .boolean) d 0 0 [vR G.1 l0, vI l1] (m_X10_isTownHere l0 l1) := by
  refine hMet.of (lv := [(0, vR G.1 l0), (1, vI l1)]) (by decide +kernel) (by simp [lg_sl, vR_cat, vI_cat, vL_cat, vS_cat2, vT_cat2]) (by simp [lv_args, vR_cat, vI_cat, vL_cat, vS_cat2, vT_cat2]) (fun C K X => ?_)
  obtain ⟨rfl, rfl, K⟩ := K
  exact z_X10_isTownHere d hd ⟨rfl, rfl, K⟩ X l0 l1 h1
def m_X10_areTwoHere_L83 (s0 : Int) : hM :=
  hretZ s0
def m_X10_areTwoHere_L82 : hM :=
  m_X10_areTwoHere_L83 0
def m_X10_areTwoHere_L78 : hM :=
  m_X10_areTwoHere_L83 1
def m_X10_areTwoHere (l0 : Nat) (l1 : Int) : hM :=
  hcallV 10 l0 (m_X10_passWord l0) fun _ =>
  hgR 10 l0 7 fun v1 =>
  haI 20 v1 0 fun v2 =>
  hcallV 10 l0 (m_X10_cellHere l0 l1 0 ((w32 (v2 - 1)))) fun v3 =>
  hif (v3 ≠ 0) (
hcallV 10 l0 (m_X10_see l0) fun v4 =>
  hgI 10 l0 8 fun v5 =>
  hlet v5 fun (w6 : Int) =>
  hgR 10 l0 7 fun v7 =>
  haI 20 v7 0 fun v8 =>
  hcallV 10 l0 (m_X10_cellHere l0 ((w32 (l1 + 1))) 0 ((w32 (v8 - 1)))) fun v9 =>
  hif (v9 = 0) (
m_X10_areTwoHere_L82) (
hgR 10 l0 7 fun v10 =>
  haI 20 v10 l1 fun v11 =>
  hgR 10 l0 7 fun v12 =>
  haI 20 v12 ((w32 (l1 + 1))) fun v13 =>
  hif (v11 ≠ v13) (
m_X10_areTwoHere_L78) (
hcallV 10 l0 (m_X10_fails l0 1 w6) fun v14 =>
  hif (v14 = 0) (
m_X10_areTwoHere_L82) (
m_X10_areTwoHere_L78)))) (
hretZ 0)
set_option maxRecDepth 4000 in
theorem z_X10_areTwoHere_L83 (d : Nat) (hd : 4 ≤ d) {C : hCx} (K : hCtx C.1 C.2.2.1 d 0 0 "areTwoHere" C) (X : hOK C cX10_areTwoHere RX10 3 (some .boolean)) (s0 : Int) (g0 : inI s0) : hSim C (some .boolean) 0 0 3 83 [] [vI s0] 0 0 (m_X10_areTwoHere_L83 s0) := by
  obtain ⟨⟨hf, hlo⟩, ⟨hc1, hc2⟩, hf1, hl1⟩ := K_room K (by omega)
  have hcs : 0 ≤ C.2.2.2.2.1.cells ∧ 0 ≤ C.2.2.2.2.1.slots := ⟨Nat.zero_le _, Nat.zero_le _⟩
  unfold m_X10_areTwoHere_L83
  exact s_zret X dX10_areTwoHere_83
set_option maxRecDepth 4000 in
theorem z_X10_areTwoHere_L82 (d : Nat) (hd : 4 ≤ d) {C : hCx} (K : hCtx C.1 C.2.2.1 d 0 0 "areTwoHere" C) (X : hOK C cX10_areTwoHere RX10 3 (some .boolean)) : hSim C (some .boolean) 0 0 3 82 [] [] 0 0 (m_X10_areTwoHere_L82) := by
  obtain ⟨⟨hf, hlo⟩, ⟨hc1, hc2⟩, hf1, hl1⟩ := K_room K (by omega)
  have hcs : 0 ≤ C.2.2.2.2.1.cells ∧ 0 ≤ C.2.2.2.2.1.slots := ⟨Nat.zero_le _, Nat.zero_le _⟩
  unfold m_X10_areTwoHere_L82
  refine s_iconst (n := 0) (pc2 := 83) X dX10_areTwoHere_82 rfl ?_
  exact z_X10_areTwoHere_L83 d hd K X 0 (inI_c 0 rfl)
set_option maxRecDepth 4000 in
theorem z_X10_areTwoHere_L78 (d : Nat) (hd : 4 ≤ d) {C : hCx} (K : hCtx C.1 C.2.2.1 d 0 0 "areTwoHere" C) (X : hOK C cX10_areTwoHere RX10 3 (some .boolean)) : hSim C (some .boolean) 0 0 3 78 [] [] 0 0 (m_X10_areTwoHere_L78) := by
  obtain ⟨⟨hf, hlo⟩, ⟨hc1, hc2⟩, hf1, hl1⟩ := K_room K (by omega)
  have hcs : 0 ≤ C.2.2.2.2.1.cells ∧ 0 ≤ C.2.2.2.2.1.slots := ⟨Nat.zero_le _, Nat.zero_le _⟩
  unfold m_X10_areTwoHere_L78
  refine s_iconst (n := 1) (pc2 := 79) X dX10_areTwoHere_78 rfl ?_
  refine s_goto (pc2 := 83) X dX10_areTwoHere_79 (by decide) ?_
  exact z_X10_areTwoHere_L83 d hd K X 1 (inI_c 1 rfl)
set_option maxRecDepth 4000 in
set_option maxHeartbeats 20000000 in
theorem z_X10_areTwoHere (d : Nat) (hd : 4 ≤ d) {C : hCx} (K : hCtx C.1 C.2.2.1 d 0 0 "areTwoHere" C) (X : hOK C cX10_areTwoHere RX10 3 (some .boolean)) (l0 : Nat) (l1 : Int) (h1 : inI l1) : hSim C (some .boolean) 0 0 3 0 [(0, vR C.1.1 l0), (1, vI l1)] [] 0 0 (m_X10_areTwoHere l0 l1) := by
  obtain ⟨⟨hf, hlo⟩, ⟨hc1, hc2⟩, hf1, hl1⟩ := K_room K (by omega)
  have hcs : 0 ≤ C.2.2.2.2.1.cells ∧ 0 ≤ C.2.2.2.2.1.slots := ⟨Nat.zero_le _, Nat.zero_le _⟩
  unfold m_X10_areTwoHere
  refine s_aload_n (j := 0) (pc2 := 1) X dX10_areTwoHere_0 rfl rfl ?_
  refine s_callVV (d2 := d - 1) (As := []) (st := []) (pc2 := 4) X dX10_areTwoHere_1 rfl ml_RX10_105 im_X10_passWord se_X10_passWord kX10 rfl (c_X10_passWord (d - 1) (by omega) C.1 C.2.2.1 l0) hy_X10_passWord rfl rfl hf hlo (st_room (Nat.le_of_ble_eq_true rfl)) hcs (fun _ => ?_)
  refine s_aload_n (j := 0) (pc2 := 5) X dX10_areTwoHere_4 rfl rfl ?_
  refine s_iload_n (j := 1) (pc2 := 6) X dX10_areTwoHere_5 rfl rfl ?_
  refine s_iconst (n := 0) (pc2 := 7) X dX10_areTwoHere_6 rfl ?_
  refine s_aload_n (j := 0) (pc2 := 8) X dX10_areTwoHere_7 rfl rfl ?_
  refine s_getR (pc2 := 11) X dX10_areTwoHere_8 rfl fl_RX10_26 rfl (fun v1 => ?_)
  refine s_iconst (n := 0) (pc2 := 12) X dX10_areTwoHere_11 rfl ?_
  refine s_iald (pc2 := 13) X dX10_areTwoHere_12 rfl (fun v2 hv2 => ?_)
  refine s_iconst (n := 1) (pc2 := 14) X dX10_areTwoHere_13 rfl ?_
  refine s_isub (pc2 := 15) X dX10_areTwoHere_14 rfl ?_
  refine s_callVZ (d2 := d - 1) (As := [vI l1, vI 0, vI ((w32 (v2 - 1)))]) (st := []) (pc2 := 18) X dX10_areTwoHere_15 rfl ml_RX10_218 im_X10_cellHere se_X10_cellHere kX10 rfl (c_X10_cellHere (d - 1) (by omega) C.1 C.2.2.1 l0 l1 0 ((w32 (v2 - 1))) h1 (inI_c 0 rfl) (w32_in _)) hy_X10_cellHere rfl rfl hf hlo (st_room (Nat.le_of_ble_eq_true rfl)) hcs (fun v3 hv3 => ?_)
  refine s_ifne (tgt := 23) X dX10_areTwoHere_18 (by decide) rfl hv3 ?_ ?_
  · refine s_aload_n (j := 0) (pc2 := 24) X dX10_areTwoHere_23 rfl rfl ?_
    refine s_callVI (d2 := d - 1) (As := []) (st := []) (pc2 := 27) X dX10_areTwoHere_24 rfl ml_RX10_93 im_X10_see se_X10_see kX10 rfl (c_X10_see (d - 1) (by omega) C.1 C.2.2.1 l0) hy_X10_see rfl rfl hf hlo (st_room (Nat.le_of_ble_eq_true rfl)) hcs (fun v4 hv4 => ?_)
    refine s_pop (pc2 := 28) X dX10_areTwoHere_27 rfl rfl ?_
    refine s_aload_n (j := 0) (pc2 := 29) X dX10_areTwoHere_28 rfl rfl ?_
    refine s_getI (pc2 := 32) X dX10_areTwoHere_29 rfl fl_RX10_90 rfl (fun v5 hv5 => ?_)
    refine s_istore_n (pc2 := 33) X dX10_areTwoHere_32 rfl (by decide) rfl rfl cat1_I hv5 (fun w6 hw6 => ?_)
    refine s_aload_n (j := 1) (pc2 := 34) X dX10_areTwoHere_33 rfl rfl ?_
    refine s_iload_n (j := 2) (pc2 := 35) X dX10_areTwoHere_34 rfl rfl ?_
    refine s_iconst (n := 1) (pc2 := 36) X dX10_areTwoHere_35 rfl ?_
    refine s_iadd (pc2 := 37) X dX10_areTwoHere_36 rfl ?_
    refine s_iconst (n := 0) (pc2 := 38) X dX10_areTwoHere_37 rfl ?_
    refine s_aload_n (j := 1) (pc2 := 39) X dX10_areTwoHere_38 rfl rfl ?_
    refine s_getR (pc2 := 42) X dX10_areTwoHere_39 rfl fl_RX10_26 rfl (fun v7 => ?_)
    refine s_iconst (n := 0) (pc2 := 43) X dX10_areTwoHere_42 rfl ?_
    refine s_iald (pc2 := 44) X dX10_areTwoHere_43 rfl (fun v8 hv8 => ?_)
    refine s_iconst (n := 1) (pc2 := 45) X dX10_areTwoHere_44 rfl ?_
    refine s_isub (pc2 := 46) X dX10_areTwoHere_45 rfl ?_
    refine s_callVZ (d2 := d - 1) (As := [vI ((w32 (l1 + 1))), vI 0, vI ((w32 (v8 - 1)))]) (st := []) (pc2 := 49) X dX10_areTwoHere_46 rfl ml_RX10_218 im_X10_cellHere se_X10_cellHere kX10 rfl (c_X10_cellHere (d - 1) (by omega) C.1 C.2.2.1 l0 ((w32 (l1 + 1))) 0 ((w32 (v8 - 1))) (w32_in _) (inI_c 0 rfl) (w32_in _)) hy_X10_cellHere rfl rfl hf hlo (st_room (Nat.le_of_ble_eq_true rfl)) hcs (fun v9 hv9 => ?_)
    refine s_ifeq (tgt := 82) X dX10_areTwoHere_49 (by decide) rfl hv9 ?_ ?_
    · refine s_sub (lv2 := []) [] rfl ?_
      exact z_X10_areTwoHere_L82 d hd K X
    · refine s_aload_n (j := 1) (pc2 := 53) X dX10_areTwoHere_52 rfl rfl ?_
      refine s_getR (pc2 := 56) X dX10_areTwoHere_53 rfl fl_RX10_26 rfl (fun v10 => ?_)
      refine s_iload_n (j := 2) (pc2 := 57) X dX10_areTwoHere_56 rfl rfl ?_
      refine s_iald (pc2 := 58) X dX10_areTwoHere_57 rfl (fun v11 hv11 => ?_)
      refine s_aload_n (j := 1) (pc2 := 59) X dX10_areTwoHere_58 rfl rfl ?_
      refine s_getR (pc2 := 62) X dX10_areTwoHere_59 rfl fl_RX10_26 rfl (fun v12 => ?_)
      refine s_iload_n (j := 2) (pc2 := 63) X dX10_areTwoHere_62 rfl rfl ?_
      refine s_iconst (n := 1) (pc2 := 64) X dX10_areTwoHere_63 rfl ?_
      refine s_iadd (pc2 := 65) X dX10_areTwoHere_64 rfl ?_
      refine s_iald (pc2 := 66) X dX10_areTwoHere_65 rfl (fun v13 hv13 => ?_)
      refine s_icne (tgt := 78) X dX10_areTwoHere_66 (by decide) rfl hv11 hv13 ?_ ?_
      · refine s_sub (lv2 := []) [] rfl ?_
        exact z_X10_areTwoHere_L78 d hd K X
      · refine s_aload_n (j := 1) (pc2 := 70) X dX10_areTwoHere_69 rfl rfl ?_
        refine s_iconst (n := 1) (pc2 := 71) X dX10_areTwoHere_70 rfl ?_
        refine s_iload_n (j := 0) (pc2 := 72) X dX10_areTwoHere_71 rfl rfl ?_
        refine s_callVZ (d2 := d - 1) (As := [vI 1, vI w6]) (st := []) (pc2 := 75) X dX10_areTwoHere_72 rfl ml_RX10_111 im_X10_fails se_X10_fails kX10 rfl (c_X10_fails (d - 1) (by omega) C.1 C.2.2.1 l0 1 w6 (inI_c 1 rfl) hw6) hy_X10_fails rfl rfl hf hlo (st_room (Nat.le_of_ble_eq_true rfl)) hcs (fun v14 hv14 => ?_)
        refine s_ifeq (tgt := 82) X dX10_areTwoHere_75 (by decide) rfl hv14 ?_ ?_
        · refine s_sub (lv2 := []) [] rfl ?_
          exact z_X10_areTwoHere_L82 d hd K X
        · refine s_sub (lv2 := []) [] rfl ?_
          exact z_X10_areTwoHere_L78 d hd K X
  · refine s_iconst (n := 0) (pc2 := 22) X dX10_areTwoHere_21 rfl ?_
    exact s_zret X dX10_areTwoHere_22
theorem c_X10_areTwoHere (d : Nat) (hd : 4 ≤ d) (G : hG) (l : Launch) (l0 : Nat) (l1 : Int) (h1 : inI l1) : hMet G l yX10_areTwoHere cX10_areTwoHere 3 (some .boolean) d 0 0 [vR G.1 l0, vI l1] (m_X10_areTwoHere l0 l1) := by
  refine hMet.of (lv := [(0, vR G.1 l0), (1, vI l1)]) (by decide +kernel) (by simp [lg_sl, vR_cat, vI_cat, vL_cat, vS_cat2, vT_cat2]) (by simp [lv_args, vR_cat, vI_cat, vL_cat, vS_cat2, vT_cat2]) (fun C K X => ?_)
  obtain ⟨rfl, rfl, K⟩ := K
  exact z_X10_areTwoHere d hd ⟨rfl, rfl, K⟩ X l0 l1 h1
def m_X10_isBridgeHere (l0 : Nat) (l1 : Int) : hM :=
  hgR 10 l0 7 fun v1 =>
  haI 20 v1 2 fun v2 =>
  hif (v2 ≠ 9) (
hgR 10 l0 7 fun v3 =>
  haI 20 v3 2 fun v4 =>
  hcallV 10 l0 (m_X10_areTwoHere l0 ((w32 (94 + ((w32 (2 * v4))))))) fun v5 =>
  hif (v5 ≠ 0) (
hgR 10 l0 7 fun v6 =>
  haI 20 v6 2 fun v7 =>
  hsI 20 v6 2 ((w32 (v7 + 1))) <|
  hretZ 1) (
hretZ 0)) (
hcallV 10 l0 (m_X10_fails l0 4 l1) fun v8 =>
  hretZ v8)
set_option maxRecDepth 4000 in
set_option maxHeartbeats 20000000 in
theorem z_X10_isBridgeHere (d : Nat) (hd : 5 ≤ d) {C : hCx} (K : hCtx C.1 C.2.2.1 d 0 0 "isBridgeHere" C) (X : hOK C cX10_isBridgeHere RX10 2 (some .boolean)) (l0 : Nat) (l1 : Int) (h1 : inI l1) : hSim C (some .boolean) 0 0 2 0 [(0, vR C.1.1 l0), (1, vI l1)] [] 0 0 (m_X10_isBridgeHere l0 l1) := by
  obtain ⟨⟨hf, hlo⟩, ⟨hc1, hc2⟩, hf1, hl1⟩ := K_room K (by omega)
  have hcs : 0 ≤ C.2.2.2.2.1.cells ∧ 0 ≤ C.2.2.2.2.1.slots := ⟨Nat.zero_le _, Nat.zero_le _⟩
  unfold m_X10_isBridgeHere
  refine s_aload_n (j := 0) (pc2 := 1) X dX10_isBridgeHere_0 rfl rfl ?_
  refine s_getR (pc2 := 4) X dX10_isBridgeHere_1 rfl fl_RX10_26 rfl (fun v1 => ?_)
  refine s_iconst (n := 2) (pc2 := 5) X dX10_isBridgeHere_4 rfl ?_
  refine s_iald (pc2 := 6) X dX10_isBridgeHere_5 rfl (fun v2 hv2 => ?_)
  refine s_bipush (n := 9) (pc2 := 8) X dX10_isBridgeHere_6 rfl rfl ?_
  refine s_icne (tgt := 18) X dX10_isBridgeHere_8 (by decide) rfl hv2 (inI_c 9 rfl) ?_ ?_
  · refine s_aload_n (j := 0) (pc2 := 19) X dX10_isBridgeHere_18 rfl rfl ?_
    refine s_bipush (n := 94) (pc2 := 21) X dX10_isBridgeHere_19 rfl rfl ?_
    refine s_iconst (n := 2) (pc2 := 22) X dX10_isBridgeHere_21 rfl ?_
    refine s_aload_n (j := 0) (pc2 := 23) X dX10_isBridgeHere_22 rfl rfl ?_
    refine s_getR (pc2 := 26) X dX10_isBridgeHere_23 rfl fl_RX10_26 rfl (fun v3 => ?_)
    refine s_iconst (n := 2) (pc2 := 27) X dX10_isBridgeHere_26 rfl ?_
    refine s_iald (pc2 := 28) X dX10_isBridgeHere_27 rfl (fun v4 hv4 => ?_)
    refine s_imul (pc2 := 29) X dX10_isBridgeHere_28 rfl ?_
    refine s_iadd (pc2 := 30) X dX10_isBridgeHere_29 rfl ?_
    refine s_callVZ (d2 := d - 1) (As := [vI ((w32 (94 + ((w32 (2 * v4))))))]) (st := []) (pc2 := 33) X dX10_isBridgeHere_30 rfl ml_RX10_222 im_X10_areTwoHere se_X10_areTwoHere kX10 rfl (c_X10_areTwoHere (d - 1) (by omega) C.1 C.2.2.1 l0 ((w32 (94 + ((w32 (2 * v4)))))) (w32_in _)) hy_X10_areTwoHere rfl rfl hf hlo (st_room (Nat.le_of_ble_eq_true rfl)) hcs (fun v5 hv5 => ?_)
    refine s_ifne (tgt := 38) X dX10_isBridgeHere_33 (by decide) rfl hv5 ?_ ?_
    · refine s_aload_n (j := 0) (pc2 := 39) X dX10_isBridgeHere_38 rfl rfl ?_
      refine s_getR (pc2 := 42) X dX10_isBridgeHere_39 rfl fl_RX10_26 rfl (fun v6 => ?_)
      refine s_iconst (n := 2) (pc2 := 43) X dX10_isBridgeHere_42 rfl ?_
      refine s_dup2 (pc2 := 44) X dX10_isBridgeHere_43 rfl rfl (vR_cat _ _) ?_
      refine s_iald (pc2 := 45) X dX10_isBridgeHere_44 rfl (fun v7 hv7 => ?_)
      refine s_iconst (n := 1) (pc2 := 46) X dX10_isBridgeHere_45 rfl ?_
      refine s_iadd (pc2 := 47) X dX10_isBridgeHere_46 rfl ?_
      refine s_iast (pc2 := 48) X dX10_isBridgeHere_47 rfl (w32_in _) ?_
      refine s_iconst (n := 1) (pc2 := 49) X dX10_isBridgeHere_48 rfl ?_
      exact s_zret X dX10_isBridgeHere_49
    · refine s_iconst (n := 0) (pc2 := 37) X dX10_isBridgeHere_36 rfl ?_
      exact s_zret X dX10_isBridgeHere_37
  · refine s_aload_n (j := 0) (pc2 := 12) X dX10_isBridgeHere_11 rfl rfl ?_
    refine s_iconst (n := 4) (pc2 := 13) X dX10_isBridgeHere_12 rfl ?_
    refine s_iload_n (j := 1) (pc2 := 14) X dX10_isBridgeHere_13 rfl rfl ?_
    refine s_callVZ (d2 := d - 1) (As := [vI 4, vI l1]) (st := []) (pc2 := 17) X dX10_isBridgeHere_14 rfl ml_RX10_111 im_X10_fails se_X10_fails kX10 rfl (c_X10_fails (d - 1) (by omega) C.1 C.2.2.1 l0 4 l1 (inI_c 4 rfl) h1) hy_X10_fails rfl rfl hf hlo (st_room (Nat.le_of_ble_eq_true rfl)) hcs (fun v8 hv8 => ?_)
    exact s_zret X dX10_isBridgeHere_17
theorem c_X10_isBridgeHere (d : Nat) (hd : 5 ≤ d) (G : hG) (l : Launch) (l0 : Nat) (l1 : Int) (h1 : inI l1) : hMet G l yX10_isBridgeHere cX10_isBridgeHere 2 (some .boolean) d 0 0 [vR G.1 l0, vI l1] (m_X10_isBridgeHere l0 l1) := by
  refine hMet.of (lv := [(0, vR G.1 l0), (1, vI l1)]) (by decide +kernel) (by simp [lg_sl, vR_cat, vI_cat, vL_cat, vS_cat2, vT_cat2]) (by simp [lv_args, vR_cat, vI_cat, vL_cat, vS_cat2, vT_cat2]) (fun C K X => ?_)
  obtain ⟨rfl, rfl, K⟩ := K
  exact z_X10_isBridgeHere d hd ⟨rfl, rfl, K⟩ X l0 l1 h1
def m_X10_isFerryHere (l0 : Nat) (l1 : Int) : hM :=
  hgR 10 l0 7 fun v1 =>
  haI 20 v1 3 fun v2 =>
  hif (v2 ≠ 4) (
hgR 10 l0 7 fun v3 =>
  haI 20 v3 3 fun v4 =>
  hcallV 10 l0 (m_X10_areTwoHere l0 ((w32 (112 + ((w32 (2 * v4))))))) fun v5 =>
  hif (v5 ≠ 0) (
hgR 10 l0 7 fun v6 =>
  haI 20 v6 3 fun v7 =>
  hsI 20 v6 3 ((w32 (v7 + 1))) <|
  hretZ 1) (
hretZ 0)) (
hcallV 10 l0 (m_X10_fails l0 4 l1) fun v8 =>
  hretZ v8)
set_option maxRecDepth 4000 in
set_option maxHeartbeats 20000000 in
theorem z_X10_isFerryHere (d : Nat) (hd : 5 ≤ d) {C : hCx} (K : hCtx C.1 C.2.2.1 d 0 0 "isFerryHere" C) (X : hOK C cX10_isFerryHere RX10 2 (some .boolean)) (l0 : Nat) (l1 : Int) (h1 : inI l1) : hSim C (some .boolean) 0 0 2 0 [(0, vR C.1.1 l0), (1, vI l1)] [] 0 0 (m_X10_isFerryHere l0 l1) := by
  obtain ⟨⟨hf, hlo⟩, ⟨hc1, hc2⟩, hf1, hl1⟩ := K_room K (by omega)
  have hcs : 0 ≤ C.2.2.2.2.1.cells ∧ 0 ≤ C.2.2.2.2.1.slots := ⟨Nat.zero_le _, Nat.zero_le _⟩
  unfold m_X10_isFerryHere
  refine s_aload_n (j := 0) (pc2 := 1) X dX10_isFerryHere_0 rfl rfl ?_
  refine s_getR (pc2 := 4) X dX10_isFerryHere_1 rfl fl_RX10_26 rfl (fun v1 => ?_)
  refine s_iconst (n := 3) (pc2 := 5) X dX10_isFerryHere_4 rfl ?_
  refine s_iald (pc2 := 6) X dX10_isFerryHere_5 rfl (fun v2 hv2 => ?_)
  refine s_iconst (n := 4) (pc2 := 7) X dX10_isFerryHere_6 rfl ?_
  refine s_icne (tgt := 17) X dX10_isFerryHere_7 (by decide) rfl hv2 (inI_c 4 rfl) ?_ ?_
  · refine s_aload_n (j := 0) (pc2 := 18) X dX10_isFerryHere_17 rfl rfl ?_
    refine s_bipush (n := 112) (pc2 := 20) X dX10_isFerryHere_18 rfl rfl ?_
    refine s_iconst (n := 2) (pc2 := 21) X dX10_isFerryHere_20 rfl ?_
    refine s_aload_n (j := 0) (pc2 := 22) X dX10_isFerryHere_21 rfl rfl ?_
    refine s_getR (pc2 := 25) X dX10_isFerryHere_22 rfl fl_RX10_26 rfl (fun v3 => ?_)
    refine s_iconst (n := 3) (pc2 := 26) X dX10_isFerryHere_25 rfl ?_
    refine s_iald (pc2 := 27) X dX10_isFerryHere_26 rfl (fun v4 hv4 => ?_)
    refine s_imul (pc2 := 28) X dX10_isFerryHere_27 rfl ?_
    refine s_iadd (pc2 := 29) X dX10_isFerryHere_28 rfl ?_
    refine s_callVZ (d2 := d - 1) (As := [vI ((w32 (112 + ((w32 (2 * v4))))))]) (st := []) (pc2 := 32) X dX10_isFerryHere_29 rfl ml_RX10_222 im_X10_areTwoHere se_X10_areTwoHere kX10 rfl (c_X10_areTwoHere (d - 1) (by omega) C.1 C.2.2.1 l0 ((w32 (112 + ((w32 (2 * v4)))))) (w32_in _)) hy_X10_areTwoHere rfl rfl hf hlo (st_room (Nat.le_of_ble_eq_true rfl)) hcs (fun v5 hv5 => ?_)
    refine s_ifne (tgt := 37) X dX10_isFerryHere_32 (by decide) rfl hv5 ?_ ?_
    · refine s_aload_n (j := 0) (pc2 := 38) X dX10_isFerryHere_37 rfl rfl ?_
      refine s_getR (pc2 := 41) X dX10_isFerryHere_38 rfl fl_RX10_26 rfl (fun v6 => ?_)
      refine s_iconst (n := 3) (pc2 := 42) X dX10_isFerryHere_41 rfl ?_
      refine s_dup2 (pc2 := 43) X dX10_isFerryHere_42 rfl rfl (vR_cat _ _) ?_
      refine s_iald (pc2 := 44) X dX10_isFerryHere_43 rfl (fun v7 hv7 => ?_)
      refine s_iconst (n := 1) (pc2 := 45) X dX10_isFerryHere_44 rfl ?_
      refine s_iadd (pc2 := 46) X dX10_isFerryHere_45 rfl ?_
      refine s_iast (pc2 := 47) X dX10_isFerryHere_46 rfl (w32_in _) ?_
      refine s_iconst (n := 1) (pc2 := 48) X dX10_isFerryHere_47 rfl ?_
      exact s_zret X dX10_isFerryHere_48
    · refine s_iconst (n := 0) (pc2 := 36) X dX10_isFerryHere_35 rfl ?_
      exact s_zret X dX10_isFerryHere_36
  · refine s_aload_n (j := 0) (pc2 := 11) X dX10_isFerryHere_10 rfl rfl ?_
    refine s_iconst (n := 4) (pc2 := 12) X dX10_isFerryHere_11 rfl ?_
    refine s_iload_n (j := 1) (pc2 := 13) X dX10_isFerryHere_12 rfl rfl ?_
    refine s_callVZ (d2 := d - 1) (As := [vI 4, vI l1]) (st := []) (pc2 := 16) X dX10_isFerryHere_13 rfl ml_RX10_111 im_X10_fails se_X10_fails kX10 rfl (c_X10_fails (d - 1) (by omega) C.1 C.2.2.1 l0 4 l1 (inI_c 4 rfl) h1) hy_X10_fails rfl rfl hf hlo (st_room (Nat.le_of_ble_eq_true rfl)) hcs (fun v8 hv8 => ?_)
    exact s_zret X dX10_isFerryHere_16
theorem c_X10_isFerryHere (d : Nat) (hd : 5 ≤ d) (G : hG) (l : Launch) (l0 : Nat) (l1 : Int) (h1 : inI l1) : hMet G l yX10_isFerryHere cX10_isFerryHere 2 (some .boolean) d 0 0 [vR G.1 l0, vI l1] (m_X10_isFerryHere l0 l1) := by
  refine hMet.of (lv := [(0, vR G.1 l0), (1, vI l1)]) (by decide +kernel) (by simp [lg_sl, vR_cat, vI_cat, vL_cat, vS_cat2, vT_cat2]) (by simp [lv_args, vR_cat, vI_cat, vL_cat, vS_cat2, vT_cat2]) (fun C K X => ?_)
  obtain ⟨rfl, rfl, K⟩ := K
  exact z_X10_isFerryHere d hd ⟨rfl, rfl, K⟩ X l0 l1 h1
def m_X10_isFrostHere_L64 : hM :=
  hretZ 0
def m_X10_isFrostHere (l0 : Nat) (l1 : Int) : hM :=
  hgR 10 l0 7 fun v1 =>
  haI 20 v1 7 fun v2 =>
  hif (v2 ≠ 4) (
hcallV 10 l0 (m_X10_passWord l0) fun _ =>
  hgR 10 l0 7 fun v3 =>
  haI 20 v3 7 fun v4 =>
  hlet ((w32 (120 + ((w32 (2 * v4)))))) fun (w5 : Int) =>
  hcallV 10 l0 (m_X10_cellHere l0 w5 0 99) fun v6 =>
  hif (v6 = 0) (
m_X10_isFrostHere_L64) (
hgR 10 l0 7 fun v7 =>
  haI 20 v7 w5 fun v8 =>
  hcallV 10 l0 (m_X10_cellHere l0 ((w32 (w5 + 1))) v8 99) fun v9 =>
  hif (v9 ≠ 0) (
hgR 10 l0 7 fun v10 =>
  haI 20 v10 7 fun v11 =>
  hsI 20 v10 7 ((w32 (v11 + 1))) <|
  hretZ 1) (
m_X10_isFrostHere_L64))) (
hcallV 10 l0 (m_X10_fails l0 4 l1) fun v12 =>
  hretZ v12)
set_option maxRecDepth 4000 in
theorem z_X10_isFrostHere_L64 (d : Nat) (hd : 4 ≤ d) {C : hCx} (K : hCtx C.1 C.2.2.1 d 0 0 "isFrostHere" C) (X : hOK C cX10_isFrostHere RX10 3 (some .boolean)) : hSim C (some .boolean) 0 0 3 64 [] [] 0 0 (m_X10_isFrostHere_L64) := by
  obtain ⟨⟨hf, hlo⟩, ⟨hc1, hc2⟩, hf1, hl1⟩ := K_room K (by omega)
  have hcs : 0 ≤ C.2.2.2.2.1.cells ∧ 0 ≤ C.2.2.2.2.1.slots := ⟨Nat.zero_le _, Nat.zero_le _⟩
  unfold m_X10_isFrostHere_L64
  refine s_iconst (n := 0) (pc2 := 65) X dX10_isFrostHere_64 rfl ?_
  exact s_zret X dX10_isFrostHere_65
set_option maxRecDepth 4000 in
set_option maxHeartbeats 20000000 in
theorem z_X10_isFrostHere (d : Nat) (hd : 4 ≤ d) {C : hCx} (K : hCtx C.1 C.2.2.1 d 0 0 "isFrostHere" C) (X : hOK C cX10_isFrostHere RX10 3 (some .boolean)) (l0 : Nat) (l1 : Int) (h1 : inI l1) : hSim C (some .boolean) 0 0 3 0 [(0, vR C.1.1 l0), (1, vI l1)] [] 0 0 (m_X10_isFrostHere l0 l1) := by
  obtain ⟨⟨hf, hlo⟩, ⟨hc1, hc2⟩, hf1, hl1⟩ := K_room K (by omega)
  have hcs : 0 ≤ C.2.2.2.2.1.cells ∧ 0 ≤ C.2.2.2.2.1.slots := ⟨Nat.zero_le _, Nat.zero_le _⟩
  unfold m_X10_isFrostHere
  refine s_aload_n (j := 0) (pc2 := 1) X dX10_isFrostHere_0 rfl rfl ?_
  refine s_getR (pc2 := 4) X dX10_isFrostHere_1 rfl fl_RX10_26 rfl (fun v1 => ?_)
  refine s_bipush (n := 7) (pc2 := 6) X dX10_isFrostHere_4 rfl rfl ?_
  refine s_iald (pc2 := 7) X dX10_isFrostHere_6 rfl (fun v2 hv2 => ?_)
  refine s_iconst (n := 4) (pc2 := 8) X dX10_isFrostHere_7 rfl ?_
  refine s_icne (tgt := 18) X dX10_isFrostHere_8 (by decide) rfl hv2 (inI_c 4 rfl) ?_ ?_
  · refine s_aload_n (j := 0) (pc2 := 19) X dX10_isFrostHere_18 rfl rfl ?_
    refine s_callVV (d2 := d - 1) (As := []) (st := []) (pc2 := 22) X dX10_isFrostHere_19 rfl ml_RX10_105 im_X10_passWord se_X10_passWord kX10 rfl (c_X10_passWord (d - 1) (by omega) C.1 C.2.2.1 l0) hy_X10_passWord rfl rfl hf hlo (st_room (Nat.le_of_ble_eq_true rfl)) hcs (fun _ => ?_)
    refine s_bipush (n := 120) (pc2 := 24) X dX10_isFrostHere_22 rfl rfl ?_
    refine s_iconst (n := 2) (pc2 := 25) X dX10_isFrostHere_24 rfl ?_
    refine s_aload_n (j := 0) (pc2 := 26) X dX10_isFrostHere_25 rfl rfl ?_
    refine s_getR (pc2 := 29) X dX10_isFrostHere_26 rfl fl_RX10_26 rfl (fun v3 => ?_)
    refine s_bipush (n := 7) (pc2 := 31) X dX10_isFrostHere_29 rfl rfl ?_
    refine s_iald (pc2 := 32) X dX10_isFrostHere_31 rfl (fun v4 hv4 => ?_)
    refine s_imul (pc2 := 33) X dX10_isFrostHere_32 rfl ?_
    refine s_iadd (pc2 := 34) X dX10_isFrostHere_33 rfl ?_
    refine s_istore_n (pc2 := 35) X dX10_isFrostHere_34 rfl (by decide) rfl rfl cat1_I (w32_in _) (fun w5 hw5 => ?_)
    refine s_aload_n (j := 1) (pc2 := 36) X dX10_isFrostHere_35 rfl rfl ?_
    refine s_iload_n (j := 0) (pc2 := 37) X dX10_isFrostHere_36 rfl rfl ?_
    refine s_iconst (n := 0) (pc2 := 38) X dX10_isFrostHere_37 rfl ?_
    refine s_bipush (n := 99) (pc2 := 40) X dX10_isFrostHere_38 rfl rfl ?_
    refine s_callVZ (d2 := d - 1) (As := [vI w5, vI 0, vI 99]) (st := []) (pc2 := 43) X dX10_isFrostHere_40 rfl ml_RX10_218 im_X10_cellHere se_X10_cellHere kX10 rfl (c_X10_cellHere (d - 1) (by omega) C.1 C.2.2.1 l0 w5 0 99 hw5 (inI_c 0 rfl) (inI_c 99 rfl)) hy_X10_cellHere rfl rfl hf hlo (st_room (Nat.le_of_ble_eq_true rfl)) hcs (fun v6 hv6 => ?_)
    refine s_ifeq (tgt := 64) X dX10_isFrostHere_43 (by decide) rfl hv6 ?_ ?_
    · refine s_sub (lv2 := []) [] rfl ?_
      exact z_X10_isFrostHere_L64 d hd K X
    · refine s_aload_n (j := 1) (pc2 := 47) X dX10_isFrostHere_46 rfl rfl ?_
      refine s_iload_n (j := 0) (pc2 := 48) X dX10_isFrostHere_47 rfl rfl ?_
      refine s_iconst (n := 1) (pc2 := 49) X dX10_isFrostHere_48 rfl ?_
      refine s_iadd (pc2 := 50) X dX10_isFrostHere_49 rfl ?_
      refine s_aload_n (j := 1) (pc2 := 51) X dX10_isFrostHere_50 rfl rfl ?_
      refine s_getR (pc2 := 54) X dX10_isFrostHere_51 rfl fl_RX10_26 rfl (fun v7 => ?_)
      refine s_iload_n (j := 0) (pc2 := 55) X dX10_isFrostHere_54 rfl rfl ?_
      refine s_iald (pc2 := 56) X dX10_isFrostHere_55 rfl (fun v8 hv8 => ?_)
      refine s_bipush (n := 99) (pc2 := 58) X dX10_isFrostHere_56 rfl rfl ?_
      refine s_callVZ (d2 := d - 1) (As := [vI ((w32 (w5 + 1))), vI v8, vI 99]) (st := []) (pc2 := 61) X dX10_isFrostHere_58 rfl ml_RX10_218 im_X10_cellHere se_X10_cellHere kX10 rfl (c_X10_cellHere (d - 1) (by omega) C.1 C.2.2.1 l0 ((w32 (w5 + 1))) v8 99 (w32_in _) hv8 (inI_c 99 rfl)) hy_X10_cellHere rfl rfl hf hlo (st_room (Nat.le_of_ble_eq_true rfl)) hcs (fun v9 hv9 => ?_)
      refine s_ifne (tgt := 66) X dX10_isFrostHere_61 (by decide) rfl hv9 ?_ ?_
      · refine s_aload_n (j := 1) (pc2 := 67) X dX10_isFrostHere_66 rfl rfl ?_
        refine s_getR (pc2 := 70) X dX10_isFrostHere_67 rfl fl_RX10_26 rfl (fun v10 => ?_)
        refine s_bipush (n := 7) (pc2 := 72) X dX10_isFrostHere_70 rfl rfl ?_
        refine s_dup2 (pc2 := 73) X dX10_isFrostHere_72 rfl rfl (vR_cat _ _) ?_
        refine s_iald (pc2 := 74) X dX10_isFrostHere_73 rfl (fun v11 hv11 => ?_)
        refine s_iconst (n := 1) (pc2 := 75) X dX10_isFrostHere_74 rfl ?_
        refine s_iadd (pc2 := 76) X dX10_isFrostHere_75 rfl ?_
        refine s_iast (pc2 := 77) X dX10_isFrostHere_76 rfl (w32_in _) ?_
        refine s_iconst (n := 1) (pc2 := 78) X dX10_isFrostHere_77 rfl ?_
        exact s_zret X dX10_isFrostHere_78
      · refine s_sub (lv2 := []) [] rfl ?_
        exact z_X10_isFrostHere_L64 d hd K X
  · refine s_aload_n (j := 0) (pc2 := 12) X dX10_isFrostHere_11 rfl rfl ?_
    refine s_iconst (n := 4) (pc2 := 13) X dX10_isFrostHere_12 rfl ?_
    refine s_iload_n (j := 1) (pc2 := 14) X dX10_isFrostHere_13 rfl rfl ?_
    refine s_callVZ (d2 := d - 1) (As := [vI 4, vI l1]) (st := []) (pc2 := 17) X dX10_isFrostHere_14 rfl ml_RX10_111 im_X10_fails se_X10_fails kX10 rfl (c_X10_fails (d - 1) (by omega) C.1 C.2.2.1 l0 4 l1 (inI_c 4 rfl) h1) hy_X10_fails rfl rfl hf hlo (st_room (Nat.le_of_ble_eq_true rfl)) hcs (fun v12 hv12 => ?_)
    exact s_zret X dX10_isFrostHere_17
theorem c_X10_isFrostHere (d : Nat) (hd : 4 ≤ d) (G : hG) (l : Launch) (l0 : Nat) (l1 : Int) (h1 : inI l1) : hMet G l yX10_isFrostHere cX10_isFrostHere 3 (some .boolean) d 0 0 [vR G.1 l0, vI l1] (m_X10_isFrostHere l0 l1) := by
  refine hMet.of (lv := [(0, vR G.1 l0), (1, vI l1)]) (by decide +kernel) (by simp [lg_sl, vR_cat, vI_cat, vL_cat, vS_cat2, vT_cat2]) (by simp [lv_args, vR_cat, vI_cat, vL_cat, vS_cat2, vT_cat2]) (fun C K X => ?_)
  obtain ⟨rfl, rfl, K⟩ := K
  exact z_X10_isFrostHere d hd ⟨rfl, rfl, K⟩ X l0 l1 h1
def m_X10_isPersonHere_L77 : Nat → Nat → Int → hM
  | 0, _, _ => hfail
  | n + 1, l0, l3 =>
    hif (l3 ≥ 9) (
hgR 10 l0 7 fun v1 =>
  haI 20 v1 4 fun v2 =>
  hsI 20 v1 4 ((w32 (v2 + 1))) <|
  hretZ 1) (
hgR 10 l0 7 fun v3 =>
  hgR 10 l0 7 fun v4 =>
  haI 20 v4 4 fun v5 =>
  hsI 20 v3 ((w32 (((w32 (22 + ((w32 (9 * v5)))))) + l3))) 0 <|
  hgR 10 l0 7 fun v6 =>
  hgR 10 l0 7 fun v7 =>
  haI 20 v7 4 fun v8 =>
  hsI 20 v6 ((w32 (((w32 (58 + ((w32 (9 * v8)))))) + l3))) 0 <|
  hlet (w32 (l3 + 1)) fun (w9 : Int) =>
  m_X10_isPersonHere_L77 n l0 w9)
def m_X10_isPersonHere (l0 : Nat) (l1 : Int) : hM :=
  hgR 10 l0 7 fun v1 =>
  haI 20 v1 4 fun v2 =>
  hif (v2 ≠ 4) (
hcallV 10 l0 (m_X10_passWord l0) fun _ =>
  hgR 10 l0 7 fun v3 =>
  haI 20 v3 4 fun v4 =>
  hlet ((w32 (10 + ((w32 (3 * v4)))))) fun (w5 : Int) =>
  hgR 10 l0 7 fun v6 =>
  haI 20 v6 0 fun v7 =>
  hcallV 10 l0 (m_X10_cellHere l0 w5 0 ((w32 (v7 - 1)))) fun v8 =>
  hif (v8 ≠ 0) (
hgR 10 l0 7 fun v9 =>
  hgR 10 l0 7 fun v10 =>
  haI 20 v10 w5 fun v11 =>
  hsI 20 v9 ((w32 (w5 + 1))) v11 <|
  hgR 10 l0 7 fun v12 =>
  hsI 20 v12 ((w32 (w5 + 2))) 0 <|
  hlet (0 : Int) fun (w13 : Int) =>
  m_X10_isPersonHere_L77 1000000000 l0 w13) (
hretZ 0)) (
hcallV 10 l0 (m_X10_fails l0 4 l1) fun v14 =>
  hretZ v14)
set_option maxRecDepth 4000 in
theorem z_X10_isPersonHere_L77 (d : Nat) (hd : 4 ≤ d) {C : hCx} (K : hCtx C.1 C.2.2.1 d 0 0 "isPersonHere" C) (X : hOK C cX10_isPersonHere RX10 4 (some .boolean)) : ∀ (n : Nat) (l0 : Nat) (l3 : Int) (h3 : inI l3), hSim C (some .boolean) 0 0 4 77 [(0, vR C.1.1 l0), (3, vI l3)] [] 0 0 (m_X10_isPersonHere_L77 n l0 l3) := by
  obtain ⟨⟨hf, hlo⟩, ⟨hc1, hc2⟩, hf1, hl1⟩ := K_room K (by omega)
  have hcs : 0 ≤ C.2.2.2.2.1.cells ∧ 0 ≤ C.2.2.2.2.1.slots := ⟨Nat.zero_le _, Nat.zero_le _⟩
  intro n
  induction n with
  | zero => intros; exact s_none (fun _ => rfl)
  | succ n ih =>
    intro l0 l3 h3
    unfold m_X10_isPersonHere_L77
    refine s_iload_n (j := 1) (pc2 := 78) X dX10_isPersonHere_77 rfl rfl ?_
    refine s_bipush (n := 9) (pc2 := 80) X dX10_isPersonHere_78 rfl rfl ?_
    refine s_icge (tgt := 129) X dX10_isPersonHere_80 (by decide) rfl h3 (inI_c 9 rfl) ?_ ?_
    · refine s_aload_n (j := 0) (pc2 := 130) X dX10_isPersonHere_129 rfl rfl ?_
      refine s_getR (pc2 := 133) X dX10_isPersonHere_130 rfl fl_RX10_26 rfl (fun v1 => ?_)
      refine s_iconst (n := 4) (pc2 := 134) X dX10_isPersonHere_133 rfl ?_
      refine s_dup2 (pc2 := 135) X dX10_isPersonHere_134 rfl rfl (vR_cat _ _) ?_
      refine s_iald (pc2 := 136) X dX10_isPersonHere_135 rfl (fun v2 hv2 => ?_)
      refine s_iconst (n := 1) (pc2 := 137) X dX10_isPersonHere_136 rfl ?_
      refine s_iadd (pc2 := 138) X dX10_isPersonHere_137 rfl ?_
      refine s_iast (pc2 := 139) X dX10_isPersonHere_138 rfl (w32_in _) ?_
      refine s_iconst (n := 1) (pc2 := 140) X dX10_isPersonHere_139 rfl ?_
      exact s_zret X dX10_isPersonHere_140
    · refine s_aload_n (j := 0) (pc2 := 84) X dX10_isPersonHere_83 rfl rfl ?_
      refine s_getR (pc2 := 87) X dX10_isPersonHere_84 rfl fl_RX10_26 rfl (fun v3 => ?_)
      refine s_bipush (n := 22) (pc2 := 89) X dX10_isPersonHere_87 rfl rfl ?_
      refine s_bipush (n := 9) (pc2 := 91) X dX10_isPersonHere_89 rfl rfl ?_
      refine s_aload_n (j := 0) (pc2 := 92) X dX10_isPersonHere_91 rfl rfl ?_
      refine s_getR (pc2 := 95) X dX10_isPersonHere_92 rfl fl_RX10_26 rfl (fun v4 => ?_)
      refine s_iconst (n := 4) (pc2 := 96) X dX10_isPersonHere_95 rfl ?_
      refine s_iald (pc2 := 97) X dX10_isPersonHere_96 rfl (fun v5 hv5 => ?_)
      refine s_imul (pc2 := 98) X dX10_isPersonHere_97 rfl ?_
      refine s_iadd (pc2 := 99) X dX10_isPersonHere_98 rfl ?_
      refine s_iload_n (j := 1) (pc2 := 100) X dX10_isPersonHere_99 rfl rfl ?_
      refine s_iadd (pc2 := 101) X dX10_isPersonHere_100 rfl ?_
      refine s_iconst (n := 0) (pc2 := 102) X dX10_isPersonHere_101 rfl ?_
      refine s_iast (pc2 := 103) X dX10_isPersonHere_102 rfl (inI_c 0 rfl) ?_
      refine s_aload_n (j := 0) (pc2 := 104) X dX10_isPersonHere_103 rfl rfl ?_
      refine s_getR (pc2 := 107) X dX10_isPersonHere_104 rfl fl_RX10_26 rfl (fun v6 => ?_)
      refine s_bipush (n := 58) (pc2 := 109) X dX10_isPersonHere_107 rfl rfl ?_
      refine s_bipush (n := 9) (pc2 := 111) X dX10_isPersonHere_109 rfl rfl ?_
      refine s_aload_n (j := 0) (pc2 := 112) X dX10_isPersonHere_111 rfl rfl ?_
      refine s_getR (pc2 := 115) X dX10_isPersonHere_112 rfl fl_RX10_26 rfl (fun v7 => ?_)
      refine s_iconst (n := 4) (pc2 := 116) X dX10_isPersonHere_115 rfl ?_
      refine s_iald (pc2 := 117) X dX10_isPersonHere_116 rfl (fun v8 hv8 => ?_)
      refine s_imul (pc2 := 118) X dX10_isPersonHere_117 rfl ?_
      refine s_iadd (pc2 := 119) X dX10_isPersonHere_118 rfl ?_
      refine s_iload_n (j := 1) (pc2 := 120) X dX10_isPersonHere_119 rfl rfl ?_
      refine s_iadd (pc2 := 121) X dX10_isPersonHere_120 rfl ?_
      refine s_iconst (n := 0) (pc2 := 122) X dX10_isPersonHere_121 rfl ?_
      refine s_iast (pc2 := 123) X dX10_isPersonHere_122 rfl (inI_c 0 rfl) ?_
      refine s_iinc (j := 1) (pc2 := 126) X dX10_isPersonHere_123 rfl (by decide) rfl rfl rfl cat1_N (fun w9 hw9 => ?_)
      refine s_goto (pc2 := 77) X dX10_isPersonHere_126 (by decide) ?_
      refine s_sub (lv2 := [(0, vR C.1.1 l0), (3, vI w9)]) [1, 0] rfl ?_
      exact ih l0 w9 hw9
set_option maxRecDepth 4000 in
set_option maxHeartbeats 20000000 in
theorem z_X10_isPersonHere (d : Nat) (hd : 4 ≤ d) {C : hCx} (K : hCtx C.1 C.2.2.1 d 0 0 "isPersonHere" C) (X : hOK C cX10_isPersonHere RX10 4 (some .boolean)) (l0 : Nat) (l1 : Int) (h1 : inI l1) : hSim C (some .boolean) 0 0 4 0 [(0, vR C.1.1 l0), (1, vI l1)] [] 0 0 (m_X10_isPersonHere l0 l1) := by
  obtain ⟨⟨hf, hlo⟩, ⟨hc1, hc2⟩, hf1, hl1⟩ := K_room K (by omega)
  have hcs : 0 ≤ C.2.2.2.2.1.cells ∧ 0 ≤ C.2.2.2.2.1.slots := ⟨Nat.zero_le _, Nat.zero_le _⟩
  unfold m_X10_isPersonHere
  refine s_aload_n (j := 0) (pc2 := 1) X dX10_isPersonHere_0 rfl rfl ?_
  refine s_getR (pc2 := 4) X dX10_isPersonHere_1 rfl fl_RX10_26 rfl (fun v1 => ?_)
  refine s_iconst (n := 4) (pc2 := 5) X dX10_isPersonHere_4 rfl ?_
  refine s_iald (pc2 := 6) X dX10_isPersonHere_5 rfl (fun v2 hv2 => ?_)
  refine s_iconst (n := 4) (pc2 := 7) X dX10_isPersonHere_6 rfl ?_
  refine s_icne (tgt := 17) X dX10_isPersonHere_7 (by decide) rfl hv2 (inI_c 4 rfl) ?_ ?_
  · refine s_aload_n (j := 0) (pc2 := 18) X dX10_isPersonHere_17 rfl rfl ?_
    refine s_callVV (d2 := d - 1) (As := []) (st := []) (pc2 := 21) X dX10_isPersonHere_18 rfl ml_RX10_105 im_X10_passWord se_X10_passWord kX10 rfl (c_X10_passWord (d - 1) (by omega) C.1 C.2.2.1 l0) hy_X10_passWord rfl rfl hf hlo (st_room (Nat.le_of_ble_eq_true rfl)) hcs (fun _ => ?_)
    refine s_bipush (n := 10) (pc2 := 23) X dX10_isPersonHere_21 rfl rfl ?_
    refine s_iconst (n := 3) (pc2 := 24) X dX10_isPersonHere_23 rfl ?_
    refine s_aload_n (j := 0) (pc2 := 25) X dX10_isPersonHere_24 rfl rfl ?_
    refine s_getR (pc2 := 28) X dX10_isPersonHere_25 rfl fl_RX10_26 rfl (fun v3 => ?_)
    refine s_iconst (n := 4) (pc2 := 29) X dX10_isPersonHere_28 rfl ?_
    refine s_iald (pc2 := 30) X dX10_isPersonHere_29 rfl (fun v4 hv4 => ?_)
    refine s_imul (pc2 := 31) X dX10_isPersonHere_30 rfl ?_
    refine s_iadd (pc2 := 32) X dX10_isPersonHere_31 rfl ?_
    refine s_istore_n (pc2 := 33) X dX10_isPersonHere_32 rfl (by decide) rfl rfl cat1_I (w32_in _) (fun w5 hw5 => ?_)
    refine s_aload_n (j := 1) (pc2 := 34) X dX10_isPersonHere_33 rfl rfl ?_
    refine s_iload_n (j := 0) (pc2 := 35) X dX10_isPersonHere_34 rfl rfl ?_
    refine s_iconst (n := 0) (pc2 := 36) X dX10_isPersonHere_35 rfl ?_
    refine s_aload_n (j := 1) (pc2 := 37) X dX10_isPersonHere_36 rfl rfl ?_
    refine s_getR (pc2 := 40) X dX10_isPersonHere_37 rfl fl_RX10_26 rfl (fun v6 => ?_)
    refine s_iconst (n := 0) (pc2 := 41) X dX10_isPersonHere_40 rfl ?_
    refine s_iald (pc2 := 42) X dX10_isPersonHere_41 rfl (fun v7 hv7 => ?_)
    refine s_iconst (n := 1) (pc2 := 43) X dX10_isPersonHere_42 rfl ?_
    refine s_isub (pc2 := 44) X dX10_isPersonHere_43 rfl ?_
    refine s_callVZ (d2 := d - 1) (As := [vI w5, vI 0, vI ((w32 (v7 - 1)))]) (st := []) (pc2 := 47) X dX10_isPersonHere_44 rfl ml_RX10_218 im_X10_cellHere se_X10_cellHere kX10 rfl (c_X10_cellHere (d - 1) (by omega) C.1 C.2.2.1 l0 w5 0 ((w32 (v7 - 1))) hw5 (inI_c 0 rfl) (w32_in _)) hy_X10_cellHere rfl rfl hf hlo (st_room (Nat.le_of_ble_eq_true rfl)) hcs (fun v8 hv8 => ?_)
    refine s_ifne (tgt := 52) X dX10_isPersonHere_47 (by decide) rfl hv8 ?_ ?_
    · refine s_aload_n (j := 1) (pc2 := 53) X dX10_isPersonHere_52 rfl rfl ?_
      refine s_getR (pc2 := 56) X dX10_isPersonHere_53 rfl fl_RX10_26 rfl (fun v9 => ?_)
      refine s_iload_n (j := 0) (pc2 := 57) X dX10_isPersonHere_56 rfl rfl ?_
      refine s_iconst (n := 1) (pc2 := 58) X dX10_isPersonHere_57 rfl ?_
      refine s_iadd (pc2 := 59) X dX10_isPersonHere_58 rfl ?_
      refine s_aload_n (j := 1) (pc2 := 60) X dX10_isPersonHere_59 rfl rfl ?_
      refine s_getR (pc2 := 63) X dX10_isPersonHere_60 rfl fl_RX10_26 rfl (fun v10 => ?_)
      refine s_iload_n (j := 0) (pc2 := 64) X dX10_isPersonHere_63 rfl rfl ?_
      refine s_iald (pc2 := 65) X dX10_isPersonHere_64 rfl (fun v11 hv11 => ?_)
      refine s_iast (pc2 := 66) X dX10_isPersonHere_65 rfl hv11 ?_
      refine s_aload_n (j := 1) (pc2 := 67) X dX10_isPersonHere_66 rfl rfl ?_
      refine s_getR (pc2 := 70) X dX10_isPersonHere_67 rfl fl_RX10_26 rfl (fun v12 => ?_)
      refine s_iload_n (j := 0) (pc2 := 71) X dX10_isPersonHere_70 rfl rfl ?_
      refine s_iconst (n := 2) (pc2 := 72) X dX10_isPersonHere_71 rfl ?_
      refine s_iadd (pc2 := 73) X dX10_isPersonHere_72 rfl ?_
      refine s_iconst (n := 0) (pc2 := 74) X dX10_isPersonHere_73 rfl ?_
      refine s_iast (pc2 := 75) X dX10_isPersonHere_74 rfl (inI_c 0 rfl) ?_
      refine s_iconst (n := 0) (pc2 := 76) X dX10_isPersonHere_75 rfl ?_
      refine s_istore_n (pc2 := 77) X dX10_isPersonHere_76 rfl (by decide) rfl rfl cat1_I (inI_c 0 rfl) (fun w13 hw13 => ?_)
      refine s_sub (lv2 := [(0, vR C.1.1 l0), (3, vI w13)]) [2, 0] rfl ?_
      exact z_X10_isPersonHere_L77 d hd K X 1000000000 l0 w13 hw13
    · refine s_iconst (n := 0) (pc2 := 51) X dX10_isPersonHere_50 rfl ?_
      exact s_zret X dX10_isPersonHere_51
  · refine s_aload_n (j := 0) (pc2 := 11) X dX10_isPersonHere_10 rfl rfl ?_
    refine s_iconst (n := 4) (pc2 := 12) X dX10_isPersonHere_11 rfl ?_
    refine s_iload_n (j := 1) (pc2 := 13) X dX10_isPersonHere_12 rfl rfl ?_
    refine s_callVZ (d2 := d - 1) (As := [vI 4, vI l1]) (st := []) (pc2 := 16) X dX10_isPersonHere_13 rfl ml_RX10_111 im_X10_fails se_X10_fails kX10 rfl (c_X10_fails (d - 1) (by omega) C.1 C.2.2.1 l0 4 l1 (inI_c 4 rfl) h1) hy_X10_fails rfl rfl hf hlo (st_room (Nat.le_of_ble_eq_true rfl)) hcs (fun v14 hv14 => ?_)
    exact s_zret X dX10_isPersonHere_16
theorem c_X10_isPersonHere (d : Nat) (hd : 4 ≤ d) (G : hG) (l : Launch) (l0 : Nat) (l1 : Int) (h1 : inI l1) : hMet G l yX10_isPersonHere cX10_isPersonHere 4 (some .boolean) d 0 0 [vR G.1 l0, vI l1] (m_X10_isPersonHere l0 l1) := by
  refine hMet.of (lv := [(0, vR G.1 l0), (1, vI l1)]) (by decide +kernel) (by simp [lg_sl, vR_cat, vI_cat, vL_cat, vS_cat2, vT_cat2]) (by simp [lv_args, vR_cat, vI_cat, vL_cat, vS_cat2, vT_cat2]) (fun C K X => ?_)
  obtain ⟨rfl, rfl, K⟩ := K
  exact z_X10_isPersonHere d hd ⟨rfl, rfl, K⟩ X l0 l1 h1
def m_X10_areCrossingsHere (l0 : Nat) : hM :=
  hcallV 10 l0 (m_X10_passWord l0) fun _ =>
  hgR 10 l0 7 fun v1 =>
  haI 20 v1 4 fun v2 =>
  hcallV 10 l0 (m_X10_numberHere l0 0 ((w32 (v2 - 1)))) fun v3 =>
  hif (v3 ≠ 0) (
hgI 10 l0 10 fun v4 =>
  hlet ((w32 (22 + ((w32 (9 * v4)))))) fun (w5 : Int) =>
  hgR 10 l0 7 fun v6 =>
  haI 20 v6 2 fun v7 =>
  hcallV 10 l0 (m_X10_numberHere l0 0 ((w32 (v7 - 1)))) fun v8 =>
  hif (v8 ≠ 0) (
hgI 10 l0 10 fun v9 =>
  hgR 10 l0 7 fun v10 =>
  haI 20 v10 1 fun v11 =>
  hcallV 10 l0 (m_X10_cellHere l0 ((w32 (w5 + v9))) 0 v11) fun v12 =>
  hretZ v12) (
hretZ 0)) (
hretZ 0)
set_option maxRecDepth 4000 in
set_option maxHeartbeats 20000000 in
theorem z_X10_areCrossingsHere (d : Nat) (hd : 4 ≤ d) {C : hCx} (K : hCtx C.1 C.2.2.1 d 0 0 "areCrossingsHere" C) (X : hOK C cX10_areCrossingsHere RX10 2 (some .boolean)) (l0 : Nat) : hSim C (some .boolean) 0 0 2 0 [(0, vR C.1.1 l0)] [] 0 0 (m_X10_areCrossingsHere l0) := by
  obtain ⟨⟨hf, hlo⟩, ⟨hc1, hc2⟩, hf1, hl1⟩ := K_room K (by omega)
  have hcs : 0 ≤ C.2.2.2.2.1.cells ∧ 0 ≤ C.2.2.2.2.1.slots := ⟨Nat.zero_le _, Nat.zero_le _⟩
  unfold m_X10_areCrossingsHere
  refine s_aload_n (j := 0) (pc2 := 1) X dX10_areCrossingsHere_0 rfl rfl ?_
  refine s_callVV (d2 := d - 1) (As := []) (st := []) (pc2 := 4) X dX10_areCrossingsHere_1 rfl ml_RX10_105 im_X10_passWord se_X10_passWord kX10 rfl (c_X10_passWord (d - 1) (by omega) C.1 C.2.2.1 l0) hy_X10_passWord rfl rfl hf hlo (st_room (Nat.le_of_ble_eq_true rfl)) hcs (fun _ => ?_)
  refine s_aload_n (j := 0) (pc2 := 5) X dX10_areCrossingsHere_4 rfl rfl ?_
  refine s_iconst (n := 0) (pc2 := 6) X dX10_areCrossingsHere_5 rfl ?_
  refine s_aload_n (j := 0) (pc2 := 7) X dX10_areCrossingsHere_6 rfl rfl ?_
  refine s_getR (pc2 := 10) X dX10_areCrossingsHere_7 rfl fl_RX10_26 rfl (fun v1 => ?_)
  refine s_iconst (n := 4) (pc2 := 11) X dX10_areCrossingsHere_10 rfl ?_
  refine s_iald (pc2 := 12) X dX10_areCrossingsHere_11 rfl (fun v2 hv2 => ?_)
  refine s_iconst (n := 1) (pc2 := 13) X dX10_areCrossingsHere_12 rfl ?_
  refine s_isub (pc2 := 14) X dX10_areCrossingsHere_13 rfl ?_
  refine s_callVZ (d2 := d - 1) (As := [vI 0, vI ((w32 (v2 - 1)))]) (st := []) (pc2 := 17) X dX10_areCrossingsHere_14 rfl ml_RX10_167 im_X10_numberHere se_X10_numberHere kX10 rfl (c_X10_numberHere (d - 1) (by omega) C.1 C.2.2.1 l0 0 ((w32 (v2 - 1))) (inI_c 0 rfl) (w32_in _)) hy_X10_numberHere rfl rfl hf hlo (st_room (Nat.le_of_ble_eq_true rfl)) hcs (fun v3 hv3 => ?_)
  refine s_ifne (tgt := 22) X dX10_areCrossingsHere_17 (by decide) rfl hv3 ?_ ?_
  · refine s_bipush (n := 22) (pc2 := 24) X dX10_areCrossingsHere_22 rfl rfl ?_
    refine s_bipush (n := 9) (pc2 := 26) X dX10_areCrossingsHere_24 rfl rfl ?_
    refine s_aload_n (j := 0) (pc2 := 27) X dX10_areCrossingsHere_26 rfl rfl ?_
    refine s_getI (pc2 := 30) X dX10_areCrossingsHere_27 rfl fl_RX10_115 rfl (fun v4 hv4 => ?_)
    refine s_imul (pc2 := 31) X dX10_areCrossingsHere_30 rfl ?_
    refine s_iadd (pc2 := 32) X dX10_areCrossingsHere_31 rfl ?_
    refine s_istore_n (pc2 := 33) X dX10_areCrossingsHere_32 rfl (by decide) rfl rfl cat1_R (w32_in _) (fun w5 hw5 => ?_)
    refine s_aload_n (j := 1) (pc2 := 34) X dX10_areCrossingsHere_33 rfl rfl ?_
    refine s_iconst (n := 0) (pc2 := 35) X dX10_areCrossingsHere_34 rfl ?_
    refine s_aload_n (j := 1) (pc2 := 36) X dX10_areCrossingsHere_35 rfl rfl ?_
    refine s_getR (pc2 := 39) X dX10_areCrossingsHere_36 rfl fl_RX10_26 rfl (fun v6 => ?_)
    refine s_iconst (n := 2) (pc2 := 40) X dX10_areCrossingsHere_39 rfl ?_
    refine s_iald (pc2 := 41) X dX10_areCrossingsHere_40 rfl (fun v7 hv7 => ?_)
    refine s_iconst (n := 1) (pc2 := 42) X dX10_areCrossingsHere_41 rfl ?_
    refine s_isub (pc2 := 43) X dX10_areCrossingsHere_42 rfl ?_
    refine s_callVZ (d2 := d - 1) (As := [vI 0, vI ((w32 (v7 - 1)))]) (st := []) (pc2 := 46) X dX10_areCrossingsHere_43 rfl ml_RX10_167 im_X10_numberHere se_X10_numberHere kX10 rfl (c_X10_numberHere (d - 1) (by omega) C.1 C.2.2.1 l0 0 ((w32 (v7 - 1))) (inI_c 0 rfl) (w32_in _)) hy_X10_numberHere rfl rfl hf hlo (st_room (Nat.le_of_ble_eq_true rfl)) hcs (fun v8 hv8 => ?_)
    refine s_ifne (tgt := 51) X dX10_areCrossingsHere_46 (by decide) rfl hv8 ?_ ?_
    · refine s_aload_n (j := 1) (pc2 := 52) X dX10_areCrossingsHere_51 rfl rfl ?_
      refine s_iload_n (j := 0) (pc2 := 53) X dX10_areCrossingsHere_52 rfl rfl ?_
      refine s_aload_n (j := 1) (pc2 := 54) X dX10_areCrossingsHere_53 rfl rfl ?_
      refine s_getI (pc2 := 57) X dX10_areCrossingsHere_54 rfl fl_RX10_115 rfl (fun v9 hv9 => ?_)
      refine s_iadd (pc2 := 58) X dX10_areCrossingsHere_57 rfl ?_
      refine s_iconst (n := 0) (pc2 := 59) X dX10_areCrossingsHere_58 rfl ?_
      refine s_aload_n (j := 1) (pc2 := 60) X dX10_areCrossingsHere_59 rfl rfl ?_
      refine s_getR (pc2 := 63) X dX10_areCrossingsHere_60 rfl fl_RX10_26 rfl (fun v10 => ?_)
      refine s_iconst (n := 1) (pc2 := 64) X dX10_areCrossingsHere_63 rfl ?_
      refine s_iald (pc2 := 65) X dX10_areCrossingsHere_64 rfl (fun v11 hv11 => ?_)
      refine s_callVZ (d2 := d - 1) (As := [vI ((w32 (w5 + v9))), vI 0, vI v11]) (st := []) (pc2 := 68) X dX10_areCrossingsHere_65 rfl ml_RX10_218 im_X10_cellHere se_X10_cellHere kX10 rfl (c_X10_cellHere (d - 1) (by omega) C.1 C.2.2.1 l0 ((w32 (w5 + v9))) 0 v11 (w32_in _) (inI_c 0 rfl) hv11) hy_X10_cellHere rfl rfl hf hlo (st_room (Nat.le_of_ble_eq_true rfl)) hcs (fun v12 hv12 => ?_)
      exact s_zret X dX10_areCrossingsHere_68
    · refine s_iconst (n := 0) (pc2 := 50) X dX10_areCrossingsHere_49 rfl ?_
      exact s_zret X dX10_areCrossingsHere_50
  · refine s_iconst (n := 0) (pc2 := 21) X dX10_areCrossingsHere_20 rfl ?_
    exact s_zret X dX10_areCrossingsHere_21
theorem c_X10_areCrossingsHere (d : Nat) (hd : 4 ≤ d) (G : hG) (l : Launch) (l0 : Nat) : hMet G l yX10_areCrossingsHere cX10_areCrossingsHere 2 (some .boolean) d 0 0 [vR G.1 l0] (m_X10_areCrossingsHere l0) := by
  refine hMet.of (lv := [(0, vR G.1 l0)]) (by decide +kernel) (by simp [lg_sl, vR_cat, vI_cat, vL_cat, vS_cat2, vT_cat2]) (by simp [lv_args, vR_cat, vI_cat, vL_cat, vS_cat2, vT_cat2]) (fun C K X => ?_)
  obtain ⟨rfl, rfl, K⟩ := K
  exact z_X10_areCrossingsHere d hd ⟨rfl, rfl, K⟩ X l0
def m_X10_isWantHere_L97 : hM :=
  hretZ 0
def m_X10_isWantHere (l0 : Nat) (l1 : Int) : hM :=
  hgR 10 l0 7 fun v1 =>
  haI 20 v1 5 fun v2 =>
  hif (v2 ≠ 8) (
hcallV 10 l0 (m_X10_passWord l0) fun _ =>
  hgR 10 l0 7 fun v3 =>
  haI 20 v3 5 fun v4 =>
  hlet ((w32 (128 + ((w32 (4 * v4)))))) fun (w5 : Int) =>
  hgR 10 l0 7 fun v6 =>
  haI 20 v6 4 fun v7 =>
  hcallV 10 l0 (m_X10_cellHere l0 w5 0 ((w32 (v7 - 1)))) fun v8 =>
  hif (v8 = 0) (
m_X10_isWantHere_L97) (
hgR 10 l0 7 fun v9 =>
  haI 20 v9 0 fun v10 =>
  hcallV 10 l0 (m_X10_cellHere l0 ((w32 (w5 + 1))) 0 ((w32 (v10 - 1)))) fun v11 =>
  hif (v11 = 0) (
m_X10_isWantHere_L97) (
hcallV 10 l0 (m_X10_cellHere l0 ((w32 (w5 + 2))) 0 99) fun v12 =>
  hif (v12 = 0) (
m_X10_isWantHere_L97) (
hcallV 10 l0 (m_X10_cellHere l0 ((w32 (w5 + 3))) 1 50) fun v13 =>
  hif (v13 ≠ 0) (
hgR 10 l0 7 fun v14 =>
  haI 20 v14 5 fun v15 =>
  hsI 20 v14 5 ((w32 (v15 + 1))) <|
  hretZ 1) (
m_X10_isWantHere_L97))))) (
hcallV 10 l0 (m_X10_fails l0 4 l1) fun v16 =>
  hretZ v16)
set_option maxRecDepth 4000 in
theorem z_X10_isWantHere_L97 (d : Nat) (hd : 4 ≤ d) {C : hCx} (K : hCtx C.1 C.2.2.1 d 0 0 "isWantHere" C) (X : hOK C cX10_isWantHere RX10 3 (some .boolean)) : hSim C (some .boolean) 0 0 3 97 [] [] 0 0 (m_X10_isWantHere_L97) := by
  obtain ⟨⟨hf, hlo⟩, ⟨hc1, hc2⟩, hf1, hl1⟩ := K_room K (by omega)
  have hcs : 0 ≤ C.2.2.2.2.1.cells ∧ 0 ≤ C.2.2.2.2.1.slots := ⟨Nat.zero_le _, Nat.zero_le _⟩
  unfold m_X10_isWantHere_L97
  refine s_iconst (n := 0) (pc2 := 98) X dX10_isWantHere_97 rfl ?_
  exact s_zret X dX10_isWantHere_98
set_option maxRecDepth 4000 in
set_option maxHeartbeats 20000000 in
theorem z_X10_isWantHere (d : Nat) (hd : 4 ≤ d) {C : hCx} (K : hCtx C.1 C.2.2.1 d 0 0 "isWantHere" C) (X : hOK C cX10_isWantHere RX10 3 (some .boolean)) (l0 : Nat) (l1 : Int) (h1 : inI l1) : hSim C (some .boolean) 0 0 3 0 [(0, vR C.1.1 l0), (1, vI l1)] [] 0 0 (m_X10_isWantHere l0 l1) := by
  obtain ⟨⟨hf, hlo⟩, ⟨hc1, hc2⟩, hf1, hl1⟩ := K_room K (by omega)
  have hcs : 0 ≤ C.2.2.2.2.1.cells ∧ 0 ≤ C.2.2.2.2.1.slots := ⟨Nat.zero_le _, Nat.zero_le _⟩
  unfold m_X10_isWantHere
  refine s_aload_n (j := 0) (pc2 := 1) X dX10_isWantHere_0 rfl rfl ?_
  refine s_getR (pc2 := 4) X dX10_isWantHere_1 rfl fl_RX10_26 rfl (fun v1 => ?_)
  refine s_iconst (n := 5) (pc2 := 5) X dX10_isWantHere_4 rfl ?_
  refine s_iald (pc2 := 6) X dX10_isWantHere_5 rfl (fun v2 hv2 => ?_)
  refine s_bipush (n := 8) (pc2 := 8) X dX10_isWantHere_6 rfl rfl ?_
  refine s_icne (tgt := 18) X dX10_isWantHere_8 (by decide) rfl hv2 (inI_c 8 rfl) ?_ ?_
  · refine s_aload_n (j := 0) (pc2 := 19) X dX10_isWantHere_18 rfl rfl ?_
    refine s_callVV (d2 := d - 1) (As := []) (st := []) (pc2 := 22) X dX10_isWantHere_19 rfl ml_RX10_105 im_X10_passWord se_X10_passWord kX10 rfl (c_X10_passWord (d - 1) (by omega) C.1 C.2.2.1 l0) hy_X10_passWord rfl rfl hf hlo (st_room (Nat.le_of_ble_eq_true rfl)) hcs (fun _ => ?_)
    refine s_sipush (n := 128) (pc2 := 25) X dX10_isWantHere_22 rfl rfl ?_
    refine s_iconst (n := 4) (pc2 := 26) X dX10_isWantHere_25 rfl ?_
    refine s_aload_n (j := 0) (pc2 := 27) X dX10_isWantHere_26 rfl rfl ?_
    refine s_getR (pc2 := 30) X dX10_isWantHere_27 rfl fl_RX10_26 rfl (fun v3 => ?_)
    refine s_iconst (n := 5) (pc2 := 31) X dX10_isWantHere_30 rfl ?_
    refine s_iald (pc2 := 32) X dX10_isWantHere_31 rfl (fun v4 hv4 => ?_)
    refine s_imul (pc2 := 33) X dX10_isWantHere_32 rfl ?_
    refine s_iadd (pc2 := 34) X dX10_isWantHere_33 rfl ?_
    refine s_istore_n (pc2 := 35) X dX10_isWantHere_34 rfl (by decide) rfl rfl cat1_I (w32_in _) (fun w5 hw5 => ?_)
    refine s_aload_n (j := 1) (pc2 := 36) X dX10_isWantHere_35 rfl rfl ?_
    refine s_iload_n (j := 0) (pc2 := 37) X dX10_isWantHere_36 rfl rfl ?_
    refine s_iconst (n := 0) (pc2 := 38) X dX10_isWantHere_37 rfl ?_
    refine s_aload_n (j := 1) (pc2 := 39) X dX10_isWantHere_38 rfl rfl ?_
    refine s_getR (pc2 := 42) X dX10_isWantHere_39 rfl fl_RX10_26 rfl (fun v6 => ?_)
    refine s_iconst (n := 4) (pc2 := 43) X dX10_isWantHere_42 rfl ?_
    refine s_iald (pc2 := 44) X dX10_isWantHere_43 rfl (fun v7 hv7 => ?_)
    refine s_iconst (n := 1) (pc2 := 45) X dX10_isWantHere_44 rfl ?_
    refine s_isub (pc2 := 46) X dX10_isWantHere_45 rfl ?_
    refine s_callVZ (d2 := d - 1) (As := [vI w5, vI 0, vI ((w32 (v7 - 1)))]) (st := []) (pc2 := 49) X dX10_isWantHere_46 rfl ml_RX10_218 im_X10_cellHere se_X10_cellHere kX10 rfl (c_X10_cellHere (d - 1) (by omega) C.1 C.2.2.1 l0 w5 0 ((w32 (v7 - 1))) hw5 (inI_c 0 rfl) (w32_in _)) hy_X10_cellHere rfl rfl hf hlo (st_room (Nat.le_of_ble_eq_true rfl)) hcs (fun v8 hv8 => ?_)
    refine s_ifeq (tgt := 97) X dX10_isWantHere_49 (by decide) rfl hv8 ?_ ?_
    · refine s_sub (lv2 := []) [] rfl ?_
      exact z_X10_isWantHere_L97 d hd K X
    · refine s_aload_n (j := 1) (pc2 := 53) X dX10_isWantHere_52 rfl rfl ?_
      refine s_iload_n (j := 0) (pc2 := 54) X dX10_isWantHere_53 rfl rfl ?_
      refine s_iconst (n := 1) (pc2 := 55) X dX10_isWantHere_54 rfl ?_
      refine s_iadd (pc2 := 56) X dX10_isWantHere_55 rfl ?_
      refine s_iconst (n := 0) (pc2 := 57) X dX10_isWantHere_56 rfl ?_
      refine s_aload_n (j := 1) (pc2 := 58) X dX10_isWantHere_57 rfl rfl ?_
      refine s_getR (pc2 := 61) X dX10_isWantHere_58 rfl fl_RX10_26 rfl (fun v9 => ?_)
      refine s_iconst (n := 0) (pc2 := 62) X dX10_isWantHere_61 rfl ?_
      refine s_iald (pc2 := 63) X dX10_isWantHere_62 rfl (fun v10 hv10 => ?_)
      refine s_iconst (n := 1) (pc2 := 64) X dX10_isWantHere_63 rfl ?_
      refine s_isub (pc2 := 65) X dX10_isWantHere_64 rfl ?_
      refine s_callVZ (d2 := d - 1) (As := [vI ((w32 (w5 + 1))), vI 0, vI ((w32 (v10 - 1)))]) (st := []) (pc2 := 68) X dX10_isWantHere_65 rfl ml_RX10_218 im_X10_cellHere se_X10_cellHere kX10 rfl (c_X10_cellHere (d - 1) (by omega) C.1 C.2.2.1 l0 ((w32 (w5 + 1))) 0 ((w32 (v10 - 1))) (w32_in _) (inI_c 0 rfl) (w32_in _)) hy_X10_cellHere rfl rfl hf hlo (st_room (Nat.le_of_ble_eq_true rfl)) hcs (fun v11 hv11 => ?_)
      refine s_ifeq (tgt := 97) X dX10_isWantHere_68 (by decide) rfl hv11 ?_ ?_
      · refine s_sub (lv2 := []) [] rfl ?_
        exact z_X10_isWantHere_L97 d hd K X
      · refine s_aload_n (j := 1) (pc2 := 72) X dX10_isWantHere_71 rfl rfl ?_
        refine s_iload_n (j := 0) (pc2 := 73) X dX10_isWantHere_72 rfl rfl ?_
        refine s_iconst (n := 2) (pc2 := 74) X dX10_isWantHere_73 rfl ?_
        refine s_iadd (pc2 := 75) X dX10_isWantHere_74 rfl ?_
        refine s_iconst (n := 0) (pc2 := 76) X dX10_isWantHere_75 rfl ?_
        refine s_bipush (n := 99) (pc2 := 78) X dX10_isWantHere_76 rfl rfl ?_
        refine s_callVZ (d2 := d - 1) (As := [vI ((w32 (w5 + 2))), vI 0, vI 99]) (st := []) (pc2 := 81) X dX10_isWantHere_78 rfl ml_RX10_218 im_X10_cellHere se_X10_cellHere kX10 rfl (c_X10_cellHere (d - 1) (by omega) C.1 C.2.2.1 l0 ((w32 (w5 + 2))) 0 99 (w32_in _) (inI_c 0 rfl) (inI_c 99 rfl)) hy_X10_cellHere rfl rfl hf hlo (st_room (Nat.le_of_ble_eq_true rfl)) hcs (fun v12 hv12 => ?_)
        refine s_ifeq (tgt := 97) X dX10_isWantHere_81 (by decide) rfl hv12 ?_ ?_
        · refine s_sub (lv2 := []) [] rfl ?_
          exact z_X10_isWantHere_L97 d hd K X
        · refine s_aload_n (j := 1) (pc2 := 85) X dX10_isWantHere_84 rfl rfl ?_
          refine s_iload_n (j := 0) (pc2 := 86) X dX10_isWantHere_85 rfl rfl ?_
          refine s_iconst (n := 3) (pc2 := 87) X dX10_isWantHere_86 rfl ?_
          refine s_iadd (pc2 := 88) X dX10_isWantHere_87 rfl ?_
          refine s_iconst (n := 1) (pc2 := 89) X dX10_isWantHere_88 rfl ?_
          refine s_bipush (n := 50) (pc2 := 91) X dX10_isWantHere_89 rfl rfl ?_
          refine s_callVZ (d2 := d - 1) (As := [vI ((w32 (w5 + 3))), vI 1, vI 50]) (st := []) (pc2 := 94) X dX10_isWantHere_91 rfl ml_RX10_218 im_X10_cellHere se_X10_cellHere kX10 rfl (c_X10_cellHere (d - 1) (by omega) C.1 C.2.2.1 l0 ((w32 (w5 + 3))) 1 50 (w32_in _) (inI_c 1 rfl) (inI_c 50 rfl)) hy_X10_cellHere rfl rfl hf hlo (st_room (Nat.le_of_ble_eq_true rfl)) hcs (fun v13 hv13 => ?_)
          refine s_ifne (tgt := 99) X dX10_isWantHere_94 (by decide) rfl hv13 ?_ ?_
          · refine s_aload_n (j := 1) (pc2 := 100) X dX10_isWantHere_99 rfl rfl ?_
            refine s_getR (pc2 := 103) X dX10_isWantHere_100 rfl fl_RX10_26 rfl (fun v14 => ?_)
            refine s_iconst (n := 5) (pc2 := 104) X dX10_isWantHere_103 rfl ?_
            refine s_dup2 (pc2 := 105) X dX10_isWantHere_104 rfl rfl (vR_cat _ _) ?_
            refine s_iald (pc2 := 106) X dX10_isWantHere_105 rfl (fun v15 hv15 => ?_)
            refine s_iconst (n := 1) (pc2 := 107) X dX10_isWantHere_106 rfl ?_
            refine s_iadd (pc2 := 108) X dX10_isWantHere_107 rfl ?_
            refine s_iast (pc2 := 109) X dX10_isWantHere_108 rfl (w32_in _) ?_
            refine s_iconst (n := 1) (pc2 := 110) X dX10_isWantHere_109 rfl ?_
            exact s_zret X dX10_isWantHere_110
          · refine s_sub (lv2 := []) [] rfl ?_
            exact z_X10_isWantHere_L97 d hd K X
  · refine s_aload_n (j := 0) (pc2 := 12) X dX10_isWantHere_11 rfl rfl ?_
    refine s_iconst (n := 4) (pc2 := 13) X dX10_isWantHere_12 rfl ?_
    refine s_iload_n (j := 1) (pc2 := 14) X dX10_isWantHere_13 rfl rfl ?_
    refine s_callVZ (d2 := d - 1) (As := [vI 4, vI l1]) (st := []) (pc2 := 17) X dX10_isWantHere_14 rfl ml_RX10_111 im_X10_fails se_X10_fails kX10 rfl (c_X10_fails (d - 1) (by omega) C.1 C.2.2.1 l0 4 l1 (inI_c 4 rfl) h1) hy_X10_fails rfl rfl hf hlo (st_room (Nat.le_of_ble_eq_true rfl)) hcs (fun v16 hv16 => ?_)
    exact s_zret X dX10_isWantHere_17
theorem c_X10_isWantHere (d : Nat) (hd : 4 ≤ d) (G : hG) (l : Launch) (l0 : Nat) (l1 : Int) (h1 : inI l1) : hMet G l yX10_isWantHere cX10_isWantHere 3 (some .boolean) d 0 0 [vR G.1 l0, vI l1] (m_X10_isWantHere l0 l1) := by
  refine hMet.of (lv := [(0, vR G.1 l0), (1, vI l1)]) (by decide +kernel) (by simp [lg_sl, vR_cat, vI_cat, vL_cat, vS_cat2, vT_cat2]) (by simp [lv_args, vR_cat, vI_cat, vL_cat, vS_cat2, vT_cat2]) (fun C K X => ?_)
  obtain ⟨rfl, rfl, K⟩ := K
  exact z_X10_isWantHere d hd ⟨rfl, rfl, K⟩ X l0 l1 h1
def m_X10_townLineHere_L118 (s0 : Int) : hM :=
  hretZ s0
def m_X10_townLineHere (l0 : Nat) (l1 : Int) : hM :=
  hcallV 10 l0 (m_X10_isWord l0 1953462126) fun v1 =>
  hif (v1 = 0) (
hgR 10 l0 7 fun v2 =>
  haI 20 v2 0 fun v3 =>
  hif (v3 ≠ 0) (
hcallV 10 l0 (m_X10_isWord l0 108243533981541) fun v4 =>
  hif (v4 = 0) (
hcallV 10 l0 (m_X10_isWord l0 439788663417) fun v5 =>
  hif (v5 = 0) (
hcallV 10 l0 (m_X10_isWord l0 440006570868) fun v6 =>
  hif (v6 = 0) (
hcallV 10 l0 (m_X10_isWord l0 123581014175598) fun v7 =>
  hif (v7 = 0) (
hcallV 10 l0 (m_X10_isWord l0 27991845698233700) fun v8 =>
  hif (v8 = 0) (
hcallV 10 l0 (m_X10_isWantHere l0 l1) fun v9 =>
  m_X10_townLineHere_L118 v9) (
hcallV 10 l0 (m_X10_areCrossingsHere l0) fun v10 =>
  m_X10_townLineHere_L118 v10)) (
hcallV 10 l0 (m_X10_isPersonHere l0 l1) fun v11 =>
  hretZ v11)) (
hcallV 10 l0 (m_X10_isFrostHere l0 l1) fun v12 =>
  hretZ v12)) (
hcallV 10 l0 (m_X10_isFerryHere l0 l1) fun v13 =>
  hretZ v13)) (
hcallV 10 l0 (m_X10_isBridgeHere l0 l1) fun v14 =>
  hretZ v14)) (
hcallV 10 l0 (m_X10_fails l0 4 l1) fun v15 =>
  hretZ v15)) (
hcallV 10 l0 (m_X10_isTownHere l0 l1) fun v16 =>
  hretZ v16)
set_option maxRecDepth 4000 in
theorem z_X10_townLineHere_L118 (d : Nat) (hd : 6 ≤ d) {C : hCx} (K : hCtx C.1 C.2.2.1 d 0 0 "townLineHere" C) (X : hOK C cX10_townLineHere RX10 2 (some .boolean)) (s0 : Int) (g0 : inI s0) : hSim C (some .boolean) 0 0 2 118 [] [vI s0] 0 0 (m_X10_townLineHere_L118 s0) := by
  obtain ⟨⟨hf, hlo⟩, ⟨hc1, hc2⟩, hf1, hl1⟩ := K_room K (by omega)
  have hcs : 0 ≤ C.2.2.2.2.1.cells ∧ 0 ≤ C.2.2.2.2.1.slots := ⟨Nat.zero_le _, Nat.zero_le _⟩
  unfold m_X10_townLineHere_L118
  exact s_zret X dX10_townLineHere_118
set_option maxRecDepth 4000 in
set_option maxHeartbeats 20000000 in
theorem z_X10_townLineHere (d : Nat) (hd : 6 ≤ d) {C : hCx} (K : hCtx C.1 C.2.2.1 d 0 0 "townLineHere" C) (X : hOK C cX10_townLineHere RX10 2 (some .boolean)) (l0 : Nat) (l1 : Int) (h1 : inI l1) : hSim C (some .boolean) 0 0 2 0 [(0, vR C.1.1 l0), (1, vI l1)] [] 0 0 (m_X10_townLineHere l0 l1) := by
  obtain ⟨⟨hf, hlo⟩, ⟨hc1, hc2⟩, hf1, hl1⟩ := K_room K (by omega)
  have hcs : 0 ≤ C.2.2.2.2.1.cells ∧ 0 ≤ C.2.2.2.2.1.slots := ⟨Nat.zero_le _, Nat.zero_le _⟩
  unfold m_X10_townLineHere
  refine s_aload_n (j := 0) (pc2 := 1) X dX10_townLineHere_0 rfl rfl ?_
  refine s_ldc2 (z := 1953462126) (pc2 := 4) X dX10_townLineHere_1 rfl kc_RX10_225 ?_
  refine s_callVZ (d2 := d - 1) (As := [vL 1953462126]) (st := []) (pc2 := 7) X dX10_townLineHere_4 rfl ml_RX10_101 im_X10_isWord se_X10_isWord kX10 rfl (c_X10_isWord (d - 1) (by omega) C.1 C.2.2.1 l0 1953462126 (inL_c 1953462126 rfl)) hy_X10_isWord rfl rfl hf hlo (st_room (Nat.le_of_ble_eq_true rfl)) hcs (fun v1 hv1 => ?_)
  refine s_ifeq (tgt := 16) X dX10_townLineHere_7 (by decide) rfl hv1 ?_ ?_
  · refine s_aload_n (j := 0) (pc2 := 17) X dX10_townLineHere_16 rfl rfl ?_
    refine s_getR (pc2 := 20) X dX10_townLineHere_17 rfl fl_RX10_26 rfl (fun v2 => ?_)
    refine s_iconst (n := 0) (pc2 := 21) X dX10_townLineHere_20 rfl ?_
    refine s_iald (pc2 := 22) X dX10_townLineHere_21 rfl (fun v3 hv3 => ?_)
    refine s_ifne (tgt := 32) X dX10_townLineHere_22 (by decide) rfl hv3 ?_ ?_
    · refine s_aload_n (j := 0) (pc2 := 33) X dX10_townLineHere_32 rfl rfl ?_
      refine s_ldc2 (z := 108243533981541) (pc2 := 36) X dX10_townLineHere_33 rfl kc_RX10_124 ?_
      refine s_callVZ (d2 := d - 1) (As := [vL 108243533981541]) (st := []) (pc2 := 39) X dX10_townLineHere_36 rfl ml_RX10_101 im_X10_isWord se_X10_isWord kX10 rfl (c_X10_isWord (d - 1) (by omega) C.1 C.2.2.1 l0 108243533981541 (inL_c 108243533981541 rfl)) hy_X10_isWord rfl rfl hf hlo (st_room (Nat.le_of_ble_eq_true rfl)) hcs (fun v4 hv4 => ?_)
      refine s_ifeq (tgt := 48) X dX10_townLineHere_39 (by decide) rfl hv4 ?_ ?_
      · refine s_aload_n (j := 0) (pc2 := 49) X dX10_townLineHere_48 rfl rfl ?_
        refine s_ldc2 (z := 439788663417) (pc2 := 52) X dX10_townLineHere_49 rfl kc_RX10_233 ?_
        refine s_callVZ (d2 := d - 1) (As := [vL 439788663417]) (st := []) (pc2 := 55) X dX10_townLineHere_52 rfl ml_RX10_101 im_X10_isWord se_X10_isWord kX10 rfl (c_X10_isWord (d - 1) (by omega) C.1 C.2.2.1 l0 439788663417 (inL_c 439788663417 rfl)) hy_X10_isWord rfl rfl hf hlo (st_room (Nat.le_of_ble_eq_true rfl)) hcs (fun v5 hv5 => ?_)
        refine s_ifeq (tgt := 64) X dX10_townLineHere_55 (by decide) rfl hv5 ?_ ?_
        · refine s_aload_n (j := 0) (pc2 := 65) X dX10_townLineHere_64 rfl rfl ?_
          refine s_ldc2 (z := 440006570868) (pc2 := 68) X dX10_townLineHere_65 rfl kc_RX10_238 ?_
          refine s_callVZ (d2 := d - 1) (As := [vL 440006570868]) (st := []) (pc2 := 71) X dX10_townLineHere_68 rfl ml_RX10_101 im_X10_isWord se_X10_isWord kX10 rfl (c_X10_isWord (d - 1) (by omega) C.1 C.2.2.1 l0 440006570868 (inL_c 440006570868 rfl)) hy_X10_isWord rfl rfl hf hlo (st_room (Nat.le_of_ble_eq_true rfl)) hcs (fun v6 hv6 => ?_)
          refine s_ifeq (tgt := 80) X dX10_townLineHere_71 (by decide) rfl hv6 ?_ ?_
          · refine s_aload_n (j := 0) (pc2 := 81) X dX10_townLineHere_80 rfl rfl ?_
            refine s_ldc2 (z := 123581014175598) (pc2 := 84) X dX10_townLineHere_81 rfl kc_RX10_122 ?_
            refine s_callVZ (d2 := d - 1) (As := [vL 123581014175598]) (st := []) (pc2 := 87) X dX10_townLineHere_84 rfl ml_RX10_101 im_X10_isWord se_X10_isWord kX10 rfl (c_X10_isWord (d - 1) (by omega) C.1 C.2.2.1 l0 123581014175598 (inL_c 123581014175598 rfl)) hy_X10_isWord rfl rfl hf hlo (st_room (Nat.le_of_ble_eq_true rfl)) hcs (fun v7 hv7 => ?_)
            refine s_ifeq (tgt := 96) X dX10_townLineHere_87 (by decide) rfl hv7 ?_ ?_
            · refine s_aload_n (j := 0) (pc2 := 97) X dX10_townLineHere_96 rfl rfl ?_
              refine s_ldc2 (z := 27991845698233700) (pc2 := 100) X dX10_townLineHere_97 rfl kc_RX10_246 ?_
              refine s_callVZ (d2 := d - 1) (As := [vL 27991845698233700]) (st := []) (pc2 := 103) X dX10_townLineHere_100 rfl ml_RX10_101 im_X10_isWord se_X10_isWord kX10 rfl (c_X10_isWord (d - 1) (by omega) C.1 C.2.2.1 l0 27991845698233700 (inL_c 27991845698233700 rfl)) hy_X10_isWord rfl rfl hf hlo (st_room (Nat.le_of_ble_eq_true rfl)) hcs (fun v8 hv8 => ?_)
              refine s_ifeq (tgt := 113) X dX10_townLineHere_103 (by decide) rfl hv8 ?_ ?_
              · refine s_aload_n (j := 0) (pc2 := 114) X dX10_townLineHere_113 rfl rfl ?_
                refine s_iload_n (j := 1) (pc2 := 115) X dX10_townLineHere_114 rfl rfl ?_
                refine s_callVZ (d2 := d - 1) (As := [vI l1]) (st := []) (pc2 := 118) X dX10_townLineHere_115 rfl ml_RX10_251 im_X10_isWantHere se_X10_isWantHere kX10 rfl (c_X10_isWantHere (d - 1) (by omega) C.1 C.2.2.1 l0 l1 h1) hy_X10_isWantHere rfl rfl hf hlo (st_room (Nat.le_of_ble_eq_true rfl)) hcs (fun v9 hv9 => ?_)
                refine s_sub (lv2 := []) [] rfl ?_
                exact z_X10_townLineHere_L118 d hd K X v9 hv9
              · refine s_aload_n (j := 0) (pc2 := 107) X dX10_townLineHere_106 rfl rfl ?_
                refine s_callVZ (d2 := d - 1) (As := []) (st := []) (pc2 := 110) X dX10_townLineHere_107 rfl ml_RX10_248 im_X10_areCrossingsHere se_X10_areCrossingsHere kX10 rfl (c_X10_areCrossingsHere (d - 1) (by omega) C.1 C.2.2.1 l0) hy_X10_areCrossingsHere rfl rfl hf hlo (st_room (Nat.le_of_ble_eq_true rfl)) hcs (fun v10 hv10 => ?_)
                refine s_goto (pc2 := 118) X dX10_townLineHere_110 (by decide) ?_
                refine s_sub (lv2 := []) [] rfl ?_
                exact z_X10_townLineHere_L118 d hd K X v10 hv10
            · refine s_aload_n (j := 0) (pc2 := 91) X dX10_townLineHere_90 rfl rfl ?_
              refine s_iload_n (j := 1) (pc2 := 92) X dX10_townLineHere_91 rfl rfl ?_
              refine s_callVZ (d2 := d - 1) (As := [vI l1]) (st := []) (pc2 := 95) X dX10_townLineHere_92 rfl ml_RX10_243 im_X10_isPersonHere se_X10_isPersonHere kX10 rfl (c_X10_isPersonHere (d - 1) (by omega) C.1 C.2.2.1 l0 l1 h1) hy_X10_isPersonHere rfl rfl hf hlo (st_room (Nat.le_of_ble_eq_true rfl)) hcs (fun v11 hv11 => ?_)
              exact s_zret X dX10_townLineHere_95
          · refine s_aload_n (j := 0) (pc2 := 75) X dX10_townLineHere_74 rfl rfl ?_
            refine s_iload_n (j := 1) (pc2 := 76) X dX10_townLineHere_75 rfl rfl ?_
            refine s_callVZ (d2 := d - 1) (As := [vI l1]) (st := []) (pc2 := 79) X dX10_townLineHere_76 rfl ml_RX10_240 im_X10_isFrostHere se_X10_isFrostHere kX10 rfl (c_X10_isFrostHere (d - 1) (by omega) C.1 C.2.2.1 l0 l1 h1) hy_X10_isFrostHere rfl rfl hf hlo (st_room (Nat.le_of_ble_eq_true rfl)) hcs (fun v12 hv12 => ?_)
            exact s_zret X dX10_townLineHere_79
        · refine s_aload_n (j := 0) (pc2 := 59) X dX10_townLineHere_58 rfl rfl ?_
          refine s_iload_n (j := 1) (pc2 := 60) X dX10_townLineHere_59 rfl rfl ?_
          refine s_callVZ (d2 := d - 1) (As := [vI l1]) (st := []) (pc2 := 63) X dX10_townLineHere_60 rfl ml_RX10_235 im_X10_isFerryHere se_X10_isFerryHere kX10 rfl (c_X10_isFerryHere (d - 1) (by omega) C.1 C.2.2.1 l0 l1 h1) hy_X10_isFerryHere rfl rfl hf hlo (st_room (Nat.le_of_ble_eq_true rfl)) hcs (fun v13 hv13 => ?_)
          exact s_zret X dX10_townLineHere_63
      · refine s_aload_n (j := 0) (pc2 := 43) X dX10_townLineHere_42 rfl rfl ?_
        refine s_iload_n (j := 1) (pc2 := 44) X dX10_townLineHere_43 rfl rfl ?_
        refine s_callVZ (d2 := d - 1) (As := [vI l1]) (st := []) (pc2 := 47) X dX10_townLineHere_44 rfl ml_RX10_230 im_X10_isBridgeHere se_X10_isBridgeHere kX10 rfl (c_X10_isBridgeHere (d - 1) (by omega) C.1 C.2.2.1 l0 l1 h1) hy_X10_isBridgeHere rfl rfl hf hlo (st_room (Nat.le_of_ble_eq_true rfl)) hcs (fun v14 hv14 => ?_)
        exact s_zret X dX10_townLineHere_47
    · refine s_aload_n (j := 0) (pc2 := 26) X dX10_townLineHere_25 rfl rfl ?_
      refine s_iconst (n := 4) (pc2 := 27) X dX10_townLineHere_26 rfl ?_
      refine s_iload_n (j := 1) (pc2 := 28) X dX10_townLineHere_27 rfl rfl ?_
      refine s_callVZ (d2 := d - 1) (As := [vI 4, vI l1]) (st := []) (pc2 := 31) X dX10_townLineHere_28 rfl ml_RX10_111 im_X10_fails se_X10_fails kX10 rfl (c_X10_fails (d - 1) (by omega) C.1 C.2.2.1 l0 4 l1 (inI_c 4 rfl) h1) hy_X10_fails rfl rfl hf hlo (st_room (Nat.le_of_ble_eq_true rfl)) hcs (fun v15 hv15 => ?_)
      exact s_zret X dX10_townLineHere_31
  · refine s_aload_n (j := 0) (pc2 := 11) X dX10_townLineHere_10 rfl rfl ?_
    refine s_iload_n (j := 1) (pc2 := 12) X dX10_townLineHere_11 rfl rfl ?_
    refine s_callVZ (d2 := d - 1) (As := [vI l1]) (st := []) (pc2 := 15) X dX10_townLineHere_12 rfl ml_RX10_227 im_X10_isTownHere se_X10_isTownHere kX10 rfl (c_X10_isTownHere (d - 1) (by omega) C.1 C.2.2.1 l0 l1 h1) hy_X10_isTownHere rfl rfl hf hlo (st_room (Nat.le_of_ble_eq_true rfl)) hcs (fun v16 hv16 => ?_)
    exact s_zret X dX10_townLineHere_15
theorem c_X10_townLineHere (d : Nat) (hd : 6 ≤ d) (G : hG) (l : Launch) (l0 : Nat) (l1 : Int) (h1 : inI l1) : hMet G l yX10_townLineHere cX10_townLineHere 2 (some .boolean) d 0 0 [vR G.1 l0, vI l1] (m_X10_townLineHere l0 l1) := by
  refine hMet.of (lv := [(0, vR G.1 l0), (1, vI l1)]) (by decide +kernel) (by simp [lg_sl, vR_cat, vI_cat, vL_cat, vS_cat2, vT_cat2]) (by simp [lv_args, vR_cat, vI_cat, vL_cat, vS_cat2, vT_cat2]) (fun C K X => ?_)
  obtain ⟨rfl, rfl, K⟩ := K
  exact z_X10_townLineHere d hd ⟨rfl, rfl, K⟩ X l0 l1 h1
def m_X10_isTownWord_L85 (s0 : Int) : hM :=
  hretZ s0
def m_X10_isTownWord_L80 : hM :=
  m_X10_isTownWord_L85 1
def m_X10_isTownWord_L45 (l0 : Nat) (s0 : Int) : hM :=
  hlet s0 fun (w1 : Int) =>
  hif (w1 ≠ 0) (
m_X10_isTownWord_L80) (
hcallV 10 l0 (m_X10_isWord l0 123581014175598) fun v2 =>
  hif (v2 ≠ 0) (
m_X10_isTownWord_L80) (
hcallV 10 l0 (m_X10_isWord l0 27991845698233700) fun v3 =>
  hif (v3 ≠ 0) (
m_X10_isTownWord_L80) (
hcallV 10 l0 (m_X10_isWord l0 2002873972) fun v4 =>
  hif (v4 = 0) (
m_X10_isTownWord_L85 0) (
m_X10_isTownWord_L80))))
def m_X10_isTownWord_L40 (l0 : Nat) : hM :=
  m_X10_isTownWord_L45 l0 1
def m_X10_isTownWord (l0 : Nat) : hM :=
  hcallV 10 l0 (m_X10_isWord l0 1953462126) fun v1 =>
  hif (v1 ≠ 0) (
m_X10_isTownWord_L40 l0) (
hcallV 10 l0 (m_X10_isWord l0 108243533981541) fun v2 =>
  hif (v2 ≠ 0) (
m_X10_isTownWord_L40 l0) (
hcallV 10 l0 (m_X10_isWord l0 439788663417) fun v3 =>
  hif (v3 ≠ 0) (
m_X10_isTownWord_L40 l0) (
hcallV 10 l0 (m_X10_isWord l0 440006570868) fun v4 =>
  hif (v4 = 0) (
m_X10_isTownWord_L45 l0 0) (
m_X10_isTownWord_L40 l0))))
set_option maxRecDepth 4000 in
theorem z_X10_isTownWord_L85 (d : Nat) (hd : 3 ≤ d) {C : hCx} (K : hCtx C.1 C.2.2.1 d 0 0 "isTownWord" C) (X : hOK C cX10_isTownWord RX10 2 (some .boolean)) (s0 : Int) (g0 : inI s0) : hSim C (some .boolean) 0 0 2 85 [] [vI s0] 0 0 (m_X10_isTownWord_L85 s0) := by
  obtain ⟨⟨hf, hlo⟩, ⟨hc1, hc2⟩, hf1, hl1⟩ := K_room K (by omega)
  have hcs : 0 ≤ C.2.2.2.2.1.cells ∧ 0 ≤ C.2.2.2.2.1.slots := ⟨Nat.zero_le _, Nat.zero_le _⟩
  unfold m_X10_isTownWord_L85
  exact s_zret X dX10_isTownWord_85
set_option maxRecDepth 4000 in
theorem z_X10_isTownWord_L80 (d : Nat) (hd : 3 ≤ d) {C : hCx} (K : hCtx C.1 C.2.2.1 d 0 0 "isTownWord" C) (X : hOK C cX10_isTownWord RX10 2 (some .boolean)) : hSim C (some .boolean) 0 0 2 80 [] [] 0 0 (m_X10_isTownWord_L80) := by
  obtain ⟨⟨hf, hlo⟩, ⟨hc1, hc2⟩, hf1, hl1⟩ := K_room K (by omega)
  have hcs : 0 ≤ C.2.2.2.2.1.cells ∧ 0 ≤ C.2.2.2.2.1.slots := ⟨Nat.zero_le _, Nat.zero_le _⟩
  unfold m_X10_isTownWord_L80
  refine s_iconst (n := 1) (pc2 := 81) X dX10_isTownWord_80 rfl ?_
  refine s_goto (pc2 := 85) X dX10_isTownWord_81 (by decide) ?_
  exact z_X10_isTownWord_L85 d hd K X 1 (inI_c 1 rfl)
set_option maxRecDepth 4000 in
theorem z_X10_isTownWord_L45 (d : Nat) (hd : 3 ≤ d) {C : hCx} (K : hCtx C.1 C.2.2.1 d 0 0 "isTownWord" C) (X : hOK C cX10_isTownWord RX10 2 (some .boolean)) (l0 : Nat) (s0 : Int) (g0 : inI s0) : hSim C (some .boolean) 0 0 2 45 [(0, vR C.1.1 l0)] [vI s0] 0 0 (m_X10_isTownWord_L45 l0 s0) := by
  obtain ⟨⟨hf, hlo⟩, ⟨hc1, hc2⟩, hf1, hl1⟩ := K_room K (by omega)
  have hcs : 0 ≤ C.2.2.2.2.1.cells ∧ 0 ≤ C.2.2.2.2.1.slots := ⟨Nat.zero_le _, Nat.zero_le _⟩
  unfold m_X10_isTownWord_L45
  refine s_istore_n (pc2 := 46) X dX10_isTownWord_45 rfl (by decide) rfl rfl cat1_R g0 (fun w1 hw1 => ?_)
  refine s_iload_n (j := 0) (pc2 := 47) X dX10_isTownWord_46 rfl rfl ?_
  refine s_ifne (tgt := 80) X dX10_isTownWord_47 (by decide) rfl hw1 ?_ ?_
  · refine s_sub (lv2 := []) [] rfl ?_
    exact z_X10_isTownWord_L80 d hd K X
  · refine s_aload_n (j := 1) (pc2 := 51) X dX10_isTownWord_50 rfl rfl ?_
    refine s_ldc2 (z := 123581014175598) (pc2 := 54) X dX10_isTownWord_51 rfl kc_RX10_122 ?_
    refine s_callVZ (d2 := d - 1) (As := [vL 123581014175598]) (st := []) (pc2 := 57) X dX10_isTownWord_54 rfl ml_RX10_101 im_X10_isWord se_X10_isWord kX10 rfl (c_X10_isWord (d - 1) (by omega) C.1 C.2.2.1 l0 123581014175598 (inL_c 123581014175598 rfl)) hy_X10_isWord rfl rfl hf hlo (st_room (Nat.le_of_ble_eq_true rfl)) hcs (fun v2 hv2 => ?_)
    refine s_ifne (tgt := 80) X dX10_isTownWord_57 (by decide) rfl hv2 ?_ ?_
    · refine s_sub (lv2 := []) [] rfl ?_
      exact z_X10_isTownWord_L80 d hd K X
    · refine s_aload_n (j := 1) (pc2 := 61) X dX10_isTownWord_60 rfl rfl ?_
      refine s_ldc2 (z := 27991845698233700) (pc2 := 64) X dX10_isTownWord_61 rfl kc_RX10_246 ?_
      refine s_callVZ (d2 := d - 1) (As := [vL 27991845698233700]) (st := []) (pc2 := 67) X dX10_isTownWord_64 rfl ml_RX10_101 im_X10_isWord se_X10_isWord kX10 rfl (c_X10_isWord (d - 1) (by omega) C.1 C.2.2.1 l0 27991845698233700 (inL_c 27991845698233700 rfl)) hy_X10_isWord rfl rfl hf hlo (st_room (Nat.le_of_ble_eq_true rfl)) hcs (fun v3 hv3 => ?_)
      refine s_ifne (tgt := 80) X dX10_isTownWord_67 (by decide) rfl hv3 ?_ ?_
      · refine s_sub (lv2 := []) [] rfl ?_
        exact z_X10_isTownWord_L80 d hd K X
      · refine s_aload_n (j := 1) (pc2 := 71) X dX10_isTownWord_70 rfl rfl ?_
        refine s_ldc2 (z := 2002873972) (pc2 := 74) X dX10_isTownWord_71 rfl kc_RX10_254 ?_
        refine s_callVZ (d2 := d - 1) (As := [vL 2002873972]) (st := []) (pc2 := 77) X dX10_isTownWord_74 rfl ml_RX10_101 im_X10_isWord se_X10_isWord kX10 rfl (c_X10_isWord (d - 1) (by omega) C.1 C.2.2.1 l0 2002873972 (inL_c 2002873972 rfl)) hy_X10_isWord rfl rfl hf hlo (st_room (Nat.le_of_ble_eq_true rfl)) hcs (fun v4 hv4 => ?_)
        refine s_ifeq (tgt := 84) X dX10_isTownWord_77 (by decide) rfl hv4 ?_ ?_
        · refine s_iconst (n := 0) (pc2 := 85) X dX10_isTownWord_84 rfl ?_
          refine s_sub (lv2 := []) [] rfl ?_
          exact z_X10_isTownWord_L85 d hd K X 0 (inI_c 0 rfl)
        · refine s_sub (lv2 := []) [] rfl ?_
          exact z_X10_isTownWord_L80 d hd K X
set_option maxRecDepth 4000 in
theorem z_X10_isTownWord_L40 (d : Nat) (hd : 3 ≤ d) {C : hCx} (K : hCtx C.1 C.2.2.1 d 0 0 "isTownWord" C) (X : hOK C cX10_isTownWord RX10 2 (some .boolean)) (l0 : Nat) : hSim C (some .boolean) 0 0 2 40 [(0, vR C.1.1 l0)] [] 0 0 (m_X10_isTownWord_L40 l0) := by
  obtain ⟨⟨hf, hlo⟩, ⟨hc1, hc2⟩, hf1, hl1⟩ := K_room K (by omega)
  have hcs : 0 ≤ C.2.2.2.2.1.cells ∧ 0 ≤ C.2.2.2.2.1.slots := ⟨Nat.zero_le _, Nat.zero_le _⟩
  unfold m_X10_isTownWord_L40
  refine s_iconst (n := 1) (pc2 := 41) X dX10_isTownWord_40 rfl ?_
  refine s_goto (pc2 := 45) X dX10_isTownWord_41 (by decide) ?_
  exact z_X10_isTownWord_L45 d hd K X l0 1 (inI_c 1 rfl)
set_option maxRecDepth 4000 in
set_option maxHeartbeats 20000000 in
theorem z_X10_isTownWord (d : Nat) (hd : 3 ≤ d) {C : hCx} (K : hCtx C.1 C.2.2.1 d 0 0 "isTownWord" C) (X : hOK C cX10_isTownWord RX10 2 (some .boolean)) (l0 : Nat) : hSim C (some .boolean) 0 0 2 0 [(0, vR C.1.1 l0)] [] 0 0 (m_X10_isTownWord l0) := by
  obtain ⟨⟨hf, hlo⟩, ⟨hc1, hc2⟩, hf1, hl1⟩ := K_room K (by omega)
  have hcs : 0 ≤ C.2.2.2.2.1.cells ∧ 0 ≤ C.2.2.2.2.1.slots := ⟨Nat.zero_le _, Nat.zero_le _⟩
  unfold m_X10_isTownWord
  refine s_aload_n (j := 0) (pc2 := 1) X dX10_isTownWord_0 rfl rfl ?_
  refine s_ldc2 (z := 1953462126) (pc2 := 4) X dX10_isTownWord_1 rfl kc_RX10_225 ?_
  refine s_callVZ (d2 := d - 1) (As := [vL 1953462126]) (st := []) (pc2 := 7) X dX10_isTownWord_4 rfl ml_RX10_101 im_X10_isWord se_X10_isWord kX10 rfl (c_X10_isWord (d - 1) (by omega) C.1 C.2.2.1 l0 1953462126 (inL_c 1953462126 rfl)) hy_X10_isWord rfl rfl hf hlo (st_room (Nat.le_of_ble_eq_true rfl)) hcs (fun v1 hv1 => ?_)
  refine s_ifne (tgt := 40) X dX10_isTownWord_7 (by decide) rfl hv1 ?_ ?_
  · exact z_X10_isTownWord_L40 d hd K X l0
  · refine s_aload_n (j := 0) (pc2 := 11) X dX10_isTownWord_10 rfl rfl ?_
    refine s_ldc2 (z := 108243533981541) (pc2 := 14) X dX10_isTownWord_11 rfl kc_RX10_124 ?_
    refine s_callVZ (d2 := d - 1) (As := [vL 108243533981541]) (st := []) (pc2 := 17) X dX10_isTownWord_14 rfl ml_RX10_101 im_X10_isWord se_X10_isWord kX10 rfl (c_X10_isWord (d - 1) (by omega) C.1 C.2.2.1 l0 108243533981541 (inL_c 108243533981541 rfl)) hy_X10_isWord rfl rfl hf hlo (st_room (Nat.le_of_ble_eq_true rfl)) hcs (fun v2 hv2 => ?_)
    refine s_ifne (tgt := 40) X dX10_isTownWord_17 (by decide) rfl hv2 ?_ ?_
    · exact z_X10_isTownWord_L40 d hd K X l0
    · refine s_aload_n (j := 0) (pc2 := 21) X dX10_isTownWord_20 rfl rfl ?_
      refine s_ldc2 (z := 439788663417) (pc2 := 24) X dX10_isTownWord_21 rfl kc_RX10_233 ?_
      refine s_callVZ (d2 := d - 1) (As := [vL 439788663417]) (st := []) (pc2 := 27) X dX10_isTownWord_24 rfl ml_RX10_101 im_X10_isWord se_X10_isWord kX10 rfl (c_X10_isWord (d - 1) (by omega) C.1 C.2.2.1 l0 439788663417 (inL_c 439788663417 rfl)) hy_X10_isWord rfl rfl hf hlo (st_room (Nat.le_of_ble_eq_true rfl)) hcs (fun v3 hv3 => ?_)
      refine s_ifne (tgt := 40) X dX10_isTownWord_27 (by decide) rfl hv3 ?_ ?_
      · exact z_X10_isTownWord_L40 d hd K X l0
      · refine s_aload_n (j := 0) (pc2 := 31) X dX10_isTownWord_30 rfl rfl ?_
        refine s_ldc2 (z := 440006570868) (pc2 := 34) X dX10_isTownWord_31 rfl kc_RX10_238 ?_
        refine s_callVZ (d2 := d - 1) (As := [vL 440006570868]) (st := []) (pc2 := 37) X dX10_isTownWord_34 rfl ml_RX10_101 im_X10_isWord se_X10_isWord kX10 rfl (c_X10_isWord (d - 1) (by omega) C.1 C.2.2.1 l0 440006570868 (inL_c 440006570868 rfl)) hy_X10_isWord rfl rfl hf hlo (st_room (Nat.le_of_ble_eq_true rfl)) hcs (fun v4 hv4 => ?_)
        refine s_ifeq (tgt := 44) X dX10_isTownWord_37 (by decide) rfl hv4 ?_ ?_
        · refine s_iconst (n := 0) (pc2 := 45) X dX10_isTownWord_44 rfl ?_
          exact z_X10_isTownWord_L45 d hd K X l0 0 (inI_c 0 rfl)
        · exact z_X10_isTownWord_L40 d hd K X l0
theorem c_X10_isTownWord (d : Nat) (hd : 3 ≤ d) (G : hG) (l : Launch) (l0 : Nat) : hMet G l yX10_isTownWord cX10_isTownWord 2 (some .boolean) d 0 0 [vR G.1 l0] (m_X10_isTownWord l0) := by
  refine hMet.of (lv := [(0, vR G.1 l0)]) (by decide +kernel) (by simp [lg_sl, vR_cat, vI_cat, vL_cat, vS_cat2, vT_cat2]) (by simp [lv_args, vR_cat, vI_cat, vL_cat, vS_cat2, vT_cat2]) (fun C K X => ?_)
  obtain ⟨rfl, rfl, K⟩ := K
  exact z_X10_isTownWord d hd ⟨rfl, rfl, K⟩ X l0
def m_X10_clauseHere_L107 (s0 : Int) : hM :=
  hretZ s0
def m_X10_clauseHere_L71 (l0 : Nat) (l1 : Int) (l2 : Int) (s0 : Int) (s1 : Int) : hM :=
  hif (s0 ≠ s1) (
hgI 10 l0 14 fun v1 =>
  hpI 10 l0 14 ((w32 (v1 + 1))) <|
  hif (l2 = 0) (
hcallV 10 l0 (m_X10_isCrossHere l0) fun v2 =>
  m_X10_clauseHere_L107 v2) (
hcallV 10 l0 (m_X10_townLineHere l0 l1) fun v3 =>
  m_X10_clauseHere_L107 v3)) (
hcallV 10 l0 (m_X10_fails l0 4 l1) fun v4 =>
  hretZ v4)
def m_X10_clauseHere_L56 (l0 : Nat) (l1 : Int) (l2 : Int) : hM :=
  hgI 10 l0 14 fun v1 =>
  hif (l2 = 0) (
m_X10_clauseHere_L71 l0 l1 l2 v1 12) (
m_X10_clauseHere_L71 l0 l1 l2 v1 40)
def m_X10_clauseHere_L49 (l0 : Nat) (l1 : Int) : hM :=
  hcallV 10 l0 (m_X10_fails l0 0 l1) fun v1 =>
  hretZ v1
def m_X10_clauseHere_L24 (l0 : Nat) (l1 : Int) (s0 : Int) : hM :=
  hlet s0 fun (w1 : Int) =>
  hif (w1 = 0) (
hcallV 10 l0 (m_X10_isWord l0 427121668979) fun v2 =>
  hif (v2 ≠ 0) (
m_X10_clauseHere_L56 l0 l1 w1) (
m_X10_clauseHere_L49 l0 l1)) (
hcallV 10 l0 (m_X10_isTownWord l0) fun v3 =>
  hif (v3 ≠ 0) (
m_X10_clauseHere_L56 l0 l1 w1) (
m_X10_clauseHere_L49 l0 l1))
def m_X10_clauseHere (l0 : Nat) : hM :=
  hcallV 10 l0 (m_X10_see l0) fun v1 =>
  hgI 10 l0 8 fun v2 =>
  hlet v2 fun (w3 : Int) =>
  hgI 10 l0 11 fun v4 =>
  hif (v4 ≠ 6) (
m_X10_clauseHere_L24 l0 w3 0) (
m_X10_clauseHere_L24 l0 w3 1)
set_option maxRecDepth 4000 in
theorem z_X10_clauseHere_L107 (d : Nat) (hd : 11 ≤ d) {C : hCx} (K : hCtx C.1 C.2.2.1 d 0 0 "clauseHere" C) (X : hOK C cX10_clauseHere RX10 3 (some .boolean)) (s0 : Int) (g0 : inI s0) : hSim C (some .boolean) 0 0 3 107 [] [vI s0] 0 0 (m_X10_clauseHere_L107 s0) := by
  obtain ⟨⟨hf, hlo⟩, ⟨hc1, hc2⟩, hf1, hl1⟩ := K_room K (by omega)
  have hcs : 0 ≤ C.2.2.2.2.1.cells ∧ 0 ≤ C.2.2.2.2.1.slots := ⟨Nat.zero_le _, Nat.zero_le _⟩
  unfold m_X10_clauseHere_L107
  exact s_zret X dX10_clauseHere_107
set_option maxRecDepth 4000 in
theorem z_X10_clauseHere_L71 (d : Nat) (hd : 11 ≤ d) {C : hCx} (K : hCtx C.1 C.2.2.1 d 0 0 "clauseHere" C) (X : hOK C cX10_clauseHere RX10 3 (some .boolean)) (l0 : Nat) (l1 : Int) (l2 : Int) (s0 : Int) (s1 : Int) (h1 : inI l1) (h2 : inI l2) (g0 : inI s0) (g1 : inI s1) : hSim C (some .boolean) 0 0 3 71 [(0, vR C.1.1 l0), (1, vI l1), (2, vI l2)] [vI s1, vI s0] 0 0 (m_X10_clauseHere_L71 l0 l1 l2 s0 s1) := by
  obtain ⟨⟨hf, hlo⟩, ⟨hc1, hc2⟩, hf1, hl1⟩ := K_room K (by omega)
  have hcs : 0 ≤ C.2.2.2.2.1.cells ∧ 0 ≤ C.2.2.2.2.1.slots := ⟨Nat.zero_le _, Nat.zero_le _⟩
  unfold m_X10_clauseHere_L71
  refine s_icne (tgt := 81) X dX10_clauseHere_71 (by decide) rfl g0 g1 ?_ ?_
  · refine s_aload_n (j := 0) (pc2 := 82) X dX10_clauseHere_81 rfl rfl ?_
    refine s_dup (pc2 := 83) X dX10_clauseHere_82 rfl (vR_cat _ _) ?_
    refine s_getI (pc2 := 86) X dX10_clauseHere_83 rfl fl_RX10_261 rfl (fun v1 hv1 => ?_)
    refine s_iconst (n := 1) (pc2 := 87) X dX10_clauseHere_86 rfl ?_
    refine s_iadd (pc2 := 88) X dX10_clauseHere_87 rfl ?_
    refine s_putI (pc2 := 91) X dX10_clauseHere_88 rfl fl_RX10_261 (Or.inl rfl) rfl (w32_in _) ?_
    refine s_iload_n (j := 2) (pc2 := 92) X dX10_clauseHere_91 rfl rfl ?_
    refine s_ifeq (tgt := 103) X dX10_clauseHere_92 (by decide) rfl h2 ?_ ?_
    · refine s_aload_n (j := 0) (pc2 := 104) X dX10_clauseHere_103 rfl rfl ?_
      refine s_callVZ (d2 := d - 1) (As := []) (st := []) (pc2 := 107) X dX10_clauseHere_104 rfl ml_RX10_267 im_X10_isCrossHere se_X10_isCrossHere kX10 rfl (c_X10_isCrossHere (d - 1) (by omega) C.1 C.2.2.1 l0) hy_X10_isCrossHere rfl rfl hf hlo (st_room (Nat.le_of_ble_eq_true rfl)) hcs (fun v2 hv2 => ?_)
      refine s_sub (lv2 := []) [] rfl ?_
      exact z_X10_clauseHere_L107 d hd K X v2 hv2
    · refine s_aload_n (j := 0) (pc2 := 96) X dX10_clauseHere_95 rfl rfl ?_
      refine s_iload_n (j := 1) (pc2 := 97) X dX10_clauseHere_96 rfl rfl ?_
      refine s_callVZ (d2 := d - 1) (As := [vI l1]) (st := []) (pc2 := 100) X dX10_clauseHere_97 rfl ml_RX10_264 im_X10_townLineHere se_X10_townLineHere kX10 rfl (c_X10_townLineHere (d - 1) (by omega) C.1 C.2.2.1 l0 l1 h1) hy_X10_townLineHere rfl rfl hf hlo (st_room (Nat.le_of_ble_eq_true rfl)) hcs (fun v3 hv3 => ?_)
      refine s_goto (pc2 := 107) X dX10_clauseHere_100 (by decide) ?_
      refine s_sub (lv2 := []) [] rfl ?_
      exact z_X10_clauseHere_L107 d hd K X v3 hv3
  · refine s_aload_n (j := 0) (pc2 := 75) X dX10_clauseHere_74 rfl rfl ?_
    refine s_iconst (n := 4) (pc2 := 76) X dX10_clauseHere_75 rfl ?_
    refine s_iload_n (j := 1) (pc2 := 77) X dX10_clauseHere_76 rfl rfl ?_
    refine s_callVZ (d2 := d - 1) (As := [vI 4, vI l1]) (st := []) (pc2 := 80) X dX10_clauseHere_77 rfl ml_RX10_111 im_X10_fails se_X10_fails kX10 rfl (c_X10_fails (d - 1) (by omega) C.1 C.2.2.1 l0 4 l1 (inI_c 4 rfl) h1) hy_X10_fails rfl rfl hf hlo (st_room (Nat.le_of_ble_eq_true rfl)) hcs (fun v4 hv4 => ?_)
    exact s_zret X dX10_clauseHere_80
set_option maxRecDepth 4000 in
theorem z_X10_clauseHere_L56 (d : Nat) (hd : 11 ≤ d) {C : hCx} (K : hCtx C.1 C.2.2.1 d 0 0 "clauseHere" C) (X : hOK C cX10_clauseHere RX10 3 (some .boolean)) (l0 : Nat) (l1 : Int) (l2 : Int) (h1 : inI l1) (h2 : inI l2) : hSim C (some .boolean) 0 0 3 56 [(0, vR C.1.1 l0), (1, vI l1), (2, vI l2)] [] 0 0 (m_X10_clauseHere_L56 l0 l1 l2) := by
  obtain ⟨⟨hf, hlo⟩, ⟨hc1, hc2⟩, hf1, hl1⟩ := K_room K (by omega)
  have hcs : 0 ≤ C.2.2.2.2.1.cells ∧ 0 ≤ C.2.2.2.2.1.slots := ⟨Nat.zero_le _, Nat.zero_le _⟩
  unfold m_X10_clauseHere_L56
  refine s_aload_n (j := 0) (pc2 := 57) X dX10_clauseHere_56 rfl rfl ?_
  refine s_getI (pc2 := 60) X dX10_clauseHere_57 rfl fl_RX10_261 rfl (fun v1 hv1 => ?_)
  refine s_iload_n (j := 2) (pc2 := 61) X dX10_clauseHere_60 rfl rfl ?_
  refine s_ifeq (tgt := 69) X dX10_clauseHere_61 (by decide) rfl h2 ?_ ?_
  · refine s_bipush (n := 12) (pc2 := 71) X dX10_clauseHere_69 rfl rfl ?_
    exact z_X10_clauseHere_L71 d hd K X l0 l1 l2 v1 12 h1 h2 hv1 (inI_c 12 rfl)
  · refine s_bipush (n := 40) (pc2 := 66) X dX10_clauseHere_64 rfl rfl ?_
    refine s_goto (pc2 := 71) X dX10_clauseHere_66 (by decide) ?_
    exact z_X10_clauseHere_L71 d hd K X l0 l1 l2 v1 40 h1 h2 hv1 (inI_c 40 rfl)
set_option maxRecDepth 4000 in
theorem z_X10_clauseHere_L49 (d : Nat) (hd : 11 ≤ d) {C : hCx} (K : hCtx C.1 C.2.2.1 d 0 0 "clauseHere" C) (X : hOK C cX10_clauseHere RX10 3 (some .boolean)) (l0 : Nat) (l1 : Int) (h1 : inI l1) : hSim C (some .boolean) 0 0 3 49 [(0, vR C.1.1 l0), (1, vI l1)] [] 0 0 (m_X10_clauseHere_L49 l0 l1) := by
  obtain ⟨⟨hf, hlo⟩, ⟨hc1, hc2⟩, hf1, hl1⟩ := K_room K (by omega)
  have hcs : 0 ≤ C.2.2.2.2.1.cells ∧ 0 ≤ C.2.2.2.2.1.slots := ⟨Nat.zero_le _, Nat.zero_le _⟩
  unfold m_X10_clauseHere_L49
  refine s_aload_n (j := 0) (pc2 := 50) X dX10_clauseHere_49 rfl rfl ?_
  refine s_iconst (n := 0) (pc2 := 51) X dX10_clauseHere_50 rfl ?_
  refine s_iload_n (j := 1) (pc2 := 52) X dX10_clauseHere_51 rfl rfl ?_
  refine s_callVZ (d2 := d - 1) (As := [vI 0, vI l1]) (st := []) (pc2 := 55) X dX10_clauseHere_52 rfl ml_RX10_111 im_X10_fails se_X10_fails kX10 rfl (c_X10_fails (d - 1) (by omega) C.1 C.2.2.1 l0 0 l1 (inI_c 0 rfl) h1) hy_X10_fails rfl rfl hf hlo (st_room (Nat.le_of_ble_eq_true rfl)) hcs (fun v1 hv1 => ?_)
  exact s_zret X dX10_clauseHere_55
set_option maxRecDepth 4000 in
theorem z_X10_clauseHere_L24 (d : Nat) (hd : 11 ≤ d) {C : hCx} (K : hCtx C.1 C.2.2.1 d 0 0 "clauseHere" C) (X : hOK C cX10_clauseHere RX10 3 (some .boolean)) (l0 : Nat) (l1 : Int) (s0 : Int) (h1 : inI l1) (g0 : inI s0) : hSim C (some .boolean) 0 0 3 24 [(0, vR C.1.1 l0), (1, vI l1)] [vI s0] 0 0 (m_X10_clauseHere_L24 l0 l1 s0) := by
  obtain ⟨⟨hf, hlo⟩, ⟨hc1, hc2⟩, hf1, hl1⟩ := K_room K (by omega)
  have hcs : 0 ≤ C.2.2.2.2.1.cells ∧ 0 ≤ C.2.2.2.2.1.slots := ⟨Nat.zero_le _, Nat.zero_le _⟩
  unfold m_X10_clauseHere_L24
  refine s_istore_n (pc2 := 25) X dX10_clauseHere_24 rfl (by decide) rfl rfl cat1_I g0 (fun w1 hw1 => ?_)
  refine s_iload_n (j := 0) (pc2 := 26) X dX10_clauseHere_25 rfl rfl ?_
  refine s_ifeq (tgt := 39) X dX10_clauseHere_26 (by decide) rfl hw1 ?_ ?_
  · refine s_aload_n (j := 1) (pc2 := 40) X dX10_clauseHere_39 rfl rfl ?_
    refine s_ldc2 (z := 427121668979) (pc2 := 43) X dX10_clauseHere_40 rfl kc_RX10_259 ?_
    refine s_callVZ (d2 := d - 1) (As := [vL 427121668979]) (st := []) (pc2 := 46) X dX10_clauseHere_43 rfl ml_RX10_101 im_X10_isWord se_X10_isWord kX10 rfl (c_X10_isWord (d - 1) (by omega) C.1 C.2.2.1 l0 427121668979 (inL_c 427121668979 rfl)) hy_X10_isWord rfl rfl hf hlo (st_room (Nat.le_of_ble_eq_true rfl)) hcs (fun v2 hv2 => ?_)
    refine s_ifne (tgt := 56) X dX10_clauseHere_46 (by decide) rfl hv2 ?_ ?_
    · refine s_sub (lv2 := [(0, vR C.1.1 l0), (1, vI l1), (2, vI w1)]) [1, 2, 0] rfl ?_
      exact z_X10_clauseHere_L56 d hd K X l0 l1 w1 h1 hw1
    · refine s_sub (lv2 := [(0, vR C.1.1 l0), (1, vI l1)]) [1, 2] rfl ?_
      exact z_X10_clauseHere_L49 d hd K X l0 l1 h1
  · refine s_aload_n (j := 1) (pc2 := 30) X dX10_clauseHere_29 rfl rfl ?_
    refine s_callVZ (d2 := d - 1) (As := []) (st := []) (pc2 := 33) X dX10_clauseHere_30 rfl ml_RX10_256 im_X10_isTownWord se_X10_isTownWord kX10 rfl (c_X10_isTownWord (d - 1) (by omega) C.1 C.2.2.1 l0) hy_X10_isTownWord rfl rfl hf hlo (st_room (Nat.le_of_ble_eq_true rfl)) hcs (fun v3 hv3 => ?_)
    refine s_ifne (tgt := 56) X dX10_clauseHere_33 (by decide) rfl hv3 ?_ ?_
    · refine s_sub (lv2 := [(0, vR C.1.1 l0), (1, vI l1), (2, vI w1)]) [1, 2, 0] rfl ?_
      exact z_X10_clauseHere_L56 d hd K X l0 l1 w1 h1 hw1
    · refine s_goto (pc2 := 49) X dX10_clauseHere_36 (by decide) ?_
      refine s_sub (lv2 := [(0, vR C.1.1 l0), (1, vI l1)]) [1, 2] rfl ?_
      exact z_X10_clauseHere_L49 d hd K X l0 l1 h1
set_option maxRecDepth 4000 in
set_option maxHeartbeats 20000000 in
theorem z_X10_clauseHere (d : Nat) (hd : 11 ≤ d) {C : hCx} (K : hCtx C.1 C.2.2.1 d 0 0 "clauseHere" C) (X : hOK C cX10_clauseHere RX10 3 (some .boolean)) (l0 : Nat) : hSim C (some .boolean) 0 0 3 0 [(0, vR C.1.1 l0)] [] 0 0 (m_X10_clauseHere l0) := by
  obtain ⟨⟨hf, hlo⟩, ⟨hc1, hc2⟩, hf1, hl1⟩ := K_room K (by omega)
  have hcs : 0 ≤ C.2.2.2.2.1.cells ∧ 0 ≤ C.2.2.2.2.1.slots := ⟨Nat.zero_le _, Nat.zero_le _⟩
  unfold m_X10_clauseHere
  refine s_aload_n (j := 0) (pc2 := 1) X dX10_clauseHere_0 rfl rfl ?_
  refine s_callVI (d2 := d - 1) (As := []) (st := []) (pc2 := 4) X dX10_clauseHere_1 rfl ml_RX10_93 im_X10_see se_X10_see kX10 rfl (c_X10_see (d - 1) (by omega) C.1 C.2.2.1 l0) hy_X10_see rfl rfl hf hlo (st_room (Nat.le_of_ble_eq_true rfl)) hcs (fun v1 hv1 => ?_)
  refine s_pop (pc2 := 5) X dX10_clauseHere_4 rfl rfl ?_
  refine s_aload_n (j := 0) (pc2 := 6) X dX10_clauseHere_5 rfl rfl ?_
  refine s_getI (pc2 := 9) X dX10_clauseHere_6 rfl fl_RX10_90 rfl (fun v2 hv2 => ?_)
  refine s_istore_n (pc2 := 10) X dX10_clauseHere_9 rfl (by decide) rfl rfl cat1_R hv2 (fun w3 hw3 => ?_)
  refine s_aload_n (j := 1) (pc2 := 11) X dX10_clauseHere_10 rfl rfl ?_
  refine s_getI (pc2 := 14) X dX10_clauseHere_11 rfl fl_RX10_146 rfl (fun v4 hv4 => ?_)
  refine s_bipush (n := 6) (pc2 := 16) X dX10_clauseHere_14 rfl rfl ?_
  refine s_icne (tgt := 23) X dX10_clauseHere_16 (by decide) rfl hv4 (inI_c 6 rfl) ?_ ?_
  · refine s_iconst (n := 0) (pc2 := 24) X dX10_clauseHere_23 rfl ?_
    refine s_sub (lv2 := [(0, vR C.1.1 l0), (1, vI w3)]) [1, 0] rfl ?_
    exact z_X10_clauseHere_L24 d hd K X l0 w3 0 hw3 (inI_c 0 rfl)
  · refine s_iconst (n := 1) (pc2 := 20) X dX10_clauseHere_19 rfl ?_
    refine s_goto (pc2 := 24) X dX10_clauseHere_20 (by decide) ?_
    refine s_sub (lv2 := [(0, vR C.1.1 l0), (1, vI w3)]) [1, 0] rfl ?_
    exact z_X10_clauseHere_L24 d hd K X l0 w3 1 hw3 (inI_c 1 rfl)
theorem c_X10_clauseHere (d : Nat) (hd : 11 ≤ d) (G : hG) (l : Launch) (l0 : Nat) : hMet G l yX10_clauseHere cX10_clauseHere 3 (some .boolean) d 0 0 [vR G.1 l0] (m_X10_clauseHere l0) := by
  refine hMet.of (lv := [(0, vR G.1 l0)]) (by decide +kernel) (by simp [lg_sl, vR_cat, vI_cat, vL_cat, vS_cat2, vT_cat2]) (by simp [lv_args, vR_cat, vI_cat, vL_cat, vS_cat2, vT_cat2]) (fun C K X => ?_)
  obtain ⟨rfl, rfl, K⟩ := K
  exact z_X10_clauseHere d hd ⟨rfl, rfl, K⟩ X l0
def m_X10_readsAll_L105 (s0 : Int) : hM :=
  hretZ s0
def m_X10_readsAll_L88 (l0 : Nat) : hM :=
  hpI 10 l0 1 0 <|
  hgI 10 l0 9 fun v1 =>
  hif (v1 ≠ 0) (
m_X10_readsAll_L105 0) (
m_X10_readsAll_L105 1)
def m_X10_readsAll_L66 (l0 : Nat) (l1 : Int) : hM :=
  hif (l1 = 0) (
m_X10_readsAll_L88 l0) (
hcallV 10 l0 (m_X10_see l0) fun v1 =>
  hif (v1 = ((-1))) (
m_X10_readsAll_L88 l0) (
hgI 10 l0 8 fun v2 =>
  hcallV 10 l0 (m_X10_fails l0 0 v2) fun v3 =>
  m_X10_readsAll_L88 l0))
def m_X10_readsAll_L35 : Nat → Nat → Int → hM
  | 0, _, _ => hfail
  | n + 1, l0, l1 =>
    hif (l1 = 0) (
m_X10_readsAll_L66 l0 l1) (
hcallV 10 l0 (m_X10_see l0) fun v1 =>
  hif (v1 ≠ 59) (
m_X10_readsAll_L66 l0 l1) (
hgI 10 l0 8 fun v2 =>
  hpI 10 l0 8 ((w32 (v2 + 1))) <|
  hcallV 10 l0 (m_X10_clauseHere l0) fun v3 =>
  hlet v3 fun (w4 : Int) =>
  m_X10_readsAll_L35 n l0 w4))
def m_X10_readsAll (l0 : Nat) : hM :=
  hgR 10 l0 4 fun v1 =>
  hgI 10 l0 11 fun v2 =>
  hsI 20 v1 v2 0 <|
  hpI 10 l0 14 0 <|
  hpI 10 l0 8 0 <|
  hpI 10 l0 9 0 <|
  hpI 10 l0 12 0 <|
  hcallV 10 l0 (m_X10_clauseHere l0) fun v3 =>
  hlet v3 fun (w4 : Int) =>
  m_X10_readsAll_L35 1000000000 l0 w4
set_option maxRecDepth 4000 in
theorem z_X10_readsAll_L105 (d : Nat) (hd : 12 ≤ d) {C : hCx} (K : hCtx C.1 C.2.2.1 d 0 0 "readsAll" C) (X : hOK C cX10_readsAll RX10 2 (some .boolean)) (s0 : Int) (g0 : inI s0) : hSim C (some .boolean) 0 0 2 105 [] [vI s0] 0 0 (m_X10_readsAll_L105 s0) := by
  obtain ⟨⟨hf, hlo⟩, ⟨hc1, hc2⟩, hf1, hl1⟩ := K_room K (by omega)
  have hcs : 0 ≤ C.2.2.2.2.1.cells ∧ 0 ≤ C.2.2.2.2.1.slots := ⟨Nat.zero_le _, Nat.zero_le _⟩
  unfold m_X10_readsAll_L105
  exact s_zret X dX10_readsAll_105
set_option maxRecDepth 4000 in
theorem z_X10_readsAll_L88 (d : Nat) (hd : 12 ≤ d) {C : hCx} (K : hCtx C.1 C.2.2.1 d 0 0 "readsAll" C) (X : hOK C cX10_readsAll RX10 2 (some .boolean)) (l0 : Nat) : hSim C (some .boolean) 0 0 2 88 [(0, vR C.1.1 l0)] [] 0 0 (m_X10_readsAll_L88 l0) := by
  obtain ⟨⟨hf, hlo⟩, ⟨hc1, hc2⟩, hf1, hl1⟩ := K_room K (by omega)
  have hcs : 0 ≤ C.2.2.2.2.1.cells ∧ 0 ≤ C.2.2.2.2.1.slots := ⟨Nat.zero_le _, Nat.zero_le _⟩
  unfold m_X10_readsAll_L88
  refine s_aload_n (j := 0) (pc2 := 89) X dX10_readsAll_88 rfl rfl ?_
  refine s_iconst (n := 0) (pc2 := 90) X dX10_readsAll_89 rfl ?_
  refine s_putI (pc2 := 93) X dX10_readsAll_90 rfl fl_RX10_79 (Or.inl rfl) rfl (inI_c 0 rfl) ?_
  refine s_aload_n (j := 0) (pc2 := 94) X dX10_readsAll_93 rfl rfl ?_
  refine s_getI (pc2 := 97) X dX10_readsAll_94 rfl fl_RX10_87 rfl (fun v1 hv1 => ?_)
  refine s_ifne (tgt := 104) X dX10_readsAll_97 (by decide) rfl hv1 ?_ ?_
  · refine s_iconst (n := 0) (pc2 := 105) X dX10_readsAll_104 rfl ?_
    refine s_sub (lv2 := []) [] rfl ?_
    exact z_X10_readsAll_L105 d hd K X 0 (inI_c 0 rfl)
  · refine s_iconst (n := 1) (pc2 := 101) X dX10_readsAll_100 rfl ?_
    refine s_goto (pc2 := 105) X dX10_readsAll_101 (by decide) ?_
    refine s_sub (lv2 := []) [] rfl ?_
    exact z_X10_readsAll_L105 d hd K X 1 (inI_c 1 rfl)
set_option maxRecDepth 4000 in
theorem z_X10_readsAll_L66 (d : Nat) (hd : 12 ≤ d) {C : hCx} (K : hCtx C.1 C.2.2.1 d 0 0 "readsAll" C) (X : hOK C cX10_readsAll RX10 2 (some .boolean)) (l0 : Nat) (l1 : Int) (h1 : inI l1) : hSim C (some .boolean) 0 0 2 66 [(0, vR C.1.1 l0), (1, vI l1)] [] 0 0 (m_X10_readsAll_L66 l0 l1) := by
  obtain ⟨⟨hf, hlo⟩, ⟨hc1, hc2⟩, hf1, hl1⟩ := K_room K (by omega)
  have hcs : 0 ≤ C.2.2.2.2.1.cells ∧ 0 ≤ C.2.2.2.2.1.slots := ⟨Nat.zero_le _, Nat.zero_le _⟩
  unfold m_X10_readsAll_L66
  refine s_iload_n (j := 1) (pc2 := 67) X dX10_readsAll_66 rfl rfl ?_
  refine s_ifeq (tgt := 88) X dX10_readsAll_67 (by decide) rfl h1 ?_ ?_
  · refine s_sub (lv2 := [(0, vR C.1.1 l0)]) [0] rfl ?_
    exact z_X10_readsAll_L88 d hd K X l0
  · refine s_aload_n (j := 0) (pc2 := 71) X dX10_readsAll_70 rfl rfl ?_
    refine s_callVI (d2 := d - 1) (As := []) (st := []) (pc2 := 74) X dX10_readsAll_71 rfl ml_RX10_93 im_X10_see se_X10_see kX10 rfl (c_X10_see (d - 1) (by omega) C.1 C.2.2.1 l0) hy_X10_see rfl rfl hf hlo (st_room (Nat.le_of_ble_eq_true rfl)) hcs (fun v1 hv1 => ?_)
    refine s_iconst (n := (-1)) (pc2 := 75) X dX10_readsAll_74 rfl ?_
    refine s_iceq (tgt := 88) X dX10_readsAll_75 (by decide) rfl hv1 (inI_c (-1) rfl) ?_ ?_
    · refine s_sub (lv2 := [(0, vR C.1.1 l0)]) [0] rfl ?_
      exact z_X10_readsAll_L88 d hd K X l0
    · refine s_aload_n (j := 0) (pc2 := 79) X dX10_readsAll_78 rfl rfl ?_
      refine s_iconst (n := 0) (pc2 := 80) X dX10_readsAll_79 rfl ?_
      refine s_aload_n (j := 0) (pc2 := 81) X dX10_readsAll_80 rfl rfl ?_
      refine s_getI (pc2 := 84) X dX10_readsAll_81 rfl fl_RX10_90 rfl (fun v2 hv2 => ?_)
      refine s_callVZ (d2 := d - 1) (As := [vI 0, vI v2]) (st := []) (pc2 := 87) X dX10_readsAll_84 rfl ml_RX10_111 im_X10_fails se_X10_fails kX10 rfl (c_X10_fails (d - 1) (by omega) C.1 C.2.2.1 l0 0 v2 (inI_c 0 rfl) hv2) hy_X10_fails rfl rfl hf hlo (st_room (Nat.le_of_ble_eq_true rfl)) hcs (fun v3 hv3 => ?_)
      refine s_pop (pc2 := 88) X dX10_readsAll_87 rfl rfl ?_
      refine s_sub (lv2 := [(0, vR C.1.1 l0)]) [0] rfl ?_
      exact z_X10_readsAll_L88 d hd K X l0
set_option maxRecDepth 4000 in
theorem z_X10_readsAll_L35 (d : Nat) (hd : 12 ≤ d) {C : hCx} (K : hCtx C.1 C.2.2.1 d 0 0 "readsAll" C) (X : hOK C cX10_readsAll RX10 2 (some .boolean)) : ∀ (n : Nat) (l0 : Nat) (l1 : Int) (h1 : inI l1), hSim C (some .boolean) 0 0 2 35 [(0, vR C.1.1 l0), (1, vI l1)] [] 0 0 (m_X10_readsAll_L35 n l0 l1) := by
  obtain ⟨⟨hf, hlo⟩, ⟨hc1, hc2⟩, hf1, hl1⟩ := K_room K (by omega)
  have hcs : 0 ≤ C.2.2.2.2.1.cells ∧ 0 ≤ C.2.2.2.2.1.slots := ⟨Nat.zero_le _, Nat.zero_le _⟩
  intro n
  induction n with
  | zero => intros; exact s_none (fun _ => rfl)
  | succ n ih =>
    intro l0 l1 h1
    unfold m_X10_readsAll_L35
    refine s_iload_n (j := 1) (pc2 := 36) X dX10_readsAll_35 rfl rfl ?_
    refine s_ifeq (tgt := 66) X dX10_readsAll_36 (by decide) rfl h1 ?_ ?_
    · exact z_X10_readsAll_L66 d hd K X l0 l1 h1
    · refine s_aload_n (j := 0) (pc2 := 40) X dX10_readsAll_39 rfl rfl ?_
      refine s_callVI (d2 := d - 1) (As := []) (st := []) (pc2 := 43) X dX10_readsAll_40 rfl ml_RX10_93 im_X10_see se_X10_see kX10 rfl (c_X10_see (d - 1) (by omega) C.1 C.2.2.1 l0) hy_X10_see rfl rfl hf hlo (st_room (Nat.le_of_ble_eq_true rfl)) hcs (fun v1 hv1 => ?_)
      refine s_bipush (n := 59) (pc2 := 45) X dX10_readsAll_43 rfl rfl ?_
      refine s_icne (tgt := 66) X dX10_readsAll_45 (by decide) rfl hv1 (inI_c 59 rfl) ?_ ?_
      · exact z_X10_readsAll_L66 d hd K X l0 l1 h1
      · refine s_aload_n (j := 0) (pc2 := 49) X dX10_readsAll_48 rfl rfl ?_
        refine s_dup (pc2 := 50) X dX10_readsAll_49 rfl (vR_cat _ _) ?_
        refine s_getI (pc2 := 53) X dX10_readsAll_50 rfl fl_RX10_90 rfl (fun v2 hv2 => ?_)
        refine s_iconst (n := 1) (pc2 := 54) X dX10_readsAll_53 rfl ?_
        refine s_iadd (pc2 := 55) X dX10_readsAll_54 rfl ?_
        refine s_putI (pc2 := 58) X dX10_readsAll_55 rfl fl_RX10_90 (Or.inl rfl) rfl (w32_in _) ?_
        refine s_aload_n (j := 0) (pc2 := 59) X dX10_readsAll_58 rfl rfl ?_
        refine s_callVZ (d2 := d - 1) (As := []) (st := []) (pc2 := 62) X dX10_readsAll_59 rfl ml_RX10_270 im_X10_clauseHere se_X10_clauseHere kX10 rfl (c_X10_clauseHere (d - 1) (by omega) C.1 C.2.2.1 l0) hy_X10_clauseHere rfl rfl hf hlo (st_room (Nat.le_of_ble_eq_true rfl)) hcs (fun v3 hv3 => ?_)
        refine s_istore_n (pc2 := 63) X dX10_readsAll_62 rfl (by decide) rfl rfl cat1_R hv3 (fun w4 hw4 => ?_)
        refine s_goto (pc2 := 35) X dX10_readsAll_63 (by decide) ?_
        refine s_sub (lv2 := [(0, vR C.1.1 l0), (1, vI w4)]) [1, 0] rfl ?_
        exact ih l0 w4 hw4
set_option maxRecDepth 4000 in
set_option maxHeartbeats 20000000 in
theorem z_X10_readsAll (d : Nat) (hd : 12 ≤ d) {C : hCx} (K : hCtx C.1 C.2.2.1 d 0 0 "readsAll" C) (X : hOK C cX10_readsAll RX10 2 (some .boolean)) (l0 : Nat) : hSim C (some .boolean) 0 0 2 0 [(0, vR C.1.1 l0)] [] 0 0 (m_X10_readsAll l0) := by
  obtain ⟨⟨hf, hlo⟩, ⟨hc1, hc2⟩, hf1, hl1⟩ := K_room K (by omega)
  have hcs : 0 ≤ C.2.2.2.2.1.cells ∧ 0 ≤ C.2.2.2.2.1.slots := ⟨Nat.zero_le _, Nat.zero_le _⟩
  unfold m_X10_readsAll
  refine s_aload_n (j := 0) (pc2 := 1) X dX10_readsAll_0 rfl rfl ?_
  refine s_getR (pc2 := 4) X dX10_readsAll_1 rfl fl_RX10_17 rfl (fun v1 => ?_)
  refine s_aload_n (j := 0) (pc2 := 5) X dX10_readsAll_4 rfl rfl ?_
  refine s_getI (pc2 := 8) X dX10_readsAll_5 rfl fl_RX10_146 rfl (fun v2 hv2 => ?_)
  refine s_iconst (n := 0) (pc2 := 9) X dX10_readsAll_8 rfl ?_
  refine s_iast (pc2 := 10) X dX10_readsAll_9 rfl (inI_c 0 rfl) ?_
  refine s_aload_n (j := 0) (pc2 := 11) X dX10_readsAll_10 rfl rfl ?_
  refine s_iconst (n := 0) (pc2 := 12) X dX10_readsAll_11 rfl ?_
  refine s_putI (pc2 := 15) X dX10_readsAll_12 rfl fl_RX10_261 (Or.inl rfl) rfl (inI_c 0 rfl) ?_
  refine s_aload_n (j := 0) (pc2 := 16) X dX10_readsAll_15 rfl rfl ?_
  refine s_iconst (n := 0) (pc2 := 17) X dX10_readsAll_16 rfl ?_
  refine s_putI (pc2 := 20) X dX10_readsAll_17 rfl fl_RX10_90 (Or.inl rfl) rfl (inI_c 0 rfl) ?_
  refine s_aload_n (j := 0) (pc2 := 21) X dX10_readsAll_20 rfl rfl ?_
  refine s_iconst (n := 0) (pc2 := 22) X dX10_readsAll_21 rfl ?_
  refine s_putI (pc2 := 25) X dX10_readsAll_22 rfl fl_RX10_87 (Or.inl rfl) rfl (inI_c 0 rfl) ?_
  refine s_aload_n (j := 0) (pc2 := 26) X dX10_readsAll_25 rfl rfl ?_
  refine s_iconst (n := 0) (pc2 := 27) X dX10_readsAll_26 rfl ?_
  refine s_putI (pc2 := 30) X dX10_readsAll_27 rfl fl_RX10_149 (Or.inl rfl) rfl (inI_c 0 rfl) ?_
  refine s_aload_n (j := 0) (pc2 := 31) X dX10_readsAll_30 rfl rfl ?_
  refine s_callVZ (d2 := d - 1) (As := []) (st := []) (pc2 := 34) X dX10_readsAll_31 rfl ml_RX10_270 im_X10_clauseHere se_X10_clauseHere kX10 rfl (c_X10_clauseHere (d - 1) (by omega) C.1 C.2.2.1 l0) hy_X10_clauseHere rfl rfl hf hlo (st_room (Nat.le_of_ble_eq_true rfl)) hcs (fun v3 hv3 => ?_)
  refine s_istore_n (pc2 := 35) X dX10_readsAll_34 rfl (by decide) rfl rfl cat1_R hv3 (fun w4 hw4 => ?_)
  refine s_sub (lv2 := [(0, vR C.1.1 l0), (1, vI w4)]) [1, 0] rfl ?_
  exact z_X10_readsAll_L35 d hd K X 1000000000 l0 w4 hw4
theorem c_X10_readsAll (d : Nat) (hd : 12 ≤ d) (G : hG) (l : Launch) (l0 : Nat) : hMet G l yX10_readsAll cX10_readsAll 2 (some .boolean) d 0 0 [vR G.1 l0] (m_X10_readsAll l0) := by
  refine hMet.of (lv := [(0, vR G.1 l0)]) (by decide +kernel) (by simp [lg_sl, vR_cat, vI_cat, vL_cat, vS_cat2, vT_cat2]) (by simp [lv_args, vR_cat, vI_cat, vL_cat, vS_cat2, vT_cat2]) (fun C K X => ?_)
  obtain ⟨rfl, rfl, K⟩ := K
  exact z_X10_readsAll d hd ⟨rfl, rfl, K⟩ X l0
def m_X10_rule (l0 : Nat) : hM :=
  hgI 10 l0 2 fun v1 =>
  hif (v1 ≠ 6) (
hgI 10 l0 2 fun v2 =>
  hpI 10 l0 11 v2 <|
  hgR 10 l0 6 fun v3 =>
  hgI 10 l0 11 fun v4 =>
  hsI 20 v3 v4 0 <|
  hcallV 10 l0 (m_X10_readsAll l0) fun v5 =>
  hif (v5 ≠ 0) (
hgI 10 l0 2 fun v6 =>
  hpI 10 l0 2 ((w32 (v6 + 1))) <|
  hgI 10 l0 2 fun v7 =>
  hret ((w32 (v7 - 1)))) (
hgI 10 l0 9 fun v8 =>
  hret ((w32 (((-2)) - v8))))) (
hret ((-1)))
set_option maxRecDepth 4000 in
set_option maxHeartbeats 20000000 in
theorem z_X10_rule (d : Nat) (hd : 13 ≤ d) {C : hCx} (K : hCtx C.1 C.2.2.1 d 0 0 "rule" C) (X : hOK C cX10_rule RX10 1 (some .int)) (l0 : Nat) : hSim C (some .int) 0 0 1 0 [(0, vR C.1.1 l0)] [] 0 0 (m_X10_rule l0) := by
  obtain ⟨⟨hf, hlo⟩, ⟨hc1, hc2⟩, hf1, hl1⟩ := K_room K (by omega)
  have hcs : 0 ≤ C.2.2.2.2.1.cells ∧ 0 ≤ C.2.2.2.2.1.slots := ⟨Nat.zero_le _, Nat.zero_le _⟩
  unfold m_X10_rule
  refine s_aload_n (j := 0) (pc2 := 1) X dX10_rule_0 rfl rfl ?_
  refine s_getI (pc2 := 4) X dX10_rule_1 rfl fl_RX10_273 rfl (fun v1 hv1 => ?_)
  refine s_bipush (n := 6) (pc2 := 6) X dX10_rule_4 rfl rfl ?_
  refine s_icne (tgt := 11) X dX10_rule_6 (by decide) rfl hv1 (inI_c 6 rfl) ?_ ?_
  · refine s_aload_n (j := 0) (pc2 := 12) X dX10_rule_11 rfl rfl ?_
    refine s_aload_n (j := 0) (pc2 := 13) X dX10_rule_12 rfl rfl ?_
    refine s_getI (pc2 := 16) X dX10_rule_13 rfl fl_RX10_273 rfl (fun v2 hv2 => ?_)
    refine s_putI (pc2 := 19) X dX10_rule_16 rfl fl_RX10_146 (Or.inl rfl) rfl hv2 ?_
    refine s_aload_n (j := 0) (pc2 := 20) X dX10_rule_19 rfl rfl ?_
    refine s_getR (pc2 := 23) X dX10_rule_20 rfl fl_RX10_23 rfl (fun v3 => ?_)
    refine s_aload_n (j := 0) (pc2 := 24) X dX10_rule_23 rfl rfl ?_
    refine s_getI (pc2 := 27) X dX10_rule_24 rfl fl_RX10_146 rfl (fun v4 hv4 => ?_)
    refine s_iconst (n := 0) (pc2 := 28) X dX10_rule_27 rfl ?_
    refine s_iast (pc2 := 29) X dX10_rule_28 rfl (inI_c 0 rfl) ?_
    refine s_aload_n (j := 0) (pc2 := 30) X dX10_rule_29 rfl rfl ?_
    refine s_callVZ (d2 := d - 1) (As := []) (st := []) (pc2 := 33) X dX10_rule_30 rfl ml_RX10_276 im_X10_readsAll se_X10_readsAll kX10 rfl (c_X10_readsAll (d - 1) (by omega) C.1 C.2.2.1 l0) hy_X10_readsAll rfl rfl hf hlo (st_room (Nat.le_of_ble_eq_true rfl)) hcs (fun v5 hv5 => ?_)
    refine s_ifne (tgt := 44) X dX10_rule_33 (by decide) rfl hv5 ?_ ?_
    · refine s_aload_n (j := 0) (pc2 := 45) X dX10_rule_44 rfl rfl ?_
      refine s_dup (pc2 := 46) X dX10_rule_45 rfl (vR_cat _ _) ?_
      refine s_getI (pc2 := 49) X dX10_rule_46 rfl fl_RX10_273 rfl (fun v6 hv6 => ?_)
      refine s_iconst (n := 1) (pc2 := 50) X dX10_rule_49 rfl ?_
      refine s_iadd (pc2 := 51) X dX10_rule_50 rfl ?_
      refine s_putI (pc2 := 54) X dX10_rule_51 rfl fl_RX10_273 (Or.inl rfl) rfl (w32_in _) ?_
      refine s_aload_n (j := 0) (pc2 := 55) X dX10_rule_54 rfl rfl ?_
      refine s_getI (pc2 := 58) X dX10_rule_55 rfl fl_RX10_273 rfl (fun v7 hv7 => ?_)
      refine s_iconst (n := 1) (pc2 := 59) X dX10_rule_58 rfl ?_
      refine s_isub (pc2 := 60) X dX10_rule_59 rfl ?_
      exact s_iret X dX10_rule_60 (w32_in _)
    · refine s_bipush (n := (-2)) (pc2 := 38) X dX10_rule_36 rfl rfl ?_
      refine s_aload_n (j := 0) (pc2 := 39) X dX10_rule_38 rfl rfl ?_
      refine s_getI (pc2 := 42) X dX10_rule_39 rfl fl_RX10_87 rfl (fun v8 hv8 => ?_)
      refine s_isub (pc2 := 43) X dX10_rule_42 rfl ?_
      exact s_iret X dX10_rule_43 (w32_in _)
  · refine s_iconst (n := (-1)) (pc2 := 10) X dX10_rule_9 rfl ?_
    exact s_iret X dX10_rule_10 (inI_c (-1) rfl)
theorem c_X10_rule (d : Nat) (hd : 13 ≤ d) (G : hG) (l : Launch) (l0 : Nat) : hMet G l yX10_rule cX10_rule 1 (some .int) d 0 0 [vR G.1 l0] (m_X10_rule l0) := by
  refine hMet.of (lv := [(0, vR G.1 l0)]) (by decide +kernel) (by simp [lg_sl, vR_cat, vI_cat, vL_cat, vS_cat2, vT_cat2]) (by simp [lv_args, vR_cat, vI_cat, vL_cat, vS_cat2, vT_cat2]) (fun C K X => ?_)
  obtain ⟨rfl, rfl, K⟩ := K
  exact z_X10_rule d hd ⟨rfl, rfl, K⟩ X l0
def m_X10_town_L44 : Nat → Nat → Int → hM
  | 0, _, _ => hfail
  | n + 1, l0, l1 =>
    hif (l1 ≥ 160) (
hpI 10 l0 25 0 <|
  hgR 10 l0 20 fun v1 =>
  haI 20 v1 2 fun v2 =>
  hret v2) (
hgR 10 l0 20 fun v3 =>
  hgR 10 l0 7 fun v4 =>
  haI 20 v4 l1 fun v5 =>
  hsI 20 v3 l1 v5 <|
  hlet (w32 (l1 + 1)) fun (w6 : Int) =>
  m_X10_town_L44 n l0 w6)
def m_X10_town_L8 : Nat → Nat → Int → hM
  | 0, _, _ => hfail
  | n + 1, l0, l1 =>
    hif (l1 ≥ 10) (
hcallV 10 l0 (m_X10_readsAll l0) fun v1 =>
  hif (v1 ≠ 0) (
hlet (0 : Int) fun (w2 : Int) =>
  m_X10_town_L44 1000000000 l0 w2) (
hgI 10 l0 9 fun v3 =>
  hret ((w32 (((-2)) - v3))))) (
hgR 10 l0 7 fun v4 =>
  hsI 20 v4 l1 0 <|
  hlet (w32 (l1 + 1)) fun (w5 : Int) =>
  m_X10_town_L8 n l0 w5)
def m_X10_town (l0 : Nat) : hM :=
  hpI 10 l0 11 6 <|
  hlet (0 : Int) fun (w1 : Int) =>
  m_X10_town_L8 1000000000 l0 w1
set_option maxRecDepth 4000 in
theorem z_X10_town_L44 (d : Nat) (hd : 13 ≤ d) {C : hCx} (K : hCtx C.1 C.2.2.1 d 0 0 "town" C) (X : hOK C cX10_town RX10 2 (some .int)) : ∀ (n : Nat) (l0 : Nat) (l1 : Int) (h1 : inI l1), hSim C (some .int) 0 0 2 44 [(0, vR C.1.1 l0), (1, vI l1)] [] 0 0 (m_X10_town_L44 n l0 l1) := by
  obtain ⟨⟨hf, hlo⟩, ⟨hc1, hc2⟩, hf1, hl1⟩ := K_room K (by omega)
  have hcs : 0 ≤ C.2.2.2.2.1.cells ∧ 0 ≤ C.2.2.2.2.1.slots := ⟨Nat.zero_le _, Nat.zero_le _⟩
  intro n
  induction n with
  | zero => intros; exact s_none (fun _ => rfl)
  | succ n ih =>
    intro l0 l1 h1
    unfold m_X10_town_L44
    refine s_iload_n (j := 1) (pc2 := 45) X dX10_town_44 rfl rfl ?_
    refine s_sipush (n := 160) (pc2 := 48) X dX10_town_45 rfl rfl ?_
    refine s_icge (tgt := 69) X dX10_town_48 (by decide) rfl h1 (inI_c 160 rfl) ?_ ?_
    · refine s_aload_n (j := 0) (pc2 := 70) X dX10_town_69 rfl rfl ?_
      refine s_iconst (n := 0) (pc2 := 71) X dX10_town_70 rfl ?_
      refine s_putI (pc2 := 74) X dX10_town_71 rfl fl_RX10_279 (Or.inl rfl) rfl (inI_c 0 rfl) ?_
      refine s_aload_n (j := 0) (pc2 := 75) X dX10_town_74 rfl rfl ?_
      refine s_getR (pc2 := 78) X dX10_town_75 rfl fl_RX10_39 rfl (fun v1 => ?_)
      refine s_iconst (n := 2) (pc2 := 79) X dX10_town_78 rfl ?_
      refine s_iald (pc2 := 80) X dX10_town_79 rfl (fun v2 hv2 => ?_)
      exact s_iret X dX10_town_80 hv2
    · refine s_aload_n (j := 0) (pc2 := 52) X dX10_town_51 rfl rfl ?_
      refine s_getR (pc2 := 55) X dX10_town_52 rfl fl_RX10_39 rfl (fun v3 => ?_)
      refine s_iload_n (j := 1) (pc2 := 56) X dX10_town_55 rfl rfl ?_
      refine s_aload_n (j := 0) (pc2 := 57) X dX10_town_56 rfl rfl ?_
      refine s_getR (pc2 := 60) X dX10_town_57 rfl fl_RX10_26 rfl (fun v4 => ?_)
      refine s_iload_n (j := 1) (pc2 := 61) X dX10_town_60 rfl rfl ?_
      refine s_iald (pc2 := 62) X dX10_town_61 rfl (fun v5 hv5 => ?_)
      refine s_iast (pc2 := 63) X dX10_town_62 rfl hv5 ?_
      refine s_iinc (j := 1) (pc2 := 66) X dX10_town_63 rfl (by decide) rfl rfl rfl cat1_R (fun w6 hw6 => ?_)
      refine s_goto (pc2 := 44) X dX10_town_66 (by decide) ?_
      refine s_sub (lv2 := [(0, vR C.1.1 l0), (1, vI w6)]) [1, 0] rfl ?_
      exact ih l0 w6 hw6
set_option maxRecDepth 4000 in
theorem z_X10_town_L8 (d : Nat) (hd : 13 ≤ d) {C : hCx} (K : hCtx C.1 C.2.2.1 d 0 0 "town" C) (X : hOK C cX10_town RX10 2 (some .int)) : ∀ (n : Nat) (l0 : Nat) (l1 : Int) (h1 : inI l1), hSim C (some .int) 0 0 2 8 [(0, vR C.1.1 l0), (1, vI l1)] [] 0 0 (m_X10_town_L8 n l0 l1) := by
  obtain ⟨⟨hf, hlo⟩, ⟨hc1, hc2⟩, hf1, hl1⟩ := K_room K (by omega)
  have hcs : 0 ≤ C.2.2.2.2.1.cells ∧ 0 ≤ C.2.2.2.2.1.slots := ⟨Nat.zero_le _, Nat.zero_le _⟩
  intro n
  induction n with
  | zero => intros; exact s_none (fun _ => rfl)
  | succ n ih =>
    intro l0 l1 h1
    unfold m_X10_town_L8
    refine s_iload_n (j := 1) (pc2 := 9) X dX10_town_8 rfl rfl ?_
    refine s_bipush (n := 10) (pc2 := 11) X dX10_town_9 rfl rfl ?_
    refine s_icge (tgt := 27) X dX10_town_11 (by decide) rfl h1 (inI_c 10 rfl) ?_ ?_
    · refine s_aload_n (j := 0) (pc2 := 28) X dX10_town_27 rfl rfl ?_
      refine s_callVZ (d2 := d - 1) (As := []) (st := []) (pc2 := 31) X dX10_town_28 rfl ml_RX10_276 im_X10_readsAll se_X10_readsAll kX10 rfl (c_X10_readsAll (d - 1) (by omega) C.1 C.2.2.1 l0) hy_X10_readsAll rfl rfl hf hlo (st_room (Nat.le_of_ble_eq_true rfl)) hcs (fun v1 hv1 => ?_)
      refine s_ifne (tgt := 42) X dX10_town_31 (by decide) rfl hv1 ?_ ?_
      · refine s_iconst (n := 0) (pc2 := 43) X dX10_town_42 rfl ?_
        refine s_istore_n (pc2 := 44) X dX10_town_43 rfl (by decide) rfl rfl cat1_R (inI_c 0 rfl) (fun w2 hw2 => ?_)
        refine s_sub (lv2 := [(0, vR C.1.1 l0), (1, vI w2)]) [1, 0] rfl ?_
        exact z_X10_town_L44 d hd K X 1000000000 l0 w2 hw2
      · refine s_bipush (n := (-2)) (pc2 := 36) X dX10_town_34 rfl rfl ?_
        refine s_aload_n (j := 0) (pc2 := 37) X dX10_town_36 rfl rfl ?_
        refine s_getI (pc2 := 40) X dX10_town_37 rfl fl_RX10_87 rfl (fun v3 hv3 => ?_)
        refine s_isub (pc2 := 41) X dX10_town_40 rfl ?_
        exact s_iret X dX10_town_41 (w32_in _)
    · refine s_aload_n (j := 0) (pc2 := 15) X dX10_town_14 rfl rfl ?_
      refine s_getR (pc2 := 18) X dX10_town_15 rfl fl_RX10_26 rfl (fun v4 => ?_)
      refine s_iload_n (j := 1) (pc2 := 19) X dX10_town_18 rfl rfl ?_
      refine s_iconst (n := 0) (pc2 := 20) X dX10_town_19 rfl ?_
      refine s_iast (pc2 := 21) X dX10_town_20 rfl (inI_c 0 rfl) ?_
      refine s_iinc (j := 1) (pc2 := 24) X dX10_town_21 rfl (by decide) rfl rfl rfl cat1_R (fun w5 hw5 => ?_)
      refine s_goto (pc2 := 8) X dX10_town_24 (by decide) ?_
      refine s_sub (lv2 := [(0, vR C.1.1 l0), (1, vI w5)]) [1, 0] rfl ?_
      exact ih l0 w5 hw5
set_option maxRecDepth 4000 in
set_option maxHeartbeats 20000000 in
theorem z_X10_town (d : Nat) (hd : 13 ≤ d) {C : hCx} (K : hCtx C.1 C.2.2.1 d 0 0 "town" C) (X : hOK C cX10_town RX10 2 (some .int)) (l0 : Nat) : hSim C (some .int) 0 0 2 0 [(0, vR C.1.1 l0)] [] 0 0 (m_X10_town l0) := by
  obtain ⟨⟨hf, hlo⟩, ⟨hc1, hc2⟩, hf1, hl1⟩ := K_room K (by omega)
  have hcs : 0 ≤ C.2.2.2.2.1.cells ∧ 0 ≤ C.2.2.2.2.1.slots := ⟨Nat.zero_le _, Nat.zero_le _⟩
  unfold m_X10_town
  refine s_aload_n (j := 0) (pc2 := 1) X dX10_town_0 rfl rfl ?_
  refine s_bipush (n := 6) (pc2 := 3) X dX10_town_1 rfl rfl ?_
  refine s_putI (pc2 := 6) X dX10_town_3 rfl fl_RX10_146 (Or.inl rfl) rfl (inI_c 6 rfl) ?_
  refine s_iconst (n := 0) (pc2 := 7) X dX10_town_6 rfl ?_
  refine s_istore_n (pc2 := 8) X dX10_town_7 rfl (by decide) rfl rfl cat1_R (inI_c 0 rfl) (fun w1 hw1 => ?_)
  refine s_sub (lv2 := [(0, vR C.1.1 l0), (1, vI w1)]) [1, 0] rfl ?_
  exact z_X10_town_L8 d hd K X 1000000000 l0 w1 hw1
theorem c_X10_town (d : Nat) (hd : 13 ≤ d) (G : hG) (l : Launch) (l0 : Nat) : hMet G l yX10_town cX10_town 2 (some .int) d 0 0 [vR G.1 l0] (m_X10_town l0) := by
  refine hMet.of (lv := [(0, vR G.1 l0)]) (by decide +kernel) (by simp [lg_sl, vR_cat, vI_cat, vL_cat, vS_cat2, vT_cat2]) (by simp [lv_args, vR_cat, vI_cat, vL_cat, vS_cat2, vT_cat2]) (fun C K X => ?_)
  obtain ⟨rfl, rfl, K⟩ := K
  exact z_X10_town d hd ⟨rfl, rfl, K⟩ X l0
def m_X10_isRule_L17 (s0 : Int) : hM :=
  hretZ s0
def m_X10_isRule_L16 : hM :=
  m_X10_isRule_L17 0
def m_X10_isRule (l0 : Nat) (l1 : Int) : hM :=
  hif (l1 < 0) (
m_X10_isRule_L16) (
hgI 10 l0 2 fun v1 =>
  hif (l1 ≥ v1) (
m_X10_isRule_L16) (
m_X10_isRule_L17 1))
set_option maxRecDepth 4000 in
theorem z_X10_isRule_L17 (d : Nat) (hd : 1 ≤ d) {C : hCx} (K : hCtx C.1 C.2.2.1 d 0 0 "isRule" C) (X : hOK C cX10_isRule RX10 2 (some .boolean)) (s0 : Int) (g0 : inI s0) : hSim C (some .boolean) 0 0 2 17 [] [vI s0] 0 0 (m_X10_isRule_L17 s0) := by
  obtain ⟨⟨hf, hlo⟩, ⟨hc1, hc2⟩, hf1, hl1⟩ := K_room K (by omega)
  have hcs : 0 ≤ C.2.2.2.2.1.cells ∧ 0 ≤ C.2.2.2.2.1.slots := ⟨Nat.zero_le _, Nat.zero_le _⟩
  unfold m_X10_isRule_L17
  exact s_zret X dX10_isRule_17
set_option maxRecDepth 4000 in
theorem z_X10_isRule_L16 (d : Nat) (hd : 1 ≤ d) {C : hCx} (K : hCtx C.1 C.2.2.1 d 0 0 "isRule" C) (X : hOK C cX10_isRule RX10 2 (some .boolean)) : hSim C (some .boolean) 0 0 2 16 [] [] 0 0 (m_X10_isRule_L16) := by
  obtain ⟨⟨hf, hlo⟩, ⟨hc1, hc2⟩, hf1, hl1⟩ := K_room K (by omega)
  have hcs : 0 ≤ C.2.2.2.2.1.cells ∧ 0 ≤ C.2.2.2.2.1.slots := ⟨Nat.zero_le _, Nat.zero_le _⟩
  unfold m_X10_isRule_L16
  refine s_iconst (n := 0) (pc2 := 17) X dX10_isRule_16 rfl ?_
  exact z_X10_isRule_L17 d hd K X 0 (inI_c 0 rfl)
set_option maxRecDepth 4000 in
set_option maxHeartbeats 20000000 in
theorem z_X10_isRule (d : Nat) (hd : 1 ≤ d) {C : hCx} (K : hCtx C.1 C.2.2.1 d 0 0 "isRule" C) (X : hOK C cX10_isRule RX10 2 (some .boolean)) (l0 : Nat) (l1 : Int) (h1 : inI l1) : hSim C (some .boolean) 0 0 2 0 [(0, vR C.1.1 l0), (1, vI l1)] [] 0 0 (m_X10_isRule l0 l1) := by
  obtain ⟨⟨hf, hlo⟩, ⟨hc1, hc2⟩, hf1, hl1⟩ := K_room K (by omega)
  have hcs : 0 ≤ C.2.2.2.2.1.cells ∧ 0 ≤ C.2.2.2.2.1.slots := ⟨Nat.zero_le _, Nat.zero_le _⟩
  unfold m_X10_isRule
  refine s_iload_n (j := 1) (pc2 := 1) X dX10_isRule_0 rfl rfl ?_
  refine s_iflt (tgt := 16) X dX10_isRule_1 (by decide) rfl h1 ?_ ?_
  · refine s_sub (lv2 := []) [] rfl ?_
    exact z_X10_isRule_L16 d hd K X
  · refine s_iload_n (j := 1) (pc2 := 5) X dX10_isRule_4 rfl rfl ?_
    refine s_aload_n (j := 0) (pc2 := 6) X dX10_isRule_5 rfl rfl ?_
    refine s_getI (pc2 := 9) X dX10_isRule_6 rfl fl_RX10_273 rfl (fun v1 hv1 => ?_)
    refine s_icge (tgt := 16) X dX10_isRule_9 (by decide) rfl h1 hv1 ?_ ?_
    · refine s_sub (lv2 := []) [] rfl ?_
      exact z_X10_isRule_L16 d hd K X
    · refine s_iconst (n := 1) (pc2 := 13) X dX10_isRule_12 rfl ?_
      refine s_goto (pc2 := 17) X dX10_isRule_13 (by decide) ?_
      refine s_sub (lv2 := []) [] rfl ?_
      exact z_X10_isRule_L17 d hd K X 1 (inI_c 1 rfl)
theorem c_X10_isRule (d : Nat) (hd : 1 ≤ d) (G : hG) (l : Launch) (l0 : Nat) (l1 : Int) (h1 : inI l1) : hMet G l yX10_isRule cX10_isRule 2 (some .boolean) d 0 0 [vR G.1 l0, vI l1] (m_X10_isRule l0 l1) := by
  refine hMet.of (lv := [(0, vR G.1 l0), (1, vI l1)]) (by decide +kernel) (by simp [lg_sl, vR_cat, vI_cat, vL_cat, vS_cat2, vT_cat2]) (by simp [lv_args, vR_cat, vI_cat, vL_cat, vS_cat2, vT_cat2]) (fun C K X => ?_)
  obtain ⟨rfl, rfl, K⟩ := K
  exact z_X10_isRule d hd ⟨rfl, rfl, K⟩ X l0 l1 h1
def m_X10_push (l0 : Nat) (l1 : Int) : hM :=
  hgR 10 l0 17 fun v1 =>
  hgI 10 l0 18 fun v2 =>
  hsI 21 v1 v2 l1 <|
  hgI 10 l0 18 fun v3 =>
  hpI 10 l0 18 ((w32 (v3 + 1))) <|
  hret 0
set_option maxRecDepth 4000 in
set_option maxHeartbeats 20000000 in
theorem z_X10_push (d : Nat) (hd : 1 ≤ d) {C : hCx} (K : hCtx C.1 C.2.2.1 d 0 0 "push" C) (X : hOK C cX10_push RX10 3 none) (l0 : Nat) (l1 : Int) (h1 : inL l1) : hSim C none 0 0 3 0 [(0, vR C.1.1 l0), (1, vL l1)] [] 0 0 (m_X10_push l0 l1) := by
  obtain ⟨⟨hf, hlo⟩, ⟨hc1, hc2⟩, hf1, hl1⟩ := K_room K (by omega)
  have hcs : 0 ≤ C.2.2.2.2.1.cells ∧ 0 ≤ C.2.2.2.2.1.slots := ⟨Nat.zero_le _, Nat.zero_le _⟩
  unfold m_X10_push
  refine s_aload_n (j := 0) (pc2 := 1) X dX10_push_0 rfl rfl ?_
  refine s_getR (pc2 := 4) X dX10_push_1 rfl fl_RX10_32 rfl (fun v1 => ?_)
  refine s_aload_n (j := 0) (pc2 := 5) X dX10_push_4 rfl rfl ?_
  refine s_getI (pc2 := 8) X dX10_push_5 rfl fl_RX10_282 rfl (fun v2 hv2 => ?_)
  refine s_lload_n (j := 1) (pc2 := 9) X dX10_push_8 rfl rfl ?_
  refine s_last (pc2 := 10) X dX10_push_9 rfl h1 ?_
  refine s_aload_n (j := 0) (pc2 := 11) X dX10_push_10 rfl rfl ?_
  refine s_dup (pc2 := 12) X dX10_push_11 rfl (vR_cat _ _) ?_
  refine s_getI (pc2 := 15) X dX10_push_12 rfl fl_RX10_282 rfl (fun v3 hv3 => ?_)
  refine s_iconst (n := 1) (pc2 := 16) X dX10_push_15 rfl ?_
  refine s_iadd (pc2 := 17) X dX10_push_16 rfl ?_
  refine s_putI (pc2 := 20) X dX10_push_17 rfl fl_RX10_282 (Or.inl rfl) rfl (w32_in _) ?_
  exact s_ret X dX10_push_20
theorem c_X10_push (d : Nat) (hd : 1 ≤ d) (G : hG) (l : Launch) (l0 : Nat) (l1 : Int) (h1 : inL l1) : hMet G l yX10_push cX10_push 3 none d 0 0 [vR G.1 l0, vL l1] (m_X10_push l0 l1) := by
  refine hMet.of (lv := [(0, vR G.1 l0), (1, vL l1)]) (by decide +kernel) (by simp [lg_sl, vR_cat, vI_cat, vL_cat, vS_cat2, vT_cat2]) (by simp [lv_args, vR_cat, vI_cat, vL_cat, vS_cat2, vT_cat2]) (fun C K X => ?_)
  obtain ⟨rfl, rfl, K⟩ := K
  exact z_X10_push d hd ⟨rfl, rfl, K⟩ X l0 l1 h1
def m_X10_pop (l0 : Nat) : hM :=
  hgI 10 l0 18 fun v1 =>
  hpI 10 l0 18 ((w32 (v1 - 1))) <|
  hgR 10 l0 17 fun v2 =>
  hgI 10 l0 18 fun v3 =>
  haI 21 v2 v3 fun v4 =>
  hret v4
set_option maxRecDepth 4000 in
set_option maxHeartbeats 20000000 in
theorem z_X10_pop (d : Nat) (hd : 1 ≤ d) {C : hCx} (K : hCtx C.1 C.2.2.1 d 0 0 "pop" C) (X : hOK C cX10_pop RX10 1 (some .long)) (l0 : Nat) : hSim C (some .long) 0 0 1 0 [(0, vR C.1.1 l0)] [] 0 0 (m_X10_pop l0) := by
  obtain ⟨⟨hf, hlo⟩, ⟨hc1, hc2⟩, hf1, hl1⟩ := K_room K (by omega)
  have hcs : 0 ≤ C.2.2.2.2.1.cells ∧ 0 ≤ C.2.2.2.2.1.slots := ⟨Nat.zero_le _, Nat.zero_le _⟩
  unfold m_X10_pop
  refine s_aload_n (j := 0) (pc2 := 1) X dX10_pop_0 rfl rfl ?_
  refine s_dup (pc2 := 2) X dX10_pop_1 rfl (vR_cat _ _) ?_
  refine s_getI (pc2 := 5) X dX10_pop_2 rfl fl_RX10_282 rfl (fun v1 hv1 => ?_)
  refine s_iconst (n := 1) (pc2 := 6) X dX10_pop_5 rfl ?_
  refine s_isub (pc2 := 7) X dX10_pop_6 rfl ?_
  refine s_putI (pc2 := 10) X dX10_pop_7 rfl fl_RX10_282 (Or.inl rfl) rfl (w32_in _) ?_
  refine s_aload_n (j := 0) (pc2 := 11) X dX10_pop_10 rfl rfl ?_
  refine s_getR (pc2 := 14) X dX10_pop_11 rfl fl_RX10_32 rfl (fun v2 => ?_)
  refine s_aload_n (j := 0) (pc2 := 15) X dX10_pop_14 rfl rfl ?_
  refine s_getI (pc2 := 18) X dX10_pop_15 rfl fl_RX10_282 rfl (fun v3 hv3 => ?_)
  refine s_lald (pc2 := 19) X dX10_pop_18 rfl (fun v4 hv4 => ?_)
  exact s_lret X dX10_pop_19 hv4
theorem c_X10_pop (d : Nat) (hd : 1 ≤ d) (G : hG) (l : Launch) (l0 : Nat) : hMet G l yX10_pop cX10_pop 1 (some .long) d 0 0 [vR G.1 l0] (m_X10_pop l0) := by
  refine hMet.of (lv := [(0, vR G.1 l0)]) (by decide +kernel) (by simp [lg_sl, vR_cat, vI_cat, vL_cat, vS_cat2, vT_cat2]) (by simp [lv_args, vR_cat, vI_cat, vL_cat, vS_cat2, vT_cat2]) (fun C K X => ?_)
  obtain ⟨rfl, rfl, K⟩ := K
  exact z_X10_pop d hd ⟨rfl, rfl, K⟩ X l0
def m_X10_one_L93 (s0 : Int) : hM :=
  hret s0
def m_X10_one_L119 (s0 : Int) : hM :=
  hret s0
def m_X10_one_L131 (s0 : Int) : hM :=
  hret s0
def m_X10_one_L143 (s0 : Int) : hM :=
  hret s0
def m_X10_one_L155 (s0 : Int) : hM :=
  hret s0
def m_X10_one_L167 (s0 : Int) : hM :=
  hret s0
def m_X10_one_L172 (l1 : Int) (l3 : Int) : hM :=
  hret ((lorZ l1 l3))
def m_X10_one_L107 (s0 : Int) : hM :=
  hret s0
def m_X10_one (l0 : Int) (l1 : Int) (l3 : Int) : hM :=
  hif (l0 = 2) (
hret ((w64 (l1 + l3)))) <|
  hif (l0 = 3) (
hret ((w64 (l1 - l3)))) <|
  hif (l0 = 4) (
hret ((w64 (l1 * l3)))) <|
  hif (l0 = 5) (
hif (((lcmpZ l3 0)) ≠ 0) (
hnz l3 <|
  m_X10_one_L93 ((ldivZ l1 l3))) (
m_X10_one_L93 0)) <|
  hif (l0 = 6) (
hif (((lcmpZ l1 l3)) ≥ 0) (
m_X10_one_L119 0) (
m_X10_one_L119 1)) <|
  hif (l0 = 7) (
hif (((lcmpZ l1 l3)) > 0) (
m_X10_one_L131 0) (
m_X10_one_L131 1)) <|
  hif (l0 = 8) (
hif (((lcmpZ l1 l3)) ≠ 0) (
m_X10_one_L143 0) (
m_X10_one_L143 1)) <|
  hif (l0 = 9) (
hif (((lcmpZ l1 l3)) < 0) (
m_X10_one_L155 0) (
m_X10_one_L155 1)) <|
  hif (l0 = 10) (
hif (((lcmpZ l1 l3)) ≤ 0) (
m_X10_one_L167 0) (
m_X10_one_L167 1)) <|
  hif (l0 = 11) (
m_X10_one_L172 l1 l3) <|
  hif (l0 = 12) (
hret ((landZ l1 l3))) <|
  hif (l0 = 13) (
m_X10_one_L172 l1 l3) <|
  hif (l0 = 14) (
hif (((lcmpZ l3 0)) ≠ 0) (
hnz l3 <|
  m_X10_one_L107 ((lremZ l1 l3))) (
m_X10_one_L107 0)) <|
  m_X10_one_L172 l1 l3
set_option maxRecDepth 4000 in
theorem z_X10_one_L93 (d : Nat) (hd : 1 ≤ d) {C : hCx} (K : hCtx C.1 C.2.2.1 d 0 0 "one" C) (X : hOK C cX10_one RX10 5 (some .long)) (s0 : Int) (g0 : inL s0) : hSim C (some .long) 0 0 5 93 [] [vL s0] 0 0 (m_X10_one_L93 s0) := by
  obtain ⟨⟨hf, hlo⟩, ⟨hc1, hc2⟩, hf1, hl1⟩ := K_room K (by omega)
  have hcs : 0 ≤ C.2.2.2.2.1.cells ∧ 0 ≤ C.2.2.2.2.1.slots := ⟨Nat.zero_le _, Nat.zero_le _⟩
  unfold m_X10_one_L93
  exact s_lret X dX10_one_93 g0
set_option maxRecDepth 4000 in
theorem z_X10_one_L119 (d : Nat) (hd : 1 ≤ d) {C : hCx} (K : hCtx C.1 C.2.2.1 d 0 0 "one" C) (X : hOK C cX10_one RX10 5 (some .long)) (s0 : Int) (g0 : inL s0) : hSim C (some .long) 0 0 5 119 [] [vL s0] 0 0 (m_X10_one_L119 s0) := by
  obtain ⟨⟨hf, hlo⟩, ⟨hc1, hc2⟩, hf1, hl1⟩ := K_room K (by omega)
  have hcs : 0 ≤ C.2.2.2.2.1.cells ∧ 0 ≤ C.2.2.2.2.1.slots := ⟨Nat.zero_le _, Nat.zero_le _⟩
  unfold m_X10_one_L119
  exact s_lret X dX10_one_119 g0
set_option maxRecDepth 4000 in
theorem z_X10_one_L131 (d : Nat) (hd : 1 ≤ d) {C : hCx} (K : hCtx C.1 C.2.2.1 d 0 0 "one" C) (X : hOK C cX10_one RX10 5 (some .long)) (s0 : Int) (g0 : inL s0) : hSim C (some .long) 0 0 5 131 [] [vL s0] 0 0 (m_X10_one_L131 s0) := by
  obtain ⟨⟨hf, hlo⟩, ⟨hc1, hc2⟩, hf1, hl1⟩ := K_room K (by omega)
  have hcs : 0 ≤ C.2.2.2.2.1.cells ∧ 0 ≤ C.2.2.2.2.1.slots := ⟨Nat.zero_le _, Nat.zero_le _⟩
  unfold m_X10_one_L131
  exact s_lret X dX10_one_131 g0
set_option maxRecDepth 4000 in
theorem z_X10_one_L143 (d : Nat) (hd : 1 ≤ d) {C : hCx} (K : hCtx C.1 C.2.2.1 d 0 0 "one" C) (X : hOK C cX10_one RX10 5 (some .long)) (s0 : Int) (g0 : inL s0) : hSim C (some .long) 0 0 5 143 [] [vL s0] 0 0 (m_X10_one_L143 s0) := by
  obtain ⟨⟨hf, hlo⟩, ⟨hc1, hc2⟩, hf1, hl1⟩ := K_room K (by omega)
  have hcs : 0 ≤ C.2.2.2.2.1.cells ∧ 0 ≤ C.2.2.2.2.1.slots := ⟨Nat.zero_le _, Nat.zero_le _⟩
  unfold m_X10_one_L143
  exact s_lret X dX10_one_143 g0
set_option maxRecDepth 4000 in
theorem z_X10_one_L155 (d : Nat) (hd : 1 ≤ d) {C : hCx} (K : hCtx C.1 C.2.2.1 d 0 0 "one" C) (X : hOK C cX10_one RX10 5 (some .long)) (s0 : Int) (g0 : inL s0) : hSim C (some .long) 0 0 5 155 [] [vL s0] 0 0 (m_X10_one_L155 s0) := by
  obtain ⟨⟨hf, hlo⟩, ⟨hc1, hc2⟩, hf1, hl1⟩ := K_room K (by omega)
  have hcs : 0 ≤ C.2.2.2.2.1.cells ∧ 0 ≤ C.2.2.2.2.1.slots := ⟨Nat.zero_le _, Nat.zero_le _⟩
  unfold m_X10_one_L155
  exact s_lret X dX10_one_155 g0
set_option maxRecDepth 4000 in
theorem z_X10_one_L167 (d : Nat) (hd : 1 ≤ d) {C : hCx} (K : hCtx C.1 C.2.2.1 d 0 0 "one" C) (X : hOK C cX10_one RX10 5 (some .long)) (s0 : Int) (g0 : inL s0) : hSim C (some .long) 0 0 5 167 [] [vL s0] 0 0 (m_X10_one_L167 s0) := by
  obtain ⟨⟨hf, hlo⟩, ⟨hc1, hc2⟩, hf1, hl1⟩ := K_room K (by omega)
  have hcs : 0 ≤ C.2.2.2.2.1.cells ∧ 0 ≤ C.2.2.2.2.1.slots := ⟨Nat.zero_le _, Nat.zero_le _⟩
  unfold m_X10_one_L167
  exact s_lret X dX10_one_167 g0
set_option maxRecDepth 4000 in
theorem z_X10_one_L172 (d : Nat) (hd : 1 ≤ d) {C : hCx} (K : hCtx C.1 C.2.2.1 d 0 0 "one" C) (X : hOK C cX10_one RX10 5 (some .long)) (l1 : Int) (l3 : Int) (h1 : inL l1) (h3 : inL l3) : hSim C (some .long) 0 0 5 172 [(1, vL l1), (3, vL l3)] [] 0 0 (m_X10_one_L172 l1 l3) := by
  obtain ⟨⟨hf, hlo⟩, ⟨hc1, hc2⟩, hf1, hl1⟩ := K_room K (by omega)
  have hcs : 0 ≤ C.2.2.2.2.1.cells ∧ 0 ≤ C.2.2.2.2.1.slots := ⟨Nat.zero_le _, Nat.zero_le _⟩
  unfold m_X10_one_L172
  refine s_lload_n (j := 0) (pc2 := 173) X dX10_one_172 rfl rfl ?_
  refine s_lload_n (j := 1) (pc2 := 174) X dX10_one_173 rfl rfl ?_
  refine s_lor (pc2 := 175) X dX10_one_174 rfl ?_
  exact s_lret X dX10_one_175 (lorZ_in _ _)
set_option maxRecDepth 4000 in
theorem z_X10_one_L107 (d : Nat) (hd : 1 ≤ d) {C : hCx} (K : hCtx C.1 C.2.2.1 d 0 0 "one" C) (X : hOK C cX10_one RX10 5 (some .long)) (s0 : Int) (g0 : inL s0) : hSim C (some .long) 0 0 5 107 [] [vL s0] 0 0 (m_X10_one_L107 s0) := by
  obtain ⟨⟨hf, hlo⟩, ⟨hc1, hc2⟩, hf1, hl1⟩ := K_room K (by omega)
  have hcs : 0 ≤ C.2.2.2.2.1.cells ∧ 0 ≤ C.2.2.2.2.1.slots := ⟨Nat.zero_le _, Nat.zero_le _⟩
  unfold m_X10_one_L107
  exact s_lret X dX10_one_107 g0
set_option maxRecDepth 4000 in
set_option maxHeartbeats 20000000 in
theorem z_X10_one (d : Nat) (hd : 1 ≤ d) {C : hCx} (K : hCtx C.1 C.2.2.1 d 0 0 "one" C) (X : hOK C cX10_one RX10 5 (some .long)) (l0 : Int) (l1 : Int) (l3 : Int) (h0 : inI l0) (h1 : inL l1) (h3 : inL l3) : hSim C (some .long) 0 0 5 0 [(0, vI l0), (1, vL l1), (3, vL l3)] [] 0 0 (m_X10_one l0 l1 l3) := by
  obtain ⟨⟨hf, hlo⟩, ⟨hc1, hc2⟩, hf1, hl1⟩ := K_room K (by omega)
  have hcs : 0 ≤ C.2.2.2.2.1.cells ∧ 0 ≤ C.2.2.2.2.1.slots := ⟨Nat.zero_le _, Nat.zero_le _⟩
  unfold m_X10_one
  refine s_iload_n (j := 0) (pc2 := 1) X dX10_one_0 rfl rfl ?_
  refine s_split (fun e1_0 => ?_) (fun e1_0 => ?_)
  · refine s_tsin (tgt := 68) 2 X dX10_one_1 e1_0 (inI_c 2 rfl) (by decide) (by decide) rfl (by decide) ?_
    refine s_lload_n (j := 1) (pc2 := 69) X dX10_one_68 rfl rfl ?_
    refine s_lload_n (j := 2) (pc2 := 70) X dX10_one_69 rfl rfl ?_
    refine s_ladd (pc2 := 71) X dX10_one_70 rfl ?_
    exact s_lret X dX10_one_71 (w64_in _)
  refine s_split (fun e1_1 => ?_) (fun e1_1 => ?_)
  · refine s_tsin (tgt := 72) 3 X dX10_one_1 e1_1 (inI_c 3 rfl) (by decide) (by decide) rfl (by decide) ?_
    refine s_lload_n (j := 1) (pc2 := 73) X dX10_one_72 rfl rfl ?_
    refine s_lload_n (j := 2) (pc2 := 74) X dX10_one_73 rfl rfl ?_
    refine s_lsub (pc2 := 75) X dX10_one_74 rfl ?_
    exact s_lret X dX10_one_75 (w64_in _)
  refine s_split (fun e1_2 => ?_) (fun e1_2 => ?_)
  · refine s_tsin (tgt := 76) 4 X dX10_one_1 e1_2 (inI_c 4 rfl) (by decide) (by decide) rfl (by decide) ?_
    refine s_lload_n (j := 1) (pc2 := 77) X dX10_one_76 rfl rfl ?_
    refine s_lload_n (j := 2) (pc2 := 78) X dX10_one_77 rfl rfl ?_
    refine s_lmul (pc2 := 79) X dX10_one_78 rfl ?_
    exact s_lret X dX10_one_79 (w64_in _)
  refine s_split (fun e1_3 => ?_) (fun e1_3 => ?_)
  · refine s_tsin (tgt := 80) 5 X dX10_one_1 e1_3 (inI_c 5 rfl) (by decide) (by decide) rfl (by decide) ?_
    refine s_lload_n (j := 2) (pc2 := 81) X dX10_one_80 rfl rfl ?_
    refine s_lconst (z := 0) (pc2 := 82) X dX10_one_81 rfl rfl ?_
    refine s_lcmp (pc2 := 83) X dX10_one_82 rfl h3 (inL_c 0 rfl) ?_
    refine s_ifne (tgt := 90) X dX10_one_83 (by decide) rfl (lcmpZ_in _ _) ?_ ?_
    · refine s_lload_n (j := 1) (pc2 := 91) X dX10_one_90 rfl rfl ?_
      refine s_lload_n (j := 2) (pc2 := 92) X dX10_one_91 rfl rfl ?_
      refine s_ldiv (pc2 := 93) X dX10_one_92 rfl h1 h3 ?_
      refine s_sub (lv2 := []) [] rfl ?_
      exact z_X10_one_L93 d hd K X ((ldivZ l1 l3)) (ldivZ_in _ _)
    · refine s_lconst (z := 0) (pc2 := 87) X dX10_one_86 rfl rfl ?_
      refine s_goto (pc2 := 93) X dX10_one_87 (by decide) ?_
      refine s_sub (lv2 := []) [] rfl ?_
      exact z_X10_one_L93 d hd K X 0 (inL_c 0 rfl)
  refine s_split (fun e1_4 => ?_) (fun e1_4 => ?_)
  · refine s_tsin (tgt := 108) 6 X dX10_one_1 e1_4 (inI_c 6 rfl) (by decide) (by decide) rfl (by decide) ?_
    refine s_lload_n (j := 1) (pc2 := 109) X dX10_one_108 rfl rfl ?_
    refine s_lload_n (j := 2) (pc2 := 110) X dX10_one_109 rfl rfl ?_
    refine s_lcmp (pc2 := 111) X dX10_one_110 rfl h1 h3 ?_
    refine s_ifge (tgt := 118) X dX10_one_111 (by decide) rfl (lcmpZ_in _ _) ?_ ?_
    · refine s_lconst (z := 0) (pc2 := 119) X dX10_one_118 rfl rfl ?_
      refine s_sub (lv2 := []) [] rfl ?_
      exact z_X10_one_L119 d hd K X 0 (inL_c 0 rfl)
    · refine s_lconst (z := 1) (pc2 := 115) X dX10_one_114 rfl rfl ?_
      refine s_goto (pc2 := 119) X dX10_one_115 (by decide) ?_
      refine s_sub (lv2 := []) [] rfl ?_
      exact z_X10_one_L119 d hd K X 1 (inL_c 1 rfl)
  refine s_split (fun e1_5 => ?_) (fun e1_5 => ?_)
  · refine s_tsin (tgt := 120) 7 X dX10_one_1 e1_5 (inI_c 7 rfl) (by decide) (by decide) rfl (by decide) ?_
    refine s_lload_n (j := 1) (pc2 := 121) X dX10_one_120 rfl rfl ?_
    refine s_lload_n (j := 2) (pc2 := 122) X dX10_one_121 rfl rfl ?_
    refine s_lcmp (pc2 := 123) X dX10_one_122 rfl h1 h3 ?_
    refine s_ifgt (tgt := 130) X dX10_one_123 (by decide) rfl (lcmpZ_in _ _) ?_ ?_
    · refine s_lconst (z := 0) (pc2 := 131) X dX10_one_130 rfl rfl ?_
      refine s_sub (lv2 := []) [] rfl ?_
      exact z_X10_one_L131 d hd K X 0 (inL_c 0 rfl)
    · refine s_lconst (z := 1) (pc2 := 127) X dX10_one_126 rfl rfl ?_
      refine s_goto (pc2 := 131) X dX10_one_127 (by decide) ?_
      refine s_sub (lv2 := []) [] rfl ?_
      exact z_X10_one_L131 d hd K X 1 (inL_c 1 rfl)
  refine s_split (fun e1_6 => ?_) (fun e1_6 => ?_)
  · refine s_tsin (tgt := 132) 8 X dX10_one_1 e1_6 (inI_c 8 rfl) (by decide) (by decide) rfl (by decide) ?_
    refine s_lload_n (j := 1) (pc2 := 133) X dX10_one_132 rfl rfl ?_
    refine s_lload_n (j := 2) (pc2 := 134) X dX10_one_133 rfl rfl ?_
    refine s_lcmp (pc2 := 135) X dX10_one_134 rfl h1 h3 ?_
    refine s_ifne (tgt := 142) X dX10_one_135 (by decide) rfl (lcmpZ_in _ _) ?_ ?_
    · refine s_lconst (z := 0) (pc2 := 143) X dX10_one_142 rfl rfl ?_
      refine s_sub (lv2 := []) [] rfl ?_
      exact z_X10_one_L143 d hd K X 0 (inL_c 0 rfl)
    · refine s_lconst (z := 1) (pc2 := 139) X dX10_one_138 rfl rfl ?_
      refine s_goto (pc2 := 143) X dX10_one_139 (by decide) ?_
      refine s_sub (lv2 := []) [] rfl ?_
      exact z_X10_one_L143 d hd K X 1 (inL_c 1 rfl)
  refine s_split (fun e1_7 => ?_) (fun e1_7 => ?_)
  · refine s_tsin (tgt := 144) 9 X dX10_one_1 e1_7 (inI_c 9 rfl) (by decide) (by decide) rfl (by decide) ?_
    refine s_lload_n (j := 1) (pc2 := 145) X dX10_one_144 rfl rfl ?_
    refine s_lload_n (j := 2) (pc2 := 146) X dX10_one_145 rfl rfl ?_
    refine s_lcmp (pc2 := 147) X dX10_one_146 rfl h1 h3 ?_
    refine s_iflt (tgt := 154) X dX10_one_147 (by decide) rfl (lcmpZ_in _ _) ?_ ?_
    · refine s_lconst (z := 0) (pc2 := 155) X dX10_one_154 rfl rfl ?_
      refine s_sub (lv2 := []) [] rfl ?_
      exact z_X10_one_L155 d hd K X 0 (inL_c 0 rfl)
    · refine s_lconst (z := 1) (pc2 := 151) X dX10_one_150 rfl rfl ?_
      refine s_goto (pc2 := 155) X dX10_one_151 (by decide) ?_
      refine s_sub (lv2 := []) [] rfl ?_
      exact z_X10_one_L155 d hd K X 1 (inL_c 1 rfl)
  refine s_split (fun e1_8 => ?_) (fun e1_8 => ?_)
  · refine s_tsin (tgt := 156) 10 X dX10_one_1 e1_8 (inI_c 10 rfl) (by decide) (by decide) rfl (by decide) ?_
    refine s_lload_n (j := 1) (pc2 := 157) X dX10_one_156 rfl rfl ?_
    refine s_lload_n (j := 2) (pc2 := 158) X dX10_one_157 rfl rfl ?_
    refine s_lcmp (pc2 := 159) X dX10_one_158 rfl h1 h3 ?_
    refine s_ifle (tgt := 166) X dX10_one_159 (by decide) rfl (lcmpZ_in _ _) ?_ ?_
    · refine s_lconst (z := 0) (pc2 := 167) X dX10_one_166 rfl rfl ?_
      refine s_sub (lv2 := []) [] rfl ?_
      exact z_X10_one_L167 d hd K X 0 (inL_c 0 rfl)
    · refine s_lconst (z := 1) (pc2 := 163) X dX10_one_162 rfl rfl ?_
      refine s_goto (pc2 := 167) X dX10_one_163 (by decide) ?_
      refine s_sub (lv2 := []) [] rfl ?_
      exact z_X10_one_L167 d hd K X 1 (inL_c 1 rfl)
  refine s_split (fun e1_9 => ?_) (fun e1_9 => ?_)
  · refine s_tsin (tgt := 172) 11 X dX10_one_1 e1_9 (inI_c 11 rfl) (by decide) (by decide) rfl (by decide) ?_
    refine s_sub (lv2 := [(1, vL l1), (3, vL l3)]) [1, 2] rfl ?_
    exact z_X10_one_L172 d hd K X l1 l3 h1 h3
  refine s_split (fun e1_10 => ?_) (fun e1_10 => ?_)
  · refine s_tsin (tgt := 168) 12 X dX10_one_1 e1_10 (inI_c 12 rfl) (by decide) (by decide) rfl (by decide) ?_
    refine s_lload_n (j := 1) (pc2 := 169) X dX10_one_168 rfl rfl ?_
    refine s_lload_n (j := 2) (pc2 := 170) X dX10_one_169 rfl rfl ?_
    refine s_land (pc2 := 171) X dX10_one_170 rfl ?_
    exact s_lret X dX10_one_171 (landZ_in _ _)
  refine s_split (fun e1_11 => ?_) (fun e1_11 => ?_)
  · refine s_tsin (tgt := 172) 13 X dX10_one_1 e1_11 (inI_c 13 rfl) (by decide) (by decide) rfl (by decide) ?_
    refine s_sub (lv2 := [(1, vL l1), (3, vL l3)]) [1, 2] rfl ?_
    exact z_X10_one_L172 d hd K X l1 l3 h1 h3
  refine s_split (fun e1_12 => ?_) (fun e1_12 => ?_)
  · refine s_tsin (tgt := 94) 14 X dX10_one_1 e1_12 (inI_c 14 rfl) (by decide) (by decide) rfl (by decide) ?_
    refine s_lload_n (j := 2) (pc2 := 95) X dX10_one_94 rfl rfl ?_
    refine s_lconst (z := 0) (pc2 := 96) X dX10_one_95 rfl rfl ?_
    refine s_lcmp (pc2 := 97) X dX10_one_96 rfl h3 (inL_c 0 rfl) ?_
    refine s_ifne (tgt := 104) X dX10_one_97 (by decide) rfl (lcmpZ_in _ _) ?_ ?_
    · refine s_lload_n (j := 1) (pc2 := 105) X dX10_one_104 rfl rfl ?_
      refine s_lload_n (j := 2) (pc2 := 106) X dX10_one_105 rfl rfl ?_
      refine s_lrem (pc2 := 107) X dX10_one_106 rfl h1 h3 ?_
      refine s_sub (lv2 := []) [] rfl ?_
      exact z_X10_one_L107 d hd K X ((lremZ l1 l3)) (lremZ_in h1 h3)
    · refine s_lconst (z := 0) (pc2 := 101) X dX10_one_100 rfl rfl ?_
      refine s_goto (pc2 := 107) X dX10_one_101 (by decide) ?_
      refine s_sub (lv2 := []) [] rfl ?_
      exact z_X10_one_L107 d hd K X 0 (inL_c 0 rfl)
  refine s_tsout (tgt := 172) X dX10_one_1 h0 (by omega) (by decide) ?_
  refine s_sub (lv2 := [(1, vL l1), (3, vL l3)]) [1, 2] rfl ?_
  exact z_X10_one_L172 d hd K X l1 l3 h1 h3
theorem c_X10_one (d : Nat) (hd : 1 ≤ d) (G : hG) (l : Launch) (l0 : Int) (l1 : Int) (l3 : Int) (h0 : inI l0) (h1 : inL l1) (h3 : inL l3) : hMet G l yX10_one cX10_one 5 (some .long) d 0 0 [vI l0, vL l1, vL l3] (m_X10_one l0 l1 l3) := by
  refine hMet.of (lv := [(0, vI l0), (1, vL l1), (3, vL l3)]) (by decide +kernel) (by simp [lg_sl, vR_cat, vI_cat, vL_cat, vS_cat2, vT_cat2]) (by simp [lv_args, vR_cat, vI_cat, vL_cat, vS_cat2, vT_cat2]) (fun C K X => ?_)
  obtain ⟨rfl, rfl, K⟩ := K
  exact z_X10_one d hd ⟨rfl, rfl, K⟩ X l0 l1 l3 h0 h1 h3
def m_X10_reckons_L129 (k8 : Nat → Int → Int → Int → hM) (l0 : Nat) (l1 : Int) (l3 : Int) (l4 : Int) : hM :=
  hlet (w32 (l4 + 1)) fun (w1 : Int) =>
  k8 l0 l1 l3 w1
def m_X10_reckons_L8 : Nat → Nat → Int → Int → Int → hM
  | 0, _, _, _, _ => hfail
  | n + 1, l0, l1, l3, l4 =>
    hif (l4 ≥ l3) (
hcallV 10 l0 (m_X10_pop l0) fun v1 =>
  hret v1) (
hgR 10 l0 3 fun v2 =>
  haI 20 v2 ((w32 (((w32 (400 * l1))) + l4))) fun v3 =>
  hlet ((iandZ v3 15)) fun (w4 : Int) =>
  hgR 10 l0 3 fun v5 =>
  haI 20 v5 ((w32 (((w32 (400 * l1))) + l4))) fun v6 =>
  hlet ((ishrZ v6 4)) fun (w7 : Int) =>
  hif (w4 ≠ 0) (
hif (w4 ≠ 1) (
hif (w4 ≠ 11) (
hcallV 10 l0 (m_X10_pop l0) fun v8 =>
  hlet v8 fun (w9 : Int) =>
  hcallV 10 l0 (m_X10_pop l0) fun v10 =>
  hlet v10 fun (w11 : Int) =>
  hcall (m_X10_one w4 w11 w9) fun v12 =>
  hcallV 10 l0 (m_X10_push l0 v12) fun _ =>
  m_X10_reckons_L129 (m_X10_reckons_L8 n) l0 l1 l3 l4) (
hcallV 10 l0 (m_X10_pop l0) fun v13 =>
  hcallV 10 l0 (m_X10_push l0 ((w64 (1 - v13)))) fun _ =>
  m_X10_reckons_L129 (m_X10_reckons_L8 n) l0 l1 l3 l4)) (
hgR 10 l0 19 fun v14 =>
  haI 21 v14 w7 fun v15 =>
  hcallV 10 l0 (m_X10_push l0 v15) fun _ =>
  m_X10_reckons_L129 (m_X10_reckons_L8 n) l0 l1 l3 l4)) (
hcallV 10 l0 (m_X10_push l0 w7) fun _ =>
  m_X10_reckons_L129 (m_X10_reckons_L8 n) l0 l1 l3 l4))
def m_X10_reckons (l0 : Nat) (l1 : Int) (l2 : Int) (l3 : Int) : hM :=
  hpI 10 l0 18 0 <|
  hlet l2 fun (w1 : Int) =>
  m_X10_reckons_L8 1000000000 l0 l1 l3 w1
set_option maxRecDepth 4000 in
theorem z_X10_reckons_L129 (d : Nat) (hd : 2 ≤ d) {C : hCx} (K : hCtx C.1 C.2.2.1 d 0 0 "reckons" C) (X : hOK C cX10_reckons RX10 11 (some .long)) (k8 : Nat → Int → Int → Int → hM) (hk8 : ∀ (l0 : Nat) (l1 : Int) (l3 : Int) (l4 : Int), inI l1 → inI l3 → inI l4 → hSim C (some .long) 0 0 11 8 [(0, vR C.1.1 l0), (1, vI l1), (3, vI l3), (4, vI l4)] [] 0 0 (k8 l0 l1 l3 l4)) (l0 : Nat) (l1 : Int) (l3 : Int) (l4 : Int) (h1 : inI l1) (h3 : inI l3) (h4 : inI l4) : hSim C (some .long) 0 0 11 129 [(0, vR C.1.1 l0), (1, vI l1), (3, vI l3), (4, vI l4)] [] 0 0 (m_X10_reckons_L129 k8 l0 l1 l3 l4) := by
  obtain ⟨⟨hf, hlo⟩, ⟨hc1, hc2⟩, hf1, hl1⟩ := K_room K (by omega)
  have hcs : 0 ≤ C.2.2.2.2.1.cells ∧ 0 ≤ C.2.2.2.2.1.slots := ⟨Nat.zero_le _, Nat.zero_le _⟩
  unfold m_X10_reckons_L129
  refine s_iinc (j := 3) (pc2 := 132) X dX10_reckons_129 rfl (by decide) rfl rfl rfl cat1_I (fun w1 hw1 => ?_)
  refine s_goto (pc2 := 8) X dX10_reckons_132 (by decide) ?_
  refine s_sub (lv2 := [(0, vR C.1.1 l0), (1, vI l1), (3, vI l3), (4, vI w1)]) [1, 2, 3, 0] rfl ?_
  exact hk8 l0 l1 l3 w1 h1 h3 hw1
set_option maxRecDepth 4000 in
theorem z_X10_reckons_L8 (d : Nat) (hd : 2 ≤ d) {C : hCx} (K : hCtx C.1 C.2.2.1 d 0 0 "reckons" C) (X : hOK C cX10_reckons RX10 11 (some .long)) : ∀ (n : Nat) (l0 : Nat) (l1 : Int) (l3 : Int) (l4 : Int) (h1 : inI l1) (h3 : inI l3) (h4 : inI l4), hSim C (some .long) 0 0 11 8 [(0, vR C.1.1 l0), (1, vI l1), (3, vI l3), (4, vI l4)] [] 0 0 (m_X10_reckons_L8 n l0 l1 l3 l4) := by
  obtain ⟨⟨hf, hlo⟩, ⟨hc1, hc2⟩, hf1, hl1⟩ := K_room K (by omega)
  have hcs : 0 ≤ C.2.2.2.2.1.cells ∧ 0 ≤ C.2.2.2.2.1.slots := ⟨Nat.zero_le _, Nat.zero_le _⟩
  intro n
  induction n with
  | zero => intros; exact s_none (fun _ => rfl)
  | succ n ih =>
    intro l0 l1 l3 l4 h1 h3 h4
    unfold m_X10_reckons_L8
    refine s_iload (j := 3) (pc2 := 10) X dX10_reckons_8 rfl rfl ?_
    refine s_iload_n (j := 2) (pc2 := 11) X dX10_reckons_10 rfl rfl ?_
    refine s_icge (tgt := 135) X dX10_reckons_11 (by decide) rfl h4 h3 ?_ ?_
    · refine s_aload_n (j := 0) (pc2 := 136) X dX10_reckons_135 rfl rfl ?_
      refine s_callVL (d2 := d - 1) (As := []) (st := []) (pc2 := 139) X dX10_reckons_136 rfl ml_RX10_289 im_X10_pop se_X10_pop kX10 rfl (c_X10_pop (d - 1) (by omega) C.1 C.2.2.1 l0) hy_X10_pop rfl rfl hf hlo (st_room (Nat.le_of_ble_eq_true rfl)) hcs (fun v1 hv1 => ?_)
      exact s_lret X dX10_reckons_139 hv1
    · refine s_aload_n (j := 0) (pc2 := 15) X dX10_reckons_14 rfl rfl ?_
      refine s_getR (pc2 := 18) X dX10_reckons_15 rfl fl_RX10_13 rfl (fun v2 => ?_)
      refine s_sipush (n := 400) (pc2 := 21) X dX10_reckons_18 rfl rfl ?_
      refine s_iload_n (j := 1) (pc2 := 22) X dX10_reckons_21 rfl rfl ?_
      refine s_imul (pc2 := 23) X dX10_reckons_22 rfl ?_
      refine s_iload (j := 3) (pc2 := 25) X dX10_reckons_23 rfl rfl ?_
      refine s_iadd (pc2 := 26) X dX10_reckons_25 rfl ?_
      refine s_iald (pc2 := 27) X dX10_reckons_26 rfl (fun v3 hv3 => ?_)
      refine s_bipush (n := 15) (pc2 := 29) X dX10_reckons_27 rfl rfl ?_
      refine s_iand (pc2 := 30) X dX10_reckons_29 rfl ?_
      refine s_istore (pc2 := 32) X dX10_reckons_30 rfl (by decide) rfl rfl cat1_I (iandZ_in _ _) (fun w4 hw4 => ?_)
      refine s_aload_n (j := 1) (pc2 := 33) X dX10_reckons_32 rfl rfl ?_
      refine s_getR (pc2 := 36) X dX10_reckons_33 rfl fl_RX10_13 rfl (fun v5 => ?_)
      refine s_sipush (n := 400) (pc2 := 39) X dX10_reckons_36 rfl rfl ?_
      refine s_iload_n (j := 2) (pc2 := 40) X dX10_reckons_39 rfl rfl ?_
      refine s_imul (pc2 := 41) X dX10_reckons_40 rfl ?_
      refine s_iload (j := 4) (pc2 := 43) X dX10_reckons_41 rfl rfl ?_
      refine s_iadd (pc2 := 44) X dX10_reckons_43 rfl ?_
      refine s_iald (pc2 := 45) X dX10_reckons_44 rfl (fun v6 hv6 => ?_)
      refine s_iconst (n := 4) (pc2 := 46) X dX10_reckons_45 rfl ?_
      refine s_ishr (pc2 := 47) X dX10_reckons_46 rfl ?_
      refine s_istore (pc2 := 49) X dX10_reckons_47 rfl (by decide) rfl rfl cat1_I (ishrZ_in _ _) (fun w7 hw7 => ?_)
      refine s_iload (j := 1) (pc2 := 51) X dX10_reckons_49 rfl rfl ?_
      refine s_ifne (tgt := 64) X dX10_reckons_51 (by decide) rfl hw4 ?_ ?_
      · refine s_iload (j := 1) (pc2 := 66) X dX10_reckons_64 rfl rfl ?_
        refine s_iconst (n := 1) (pc2 := 67) X dX10_reckons_66 rfl ?_
        refine s_icne (tgt := 84) X dX10_reckons_67 (by decide) rfl hw4 (inI_c 1 rfl) ?_ ?_
        · refine s_iload (j := 1) (pc2 := 86) X dX10_reckons_84 rfl rfl ?_
          refine s_bipush (n := 11) (pc2 := 88) X dX10_reckons_86 rfl rfl ?_
          refine s_icne (tgt := 104) X dX10_reckons_88 (by decide) rfl hw4 (inI_c 11 rfl) ?_ ?_
          · refine s_aload_n (j := 2) (pc2 := 105) X dX10_reckons_104 rfl rfl ?_
            refine s_callVL (d2 := d - 1) (As := []) (st := []) (pc2 := 108) X dX10_reckons_105 rfl ml_RX10_289 im_X10_pop se_X10_pop kX10 rfl (c_X10_pop (d - 1) (by omega) C.1 C.2.2.1 l0) hy_X10_pop rfl rfl hf hlo (st_room (Nat.le_of_ble_eq_true rfl)) hcs (fun v8 hv8 => ?_)
            refine s_lstore (pc2 := 110) X dX10_reckons_108 rfl (by decide) rfl rfl cat1_I hv8 (fun w9 hw9 => ?_)
            refine s_aload_n (j := 3) (pc2 := 111) X dX10_reckons_110 rfl rfl ?_
            refine s_callVL (d2 := d - 1) (As := []) (st := []) (pc2 := 114) X dX10_reckons_111 rfl ml_RX10_289 im_X10_pop se_X10_pop kX10 rfl (c_X10_pop (d - 1) (by omega) C.1 C.2.2.1 l0) hy_X10_pop rfl rfl hf hlo (st_room (Nat.le_of_ble_eq_true rfl)) hcs (fun v10 hv10 => ?_)
            refine s_lstore (pc2 := 116) X dX10_reckons_114 rfl (by decide) rfl rfl cat1_N hv10 (fun w11 hw11 => ?_)
            refine s_aload_n (j := 4) (pc2 := 117) X dX10_reckons_116 rfl rfl ?_
            refine s_iload (j := 3) (pc2 := 119) X dX10_reckons_117 rfl rfl ?_
            refine s_lload (j := 0) (pc2 := 121) X dX10_reckons_119 rfl rfl ?_
            refine s_lload (j := 1) (pc2 := 123) X dX10_reckons_121 rfl rfl ?_
            refine s_callSL (d2 := d - 1) (As := [vI w4, vL w11, vL w9]) (st := [vR C.1.1 l0]) (pc2 := 126) X dX10_reckons_123 rfl ml_RX10_293 sm_X10_one (c_X10_one (d - 1) (by omega) C.1 C.2.2.1 w4 w11 w9 hw4 hw11 hw9) hy_X10_one rfl rfl hf hlo (st_room (Nat.le_of_ble_eq_true rfl)) hcs (fun v12 hv12 => ?_)
            refine s_callVV (d2 := d - 1) (As := [vL v12]) (st := []) (pc2 := 129) X dX10_reckons_126 rfl ml_RX10_285 im_X10_push se_X10_push kX10 rfl (c_X10_push (d - 1) (by omega) C.1 C.2.2.1 l0 v12 hv12) hy_X10_push rfl rfl hf hlo (st_room (Nat.le_of_ble_eq_true rfl)) hcs (fun _ => ?_)
            refine s_sub (lv2 := [(0, vR C.1.1 l0), (1, vI l1), (3, vI l3), (4, vI l4)]) [4, 5, 6, 7] rfl ?_
            exact z_X10_reckons_L129 d hd K X (m_X10_reckons_L8 n) ih l0 l1 l3 l4 h1 h3 h4
          · refine s_aload_n (j := 2) (pc2 := 92) X dX10_reckons_91 rfl rfl ?_
            refine s_lconst (z := 1) (pc2 := 93) X dX10_reckons_92 rfl rfl ?_
            refine s_aload_n (j := 2) (pc2 := 94) X dX10_reckons_93 rfl rfl ?_
            refine s_callVL (d2 := d - 1) (As := []) (st := [vL 1, vR C.1.1 l0]) (pc2 := 97) X dX10_reckons_94 rfl ml_RX10_289 im_X10_pop se_X10_pop kX10 rfl (c_X10_pop (d - 1) (by omega) C.1 C.2.2.1 l0) hy_X10_pop rfl rfl hf hlo (st_room (Nat.le_of_ble_eq_true rfl)) hcs (fun v13 hv13 => ?_)
            refine s_lsub (pc2 := 98) X dX10_reckons_97 rfl ?_
            refine s_callVV (d2 := d - 1) (As := [vL ((w64 (1 - v13)))]) (st := []) (pc2 := 101) X dX10_reckons_98 rfl ml_RX10_285 im_X10_push se_X10_push kX10 rfl (c_X10_push (d - 1) (by omega) C.1 C.2.2.1 l0 ((w64 (1 - v13))) (w64_in _)) hy_X10_push rfl rfl hf hlo (st_room (Nat.le_of_ble_eq_true rfl)) hcs (fun _ => ?_)
            refine s_goto (pc2 := 129) X dX10_reckons_101 (by decide) ?_
            refine s_sub (lv2 := [(0, vR C.1.1 l0), (1, vI l1), (3, vI l3), (4, vI l4)]) [2, 3, 4, 5] rfl ?_
            exact z_X10_reckons_L129 d hd K X (m_X10_reckons_L8 n) ih l0 l1 l3 l4 h1 h3 h4
        · refine s_aload_n (j := 2) (pc2 := 71) X dX10_reckons_70 rfl rfl ?_
          refine s_aload_n (j := 2) (pc2 := 72) X dX10_reckons_71 rfl rfl ?_
          refine s_getR (pc2 := 75) X dX10_reckons_72 rfl fl_RX10_36 rfl (fun v14 => ?_)
          refine s_iload (j := 0) (pc2 := 77) X dX10_reckons_75 rfl rfl ?_
          refine s_lald (pc2 := 78) X dX10_reckons_77 rfl (fun v15 hv15 => ?_)
          refine s_callVV (d2 := d - 1) (As := [vL v15]) (st := []) (pc2 := 81) X dX10_reckons_78 rfl ml_RX10_285 im_X10_push se_X10_push kX10 rfl (c_X10_push (d - 1) (by omega) C.1 C.2.2.1 l0 v15 hv15) hy_X10_push rfl rfl hf hlo (st_room (Nat.le_of_ble_eq_true rfl)) hcs (fun _ => ?_)
          refine s_goto (pc2 := 129) X dX10_reckons_81 (by decide) ?_
          refine s_sub (lv2 := [(0, vR C.1.1 l0), (1, vI l1), (3, vI l3), (4, vI l4)]) [2, 3, 4, 5] rfl ?_
          exact z_X10_reckons_L129 d hd K X (m_X10_reckons_L8 n) ih l0 l1 l3 l4 h1 h3 h4
      · refine s_aload_n (j := 2) (pc2 := 55) X dX10_reckons_54 rfl rfl ?_
        refine s_iload (j := 0) (pc2 := 57) X dX10_reckons_55 rfl rfl ?_
        refine s_i2l (pc2 := 58) X dX10_reckons_57 rfl hw7 ?_
        refine s_callVV (d2 := d - 1) (As := [vL w7]) (st := []) (pc2 := 61) X dX10_reckons_58 rfl ml_RX10_285 im_X10_push se_X10_push kX10 rfl (c_X10_push (d - 1) (by omega) C.1 C.2.2.1 l0 w7 (inL_of hw7)) hy_X10_push rfl rfl hf hlo (st_room (Nat.le_of_ble_eq_true rfl)) hcs (fun _ => ?_)
        refine s_goto (pc2 := 129) X dX10_reckons_61 (by decide) ?_
        refine s_sub (lv2 := [(0, vR C.1.1 l0), (1, vI l1), (3, vI l3), (4, vI l4)]) [2, 3, 4, 5] rfl ?_
        exact z_X10_reckons_L129 d hd K X (m_X10_reckons_L8 n) ih l0 l1 l3 l4 h1 h3 h4
set_option maxRecDepth 4000 in
set_option maxHeartbeats 20000000 in
theorem z_X10_reckons (d : Nat) (hd : 2 ≤ d) {C : hCx} (K : hCtx C.1 C.2.2.1 d 0 0 "reckons" C) (X : hOK C cX10_reckons RX10 11 (some .long)) (l0 : Nat) (l1 : Int) (l2 : Int) (l3 : Int) (h1 : inI l1) (h2 : inI l2) (h3 : inI l3) : hSim C (some .long) 0 0 11 0 [(0, vR C.1.1 l0), (1, vI l1), (2, vI l2), (3, vI l3)] [] 0 0 (m_X10_reckons l0 l1 l2 l3) := by
  obtain ⟨⟨hf, hlo⟩, ⟨hc1, hc2⟩, hf1, hl1⟩ := K_room K (by omega)
  have hcs : 0 ≤ C.2.2.2.2.1.cells ∧ 0 ≤ C.2.2.2.2.1.slots := ⟨Nat.zero_le _, Nat.zero_le _⟩
  unfold m_X10_reckons
  refine s_aload_n (j := 0) (pc2 := 1) X dX10_reckons_0 rfl rfl ?_
  refine s_iconst (n := 0) (pc2 := 2) X dX10_reckons_1 rfl ?_
  refine s_putI (pc2 := 5) X dX10_reckons_2 rfl fl_RX10_282 (Or.inl rfl) rfl (inI_c 0 rfl) ?_
  refine s_iload_n (j := 2) (pc2 := 6) X dX10_reckons_5 rfl rfl ?_
  refine s_istore (pc2 := 8) X dX10_reckons_6 rfl (by decide) rfl rfl cat1_I h2 (fun w1 hw1 => ?_)
  refine s_sub (lv2 := [(0, vR C.1.1 l0), (1, vI l1), (3, vI l3), (4, vI w1)]) [1, 2, 4, 0] rfl ?_
  exact z_X10_reckons_L8 d hd K X 1000000000 l0 l1 l3 w1 h1 h3 hw1
theorem c_X10_reckons (d : Nat) (hd : 2 ≤ d) (G : hG) (l : Launch) (l0 : Nat) (l1 : Int) (l2 : Int) (l3 : Int) (h1 : inI l1) (h2 : inI l2) (h3 : inI l3) : hMet G l yX10_reckons cX10_reckons 11 (some .long) d 0 0 [vR G.1 l0, vI l1, vI l2, vI l3] (m_X10_reckons l0 l1 l2 l3) := by
  refine hMet.of (lv := [(0, vR G.1 l0), (1, vI l1), (2, vI l2), (3, vI l3)]) (by decide +kernel) (by simp [lg_sl, vR_cat, vI_cat, vL_cat, vS_cat2, vT_cat2]) (by simp [lv_args, vR_cat, vI_cat, vL_cat, vS_cat2, vT_cat2]) (fun C K X => ?_)
  obtain ⟨rfl, rfl, K⟩ := K
  exact z_X10_reckons d hd ⟨rfl, rfl, K⟩ X l0 l1 l2 l3 h1 h2 h3
def m_X10_isTown_L14 (s0 : Int) : hM :=
  hretZ s0
def m_X10_isTown (l0 : Nat) : hM :=
  hgR 10 l0 20 fun v1 =>
  haI 20 v1 0 fun v2 =>
  hif (v2 ≤ 0) (
m_X10_isTown_L14 0) (
m_X10_isTown_L14 1)
set_option maxRecDepth 4000 in
theorem z_X10_isTown_L14 (d : Nat) (hd : 1 ≤ d) {C : hCx} (K : hCtx C.1 C.2.2.1 d 0 0 "isTown" C) (X : hOK C cX10_isTown RX10 1 (some .boolean)) (s0 : Int) (g0 : inI s0) : hSim C (some .boolean) 0 0 1 14 [] [vI s0] 0 0 (m_X10_isTown_L14 s0) := by
  obtain ⟨⟨hf, hlo⟩, ⟨hc1, hc2⟩, hf1, hl1⟩ := K_room K (by omega)
  have hcs : 0 ≤ C.2.2.2.2.1.cells ∧ 0 ≤ C.2.2.2.2.1.slots := ⟨Nat.zero_le _, Nat.zero_le _⟩
  unfold m_X10_isTown_L14
  exact s_zret X dX10_isTown_14
set_option maxRecDepth 4000 in
set_option maxHeartbeats 20000000 in
theorem z_X10_isTown (d : Nat) (hd : 1 ≤ d) {C : hCx} (K : hCtx C.1 C.2.2.1 d 0 0 "isTown" C) (X : hOK C cX10_isTown RX10 1 (some .boolean)) (l0 : Nat) : hSim C (some .boolean) 0 0 1 0 [(0, vR C.1.1 l0)] [] 0 0 (m_X10_isTown l0) := by
  obtain ⟨⟨hf, hlo⟩, ⟨hc1, hc2⟩, hf1, hl1⟩ := K_room K (by omega)
  have hcs : 0 ≤ C.2.2.2.2.1.cells ∧ 0 ≤ C.2.2.2.2.1.slots := ⟨Nat.zero_le _, Nat.zero_le _⟩
  unfold m_X10_isTown
  refine s_aload_n (j := 0) (pc2 := 1) X dX10_isTown_0 rfl rfl ?_
  refine s_getR (pc2 := 4) X dX10_isTown_1 rfl fl_RX10_39 rfl (fun v1 => ?_)
  refine s_iconst (n := 0) (pc2 := 5) X dX10_isTown_4 rfl ?_
  refine s_iald (pc2 := 6) X dX10_isTown_5 rfl (fun v2 hv2 => ?_)
  refine s_ifle (tgt := 13) X dX10_isTown_6 (by decide) rfl hv2 ?_ ?_
  · refine s_iconst (n := 0) (pc2 := 14) X dX10_isTown_13 rfl ?_
    refine s_sub (lv2 := []) [] rfl ?_
    exact z_X10_isTown_L14 d hd K X 0 (inI_c 0 rfl)
  · refine s_iconst (n := 1) (pc2 := 10) X dX10_isTown_9 rfl ?_
    refine s_goto (pc2 := 14) X dX10_isTown_10 (by decide) ?_
    refine s_sub (lv2 := []) [] rfl ?_
    exact z_X10_isTown_L14 d hd K X 1 (inI_c 1 rfl)
theorem c_X10_isTown (d : Nat) (hd : 1 ≤ d) (G : hG) (l : Launch) (l0 : Nat) : hMet G l yX10_isTown cX10_isTown 1 (some .boolean) d 0 0 [vR G.1 l0] (m_X10_isTown l0) := by
  refine hMet.of (lv := [(0, vR G.1 l0)]) (by decide +kernel) (by simp [lg_sl, vR_cat, vI_cat, vL_cat, vS_cat2, vT_cat2]) (by simp [lv_args, vR_cat, vI_cat, vL_cat, vS_cat2, vT_cat2]) (fun C K X => ?_)
  obtain ⟨rfl, rfl, K⟩ := K
  exact z_X10_isTown d hd ⟨rfl, rfl, K⟩ X l0
def m_X10_isQuarter_L19 (s0 : Int) : hM :=
  hretZ s0
def m_X10_isQuarter_L18 : hM :=
  m_X10_isQuarter_L19 0
def m_X10_isQuarter (l0 : Nat) (l1 : Int) : hM :=
  hif (l1 < 0) (
m_X10_isQuarter_L18) (
hgR 10 l0 20 fun v1 =>
  haI 20 v1 0 fun v2 =>
  hif (l1 ≥ v2) (
m_X10_isQuarter_L18) (
m_X10_isQuarter_L19 1))
set_option maxRecDepth 4000 in
theorem z_X10_isQuarter_L19 (d : Nat) (hd : 1 ≤ d) {C : hCx} (K : hCtx C.1 C.2.2.1 d 0 0 "isQuarter" C) (X : hOK C cX10_isQuarter RX10 2 (some .boolean)) (s0 : Int) (g0 : inI s0) : hSim C (some .boolean) 0 0 2 19 [] [vI s0] 0 0 (m_X10_isQuarter_L19 s0) := by
  obtain ⟨⟨hf, hlo⟩, ⟨hc1, hc2⟩, hf1, hl1⟩ := K_room K (by omega)
  have hcs : 0 ≤ C.2.2.2.2.1.cells ∧ 0 ≤ C.2.2.2.2.1.slots := ⟨Nat.zero_le _, Nat.zero_le _⟩
  unfold m_X10_isQuarter_L19
  exact s_zret X dX10_isQuarter_19
set_option maxRecDepth 4000 in
theorem z_X10_isQuarter_L18 (d : Nat) (hd : 1 ≤ d) {C : hCx} (K : hCtx C.1 C.2.2.1 d 0 0 "isQuarter" C) (X : hOK C cX10_isQuarter RX10 2 (some .boolean)) : hSim C (some .boolean) 0 0 2 18 [] [] 0 0 (m_X10_isQuarter_L18) := by
  obtain ⟨⟨hf, hlo⟩, ⟨hc1, hc2⟩, hf1, hl1⟩ := K_room K (by omega)
  have hcs : 0 ≤ C.2.2.2.2.1.cells ∧ 0 ≤ C.2.2.2.2.1.slots := ⟨Nat.zero_le _, Nat.zero_le _⟩
  unfold m_X10_isQuarter_L18
  refine s_iconst (n := 0) (pc2 := 19) X dX10_isQuarter_18 rfl ?_
  exact z_X10_isQuarter_L19 d hd K X 0 (inI_c 0 rfl)
set_option maxRecDepth 4000 in
set_option maxHeartbeats 20000000 in
theorem z_X10_isQuarter (d : Nat) (hd : 1 ≤ d) {C : hCx} (K : hCtx C.1 C.2.2.1 d 0 0 "isQuarter" C) (X : hOK C cX10_isQuarter RX10 2 (some .boolean)) (l0 : Nat) (l1 : Int) (h1 : inI l1) : hSim C (some .boolean) 0 0 2 0 [(0, vR C.1.1 l0), (1, vI l1)] [] 0 0 (m_X10_isQuarter l0 l1) := by
  obtain ⟨⟨hf, hlo⟩, ⟨hc1, hc2⟩, hf1, hl1⟩ := K_room K (by omega)
  have hcs : 0 ≤ C.2.2.2.2.1.cells ∧ 0 ≤ C.2.2.2.2.1.slots := ⟨Nat.zero_le _, Nat.zero_le _⟩
  unfold m_X10_isQuarter
  refine s_iload_n (j := 1) (pc2 := 1) X dX10_isQuarter_0 rfl rfl ?_
  refine s_iflt (tgt := 18) X dX10_isQuarter_1 (by decide) rfl h1 ?_ ?_
  · refine s_sub (lv2 := []) [] rfl ?_
    exact z_X10_isQuarter_L18 d hd K X
  · refine s_iload_n (j := 1) (pc2 := 5) X dX10_isQuarter_4 rfl rfl ?_
    refine s_aload_n (j := 0) (pc2 := 6) X dX10_isQuarter_5 rfl rfl ?_
    refine s_getR (pc2 := 9) X dX10_isQuarter_6 rfl fl_RX10_39 rfl (fun v1 => ?_)
    refine s_iconst (n := 0) (pc2 := 10) X dX10_isQuarter_9 rfl ?_
    refine s_iald (pc2 := 11) X dX10_isQuarter_10 rfl (fun v2 hv2 => ?_)
    refine s_icge (tgt := 18) X dX10_isQuarter_11 (by decide) rfl h1 hv2 ?_ ?_
    · refine s_sub (lv2 := []) [] rfl ?_
      exact z_X10_isQuarter_L18 d hd K X
    · refine s_iconst (n := 1) (pc2 := 15) X dX10_isQuarter_14 rfl ?_
      refine s_goto (pc2 := 19) X dX10_isQuarter_15 (by decide) ?_
      refine s_sub (lv2 := []) [] rfl ?_
      exact z_X10_isQuarter_L19 d hd K X 1 (inI_c 1 rfl)
theorem c_X10_isQuarter (d : Nat) (hd : 1 ≤ d) (G : hG) (l : Launch) (l0 : Nat) (l1 : Int) (h1 : inI l1) : hMet G l yX10_isQuarter cX10_isQuarter 2 (some .boolean) d 0 0 [vR G.1 l0, vI l1] (m_X10_isQuarter l0 l1) := by
  refine hMet.of (lv := [(0, vR G.1 l0), (1, vI l1)]) (by decide +kernel) (by simp [lg_sl, vR_cat, vI_cat, vL_cat, vS_cat2, vT_cat2]) (by simp [lv_args, vR_cat, vI_cat, vL_cat, vS_cat2, vT_cat2]) (fun C K X => ?_)
  obtain ⟨rfl, rfl, K⟩ := K
  exact z_X10_isQuarter d hd ⟨rfl, rfl, K⟩ X l0 l1 h1
def m_X10_isBridge_L19 (s0 : Int) : hM :=
  hretZ s0
def m_X10_isBridge_L18 : hM :=
  m_X10_isBridge_L19 0
def m_X10_isBridge (l0 : Nat) (l1 : Int) : hM :=
  hif (l1 < 0) (
m_X10_isBridge_L18) (
hgR 10 l0 20 fun v1 =>
  haI 20 v1 2 fun v2 =>
  hif (l1 ≥ v2) (
m_X10_isBridge_L18) (
m_X10_isBridge_L19 1))
set_option maxRecDepth 4000 in
theorem z_X10_isBridge_L19 (d : Nat) (hd : 1 ≤ d) {C : hCx} (K : hCtx C.1 C.2.2.1 d 0 0 "isBridge" C) (X : hOK C cX10_isBridge RX10 2 (some .boolean)) (s0 : Int) (g0 : inI s0) : hSim C (some .boolean) 0 0 2 19 [] [vI s0] 0 0 (m_X10_isBridge_L19 s0) := by
  obtain ⟨⟨hf, hlo⟩, ⟨hc1, hc2⟩, hf1, hl1⟩ := K_room K (by omega)
  have hcs : 0 ≤ C.2.2.2.2.1.cells ∧ 0 ≤ C.2.2.2.2.1.slots := ⟨Nat.zero_le _, Nat.zero_le _⟩
  unfold m_X10_isBridge_L19
  exact s_zret X dX10_isBridge_19
set_option maxRecDepth 4000 in
theorem z_X10_isBridge_L18 (d : Nat) (hd : 1 ≤ d) {C : hCx} (K : hCtx C.1 C.2.2.1 d 0 0 "isBridge" C) (X : hOK C cX10_isBridge RX10 2 (some .boolean)) : hSim C (some .boolean) 0 0 2 18 [] [] 0 0 (m_X10_isBridge_L18) := by
  obtain ⟨⟨hf, hlo⟩, ⟨hc1, hc2⟩, hf1, hl1⟩ := K_room K (by omega)
  have hcs : 0 ≤ C.2.2.2.2.1.cells ∧ 0 ≤ C.2.2.2.2.1.slots := ⟨Nat.zero_le _, Nat.zero_le _⟩
  unfold m_X10_isBridge_L18
  refine s_iconst (n := 0) (pc2 := 19) X dX10_isBridge_18 rfl ?_
  exact z_X10_isBridge_L19 d hd K X 0 (inI_c 0 rfl)
set_option maxRecDepth 4000 in
set_option maxHeartbeats 20000000 in
theorem z_X10_isBridge (d : Nat) (hd : 1 ≤ d) {C : hCx} (K : hCtx C.1 C.2.2.1 d 0 0 "isBridge" C) (X : hOK C cX10_isBridge RX10 2 (some .boolean)) (l0 : Nat) (l1 : Int) (h1 : inI l1) : hSim C (some .boolean) 0 0 2 0 [(0, vR C.1.1 l0), (1, vI l1)] [] 0 0 (m_X10_isBridge l0 l1) := by
  obtain ⟨⟨hf, hlo⟩, ⟨hc1, hc2⟩, hf1, hl1⟩ := K_room K (by omega)
  have hcs : 0 ≤ C.2.2.2.2.1.cells ∧ 0 ≤ C.2.2.2.2.1.slots := ⟨Nat.zero_le _, Nat.zero_le _⟩
  unfold m_X10_isBridge
  refine s_iload_n (j := 1) (pc2 := 1) X dX10_isBridge_0 rfl rfl ?_
  refine s_iflt (tgt := 18) X dX10_isBridge_1 (by decide) rfl h1 ?_ ?_
  · refine s_sub (lv2 := []) [] rfl ?_
    exact z_X10_isBridge_L18 d hd K X
  · refine s_iload_n (j := 1) (pc2 := 5) X dX10_isBridge_4 rfl rfl ?_
    refine s_aload_n (j := 0) (pc2 := 6) X dX10_isBridge_5 rfl rfl ?_
    refine s_getR (pc2 := 9) X dX10_isBridge_6 rfl fl_RX10_39 rfl (fun v1 => ?_)
    refine s_iconst (n := 2) (pc2 := 10) X dX10_isBridge_9 rfl ?_
    refine s_iald (pc2 := 11) X dX10_isBridge_10 rfl (fun v2 hv2 => ?_)
    refine s_icge (tgt := 18) X dX10_isBridge_11 (by decide) rfl h1 hv2 ?_ ?_
    · refine s_sub (lv2 := []) [] rfl ?_
      exact z_X10_isBridge_L18 d hd K X
    · refine s_iconst (n := 1) (pc2 := 15) X dX10_isBridge_14 rfl ?_
      refine s_goto (pc2 := 19) X dX10_isBridge_15 (by decide) ?_
      refine s_sub (lv2 := []) [] rfl ?_
      exact z_X10_isBridge_L19 d hd K X 1 (inI_c 1 rfl)
theorem c_X10_isBridge (d : Nat) (hd : 1 ≤ d) (G : hG) (l : Launch) (l0 : Nat) (l1 : Int) (h1 : inI l1) : hMet G l yX10_isBridge cX10_isBridge 2 (some .boolean) d 0 0 [vR G.1 l0, vI l1] (m_X10_isBridge l0 l1) := by
  refine hMet.of (lv := [(0, vR G.1 l0), (1, vI l1)]) (by decide +kernel) (by simp [lg_sl, vR_cat, vI_cat, vL_cat, vS_cat2, vT_cat2]) (by simp [lv_args, vR_cat, vI_cat, vL_cat, vS_cat2, vT_cat2]) (fun C K X => ?_)
  obtain ⟨rfl, rfl, K⟩ := K
  exact z_X10_isBridge d hd ⟨rfl, rfl, K⟩ X l0 l1 h1
def m_X10_isPerson_L19 (s0 : Int) : hM :=
  hretZ s0
def m_X10_isPerson_L18 : hM :=
  m_X10_isPerson_L19 0
def m_X10_isPerson (l0 : Nat) (l1 : Int) : hM :=
  hif (l1 < 0) (
m_X10_isPerson_L18) (
hgR 10 l0 20 fun v1 =>
  haI 20 v1 4 fun v2 =>
  hif (l1 ≥ v2) (
m_X10_isPerson_L18) (
m_X10_isPerson_L19 1))
set_option maxRecDepth 4000 in
theorem z_X10_isPerson_L19 (d : Nat) (hd : 1 ≤ d) {C : hCx} (K : hCtx C.1 C.2.2.1 d 0 0 "isPerson" C) (X : hOK C cX10_isPerson RX10 2 (some .boolean)) (s0 : Int) (g0 : inI s0) : hSim C (some .boolean) 0 0 2 19 [] [vI s0] 0 0 (m_X10_isPerson_L19 s0) := by
  obtain ⟨⟨hf, hlo⟩, ⟨hc1, hc2⟩, hf1, hl1⟩ := K_room K (by omega)
  have hcs : 0 ≤ C.2.2.2.2.1.cells ∧ 0 ≤ C.2.2.2.2.1.slots := ⟨Nat.zero_le _, Nat.zero_le _⟩
  unfold m_X10_isPerson_L19
  exact s_zret X dX10_isPerson_19
set_option maxRecDepth 4000 in
theorem z_X10_isPerson_L18 (d : Nat) (hd : 1 ≤ d) {C : hCx} (K : hCtx C.1 C.2.2.1 d 0 0 "isPerson" C) (X : hOK C cX10_isPerson RX10 2 (some .boolean)) : hSim C (some .boolean) 0 0 2 18 [] [] 0 0 (m_X10_isPerson_L18) := by
  obtain ⟨⟨hf, hlo⟩, ⟨hc1, hc2⟩, hf1, hl1⟩ := K_room K (by omega)
  have hcs : 0 ≤ C.2.2.2.2.1.cells ∧ 0 ≤ C.2.2.2.2.1.slots := ⟨Nat.zero_le _, Nat.zero_le _⟩
  unfold m_X10_isPerson_L18
  refine s_iconst (n := 0) (pc2 := 19) X dX10_isPerson_18 rfl ?_
  exact z_X10_isPerson_L19 d hd K X 0 (inI_c 0 rfl)
set_option maxRecDepth 4000 in
set_option maxHeartbeats 20000000 in
theorem z_X10_isPerson (d : Nat) (hd : 1 ≤ d) {C : hCx} (K : hCtx C.1 C.2.2.1 d 0 0 "isPerson" C) (X : hOK C cX10_isPerson RX10 2 (some .boolean)) (l0 : Nat) (l1 : Int) (h1 : inI l1) : hSim C (some .boolean) 0 0 2 0 [(0, vR C.1.1 l0), (1, vI l1)] [] 0 0 (m_X10_isPerson l0 l1) := by
  obtain ⟨⟨hf, hlo⟩, ⟨hc1, hc2⟩, hf1, hl1⟩ := K_room K (by omega)
  have hcs : 0 ≤ C.2.2.2.2.1.cells ∧ 0 ≤ C.2.2.2.2.1.slots := ⟨Nat.zero_le _, Nat.zero_le _⟩
  unfold m_X10_isPerson
  refine s_iload_n (j := 1) (pc2 := 1) X dX10_isPerson_0 rfl rfl ?_
  refine s_iflt (tgt := 18) X dX10_isPerson_1 (by decide) rfl h1 ?_ ?_
  · refine s_sub (lv2 := []) [] rfl ?_
    exact z_X10_isPerson_L18 d hd K X
  · refine s_iload_n (j := 1) (pc2 := 5) X dX10_isPerson_4 rfl rfl ?_
    refine s_aload_n (j := 0) (pc2 := 6) X dX10_isPerson_5 rfl rfl ?_
    refine s_getR (pc2 := 9) X dX10_isPerson_6 rfl fl_RX10_39 rfl (fun v1 => ?_)
    refine s_iconst (n := 4) (pc2 := 10) X dX10_isPerson_9 rfl ?_
    refine s_iald (pc2 := 11) X dX10_isPerson_10 rfl (fun v2 hv2 => ?_)
    refine s_icge (tgt := 18) X dX10_isPerson_11 (by decide) rfl h1 hv2 ?_ ?_
    · refine s_sub (lv2 := []) [] rfl ?_
      exact z_X10_isPerson_L18 d hd K X
    · refine s_iconst (n := 1) (pc2 := 15) X dX10_isPerson_14 rfl ?_
      refine s_goto (pc2 := 19) X dX10_isPerson_15 (by decide) ?_
      refine s_sub (lv2 := []) [] rfl ?_
      exact z_X10_isPerson_L19 d hd K X 1 (inI_c 1 rfl)
theorem c_X10_isPerson (d : Nat) (hd : 1 ≤ d) (G : hG) (l : Launch) (l0 : Nat) (l1 : Int) (h1 : inI l1) : hMet G l yX10_isPerson cX10_isPerson 2 (some .boolean) d 0 0 [vR G.1 l0, vI l1] (m_X10_isPerson l0 l1) := by
  refine hMet.of (lv := [(0, vR G.1 l0), (1, vI l1)]) (by decide +kernel) (by simp [lg_sl, vR_cat, vI_cat, vL_cat, vS_cat2, vT_cat2]) (by simp [lv_args, vR_cat, vI_cat, vL_cat, vS_cat2, vT_cat2]) (fun C K X => ?_)
  obtain ⟨rfl, rfl, K⟩ := K
  exact z_X10_isPerson d hd ⟨rfl, rfl, K⟩ X l0 l1 h1
def m_X10_personOf (l0 : Nat) (l1 : Int) (l2 : Int) : hM :=
  hgR 10 l0 20 fun v1 =>
  haI 20 v1 ((w32 (((w32 (10 + ((w32 (3 * l1)))))) + l2))) fun v2 =>
  hret v2
set_option maxRecDepth 4000 in
set_option maxHeartbeats 20000000 in
theorem z_X10_personOf (d : Nat) (hd : 1 ≤ d) {C : hCx} (K : hCtx C.1 C.2.2.1 d 0 0 "personOf" C) (X : hOK C cX10_personOf RX10 3 (some .int)) (l0 : Nat) (l1 : Int) (l2 : Int) (h1 : inI l1) (h2 : inI l2) : hSim C (some .int) 0 0 3 0 [(0, vR C.1.1 l0), (1, vI l1), (2, vI l2)] [] 0 0 (m_X10_personOf l0 l1 l2) := by
  obtain ⟨⟨hf, hlo⟩, ⟨hc1, hc2⟩, hf1, hl1⟩ := K_room K (by omega)
  have hcs : 0 ≤ C.2.2.2.2.1.cells ∧ 0 ≤ C.2.2.2.2.1.slots := ⟨Nat.zero_le _, Nat.zero_le _⟩
  unfold m_X10_personOf
  refine s_aload_n (j := 0) (pc2 := 1) X dX10_personOf_0 rfl rfl ?_
  refine s_getR (pc2 := 4) X dX10_personOf_1 rfl fl_RX10_39 rfl (fun v1 => ?_)
  refine s_bipush (n := 10) (pc2 := 6) X dX10_personOf_4 rfl rfl ?_
  refine s_iconst (n := 3) (pc2 := 7) X dX10_personOf_6 rfl ?_
  refine s_iload_n (j := 1) (pc2 := 8) X dX10_personOf_7 rfl rfl ?_
  refine s_imul (pc2 := 9) X dX10_personOf_8 rfl ?_
  refine s_iadd (pc2 := 10) X dX10_personOf_9 rfl ?_
  refine s_iload_n (j := 2) (pc2 := 11) X dX10_personOf_10 rfl rfl ?_
  refine s_iadd (pc2 := 12) X dX10_personOf_11 rfl ?_
  refine s_iald (pc2 := 13) X dX10_personOf_12 rfl (fun v2 hv2 => ?_)
  exact s_iret X dX10_personOf_13 hv2
theorem c_X10_personOf (d : Nat) (hd : 1 ≤ d) (G : hG) (l : Launch) (l0 : Nat) (l1 : Int) (l2 : Int) (h1 : inI l1) (h2 : inI l2) : hMet G l yX10_personOf cX10_personOf 3 (some .int) d 0 0 [vR G.1 l0, vI l1, vI l2] (m_X10_personOf l0 l1 l2) := by
  refine hMet.of (lv := [(0, vR G.1 l0), (1, vI l1), (2, vI l2)]) (by decide +kernel) (by simp [lg_sl, vR_cat, vI_cat, vL_cat, vS_cat2, vT_cat2]) (by simp [lv_args, vR_cat, vI_cat, vL_cat, vS_cat2, vT_cat2]) (fun C K X => ?_)
  obtain ⟨rfl, rfl, K⟩ := K
  exact z_X10_personOf d hd ⟨rfl, rfl, K⟩ X l0 l1 l2 h1 h2
def m_X10_crossedBy (l0 : Nat) (l1 : Int) (l2 : Int) : hM :=
  hgR 10 l0 20 fun v1 =>
  haI 20 v1 ((w32 (((w32 (22 + ((w32 (9 * l1)))))) + l2))) fun v2 =>
  hret v2
set_option maxRecDepth 4000 in
set_option maxHeartbeats 20000000 in
theorem z_X10_crossedBy (d : Nat) (hd : 1 ≤ d) {C : hCx} (K : hCtx C.1 C.2.2.1 d 0 0 "crossedBy" C) (X : hOK C cX10_crossedBy RX10 3 (some .int)) (l0 : Nat) (l1 : Int) (l2 : Int) (h1 : inI l1) (h2 : inI l2) : hSim C (some .int) 0 0 3 0 [(0, vR C.1.1 l0), (1, vI l1), (2, vI l2)] [] 0 0 (m_X10_crossedBy l0 l1 l2) := by
  obtain ⟨⟨hf, hlo⟩, ⟨hc1, hc2⟩, hf1, hl1⟩ := K_room K (by omega)
  have hcs : 0 ≤ C.2.2.2.2.1.cells ∧ 0 ≤ C.2.2.2.2.1.slots := ⟨Nat.zero_le _, Nat.zero_le _⟩
  unfold m_X10_crossedBy
  refine s_aload_n (j := 0) (pc2 := 1) X dX10_crossedBy_0 rfl rfl ?_
  refine s_getR (pc2 := 4) X dX10_crossedBy_1 rfl fl_RX10_39 rfl (fun v1 => ?_)
  refine s_bipush (n := 22) (pc2 := 6) X dX10_crossedBy_4 rfl rfl ?_
  refine s_bipush (n := 9) (pc2 := 8) X dX10_crossedBy_6 rfl rfl ?_
  refine s_iload_n (j := 1) (pc2 := 9) X dX10_crossedBy_8 rfl rfl ?_
  refine s_imul (pc2 := 10) X dX10_crossedBy_9 rfl ?_
  refine s_iadd (pc2 := 11) X dX10_crossedBy_10 rfl ?_
  refine s_iload_n (j := 2) (pc2 := 12) X dX10_crossedBy_11 rfl rfl ?_
  refine s_iadd (pc2 := 13) X dX10_crossedBy_12 rfl ?_
  refine s_iald (pc2 := 14) X dX10_crossedBy_13 rfl (fun v2 hv2 => ?_)
  exact s_iret X dX10_crossedBy_14 hv2
theorem c_X10_crossedBy (d : Nat) (hd : 1 ≤ d) (G : hG) (l : Launch) (l0 : Nat) (l1 : Int) (l2 : Int) (h1 : inI l1) (h2 : inI l2) : hMet G l yX10_crossedBy cX10_crossedBy 3 (some .int) d 0 0 [vR G.1 l0, vI l1, vI l2] (m_X10_crossedBy l0 l1 l2) := by
  refine hMet.of (lv := [(0, vR G.1 l0), (1, vI l1), (2, vI l2)]) (by decide +kernel) (by simp [lg_sl, vR_cat, vI_cat, vL_cat, vS_cat2, vT_cat2]) (by simp [lv_args, vR_cat, vI_cat, vL_cat, vS_cat2, vT_cat2]) (fun C K X => ?_)
  obtain ⟨rfl, rfl, K⟩ := K
  exact z_X10_crossedBy d hd ⟨rfl, rfl, K⟩ X l0 l1 l2 h1 h2
def m_X10_leftOf (l0 : Nat) (l1 : Int) (l2 : Int) : hM :=
  hgR 10 l0 20 fun v1 =>
  haI 20 v1 1 fun v2 =>
  hcallV 10 l0 (m_X10_crossedBy l0 l1 l2) fun v3 =>
  hgR 10 l0 22 fun v4 =>
  haI 20 v4 l2 fun v5 =>
  hret ((w32 (((w32 (v2 - v3))) + v5)))
set_option maxRecDepth 4000 in
set_option maxHeartbeats 20000000 in
theorem z_X10_leftOf (d : Nat) (hd : 2 ≤ d) {C : hCx} (K : hCtx C.1 C.2.2.1 d 0 0 "leftOf" C) (X : hOK C cX10_leftOf RX10 3 (some .int)) (l0 : Nat) (l1 : Int) (l2 : Int) (h1 : inI l1) (h2 : inI l2) : hSim C (some .int) 0 0 3 0 [(0, vR C.1.1 l0), (1, vI l1), (2, vI l2)] [] 0 0 (m_X10_leftOf l0 l1 l2) := by
  obtain ⟨⟨hf, hlo⟩, ⟨hc1, hc2⟩, hf1, hl1⟩ := K_room K (by omega)
  have hcs : 0 ≤ C.2.2.2.2.1.cells ∧ 0 ≤ C.2.2.2.2.1.slots := ⟨Nat.zero_le _, Nat.zero_le _⟩
  unfold m_X10_leftOf
  refine s_aload_n (j := 0) (pc2 := 1) X dX10_leftOf_0 rfl rfl ?_
  refine s_getR (pc2 := 4) X dX10_leftOf_1 rfl fl_RX10_39 rfl (fun v1 => ?_)
  refine s_iconst (n := 1) (pc2 := 5) X dX10_leftOf_4 rfl ?_
  refine s_iald (pc2 := 6) X dX10_leftOf_5 rfl (fun v2 hv2 => ?_)
  refine s_aload_n (j := 0) (pc2 := 7) X dX10_leftOf_6 rfl rfl ?_
  refine s_iload_n (j := 1) (pc2 := 8) X dX10_leftOf_7 rfl rfl ?_
  refine s_iload_n (j := 2) (pc2 := 9) X dX10_leftOf_8 rfl rfl ?_
  refine s_callVI (d2 := d - 1) (As := [vI l1, vI l2]) (st := [vI v2]) (pc2 := 12) X dX10_leftOf_9 rfl ml_RX10_297 im_X10_crossedBy se_X10_crossedBy kX10 rfl (c_X10_crossedBy (d - 1) (by omega) C.1 C.2.2.1 l0 l1 l2 h1 h2) hy_X10_crossedBy rfl rfl hf hlo (st_room (Nat.le_of_ble_eq_true rfl)) hcs (fun v3 hv3 => ?_)
  refine s_isub (pc2 := 13) X dX10_leftOf_12 rfl ?_
  refine s_aload_n (j := 0) (pc2 := 14) X dX10_leftOf_13 rfl rfl ?_
  refine s_getR (pc2 := 17) X dX10_leftOf_14 rfl fl_RX10_42 rfl (fun v4 => ?_)
  refine s_iload_n (j := 2) (pc2 := 18) X dX10_leftOf_17 rfl rfl ?_
  refine s_iald (pc2 := 19) X dX10_leftOf_18 rfl (fun v5 hv5 => ?_)
  refine s_iadd (pc2 := 20) X dX10_leftOf_19 rfl ?_
  exact s_iret X dX10_leftOf_20 (w32_in _)
theorem c_X10_leftOf (d : Nat) (hd : 2 ≤ d) (G : hG) (l : Launch) (l0 : Nat) (l1 : Int) (l2 : Int) (h1 : inI l1) (h2 : inI l2) : hMet G l yX10_leftOf cX10_leftOf 3 (some .int) d 0 0 [vR G.1 l0, vI l1, vI l2] (m_X10_leftOf l0 l1 l2) := by
  refine hMet.of (lv := [(0, vR G.1 l0), (1, vI l1), (2, vI l2)]) (by decide +kernel) (by simp [lg_sl, vR_cat, vI_cat, vL_cat, vS_cat2, vT_cat2]) (by simp [lv_args, vR_cat, vI_cat, vL_cat, vS_cat2, vT_cat2]) (fun C K X => ?_)
  obtain ⟨rfl, rfl, K⟩ := K
  exact z_X10_leftOf d hd ⟨rfl, rfl, K⟩ X l0 l1 l2 h1 h2
def m_X10_otherEnd_L43 (s0 : Int) : hM :=
  hret s0
def m_X10_otherEnd (l0 : Nat) (l1 : Int) (l2 : Int) : hM :=
  hgR 10 l0 20 fun v1 =>
  haI 20 v1 l1 fun v2 =>
  hif (v2 ≠ l2) (
hgR 10 l0 20 fun v3 =>
  haI 20 v3 ((w32 (l1 + 1))) fun v4 =>
  hif (v4 ≠ l2) (
m_X10_otherEnd_L43 ((-1))) (
hgR 10 l0 20 fun v5 =>
  haI 20 v5 l1 fun v6 =>
  m_X10_otherEnd_L43 v6)) (
hgR 10 l0 20 fun v7 =>
  haI 20 v7 ((w32 (l1 + 1))) fun v8 =>
  m_X10_otherEnd_L43 v8)
set_option maxRecDepth 4000 in
theorem z_X10_otherEnd_L43 (d : Nat) (hd : 1 ≤ d) {C : hCx} (K : hCtx C.1 C.2.2.1 d 0 0 "otherEnd" C) (X : hOK C cX10_otherEnd RX10 3 (some .int)) (s0 : Int) (g0 : inI s0) : hSim C (some .int) 0 0 3 43 [] [vI s0] 0 0 (m_X10_otherEnd_L43 s0) := by
  obtain ⟨⟨hf, hlo⟩, ⟨hc1, hc2⟩, hf1, hl1⟩ := K_room K (by omega)
  have hcs : 0 ≤ C.2.2.2.2.1.cells ∧ 0 ≤ C.2.2.2.2.1.slots := ⟨Nat.zero_le _, Nat.zero_le _⟩
  unfold m_X10_otherEnd_L43
  exact s_iret X dX10_otherEnd_43 g0
set_option maxRecDepth 4000 in
set_option maxHeartbeats 20000000 in
theorem z_X10_otherEnd (d : Nat) (hd : 1 ≤ d) {C : hCx} (K : hCtx C.1 C.2.2.1 d 0 0 "otherEnd" C) (X : hOK C cX10_otherEnd RX10 3 (some .int)) (l0 : Nat) (l1 : Int) (l2 : Int) (h1 : inI l1) (h2 : inI l2) : hSim C (some .int) 0 0 3 0 [(0, vR C.1.1 l0), (1, vI l1), (2, vI l2)] [] 0 0 (m_X10_otherEnd l0 l1 l2) := by
  obtain ⟨⟨hf, hlo⟩, ⟨hc1, hc2⟩, hf1, hl1⟩ := K_room K (by omega)
  have hcs : 0 ≤ C.2.2.2.2.1.cells ∧ 0 ≤ C.2.2.2.2.1.slots := ⟨Nat.zero_le _, Nat.zero_le _⟩
  unfold m_X10_otherEnd
  refine s_aload_n (j := 0) (pc2 := 1) X dX10_otherEnd_0 rfl rfl ?_
  refine s_getR (pc2 := 4) X dX10_otherEnd_1 rfl fl_RX10_39 rfl (fun v1 => ?_)
  refine s_iload_n (j := 1) (pc2 := 5) X dX10_otherEnd_4 rfl rfl ?_
  refine s_iald (pc2 := 6) X dX10_otherEnd_5 rfl (fun v2 hv2 => ?_)
  refine s_iload_n (j := 2) (pc2 := 7) X dX10_otherEnd_6 rfl rfl ?_
  refine s_icne (tgt := 21) X dX10_otherEnd_7 (by decide) rfl hv2 h2 ?_ ?_
  · refine s_aload_n (j := 0) (pc2 := 22) X dX10_otherEnd_21 rfl rfl ?_
    refine s_getR (pc2 := 25) X dX10_otherEnd_22 rfl fl_RX10_39 rfl (fun v3 => ?_)
    refine s_iload_n (j := 1) (pc2 := 26) X dX10_otherEnd_25 rfl rfl ?_
    refine s_iconst (n := 1) (pc2 := 27) X dX10_otherEnd_26 rfl ?_
    refine s_iadd (pc2 := 28) X dX10_otherEnd_27 rfl ?_
    refine s_iald (pc2 := 29) X dX10_otherEnd_28 rfl (fun v4 hv4 => ?_)
    refine s_iload_n (j := 2) (pc2 := 30) X dX10_otherEnd_29 rfl rfl ?_
    refine s_icne (tgt := 42) X dX10_otherEnd_30 (by decide) rfl hv4 h2 ?_ ?_
    · refine s_iconst (n := (-1)) (pc2 := 43) X dX10_otherEnd_42 rfl ?_
      refine s_sub (lv2 := []) [] rfl ?_
      exact z_X10_otherEnd_L43 d hd K X ((-1)) (inI_c (-1) rfl)
    · refine s_aload_n (j := 0) (pc2 := 34) X dX10_otherEnd_33 rfl rfl ?_
      refine s_getR (pc2 := 37) X dX10_otherEnd_34 rfl fl_RX10_39 rfl (fun v5 => ?_)
      refine s_iload_n (j := 1) (pc2 := 38) X dX10_otherEnd_37 rfl rfl ?_
      refine s_iald (pc2 := 39) X dX10_otherEnd_38 rfl (fun v6 hv6 => ?_)
      refine s_goto (pc2 := 43) X dX10_otherEnd_39 (by decide) ?_
      refine s_sub (lv2 := []) [] rfl ?_
      exact z_X10_otherEnd_L43 d hd K X v6 hv6
  · refine s_aload_n (j := 0) (pc2 := 11) X dX10_otherEnd_10 rfl rfl ?_
    refine s_getR (pc2 := 14) X dX10_otherEnd_11 rfl fl_RX10_39 rfl (fun v7 => ?_)
    refine s_iload_n (j := 1) (pc2 := 15) X dX10_otherEnd_14 rfl rfl ?_
    refine s_iconst (n := 1) (pc2 := 16) X dX10_otherEnd_15 rfl ?_
    refine s_iadd (pc2 := 17) X dX10_otherEnd_16 rfl ?_
    refine s_iald (pc2 := 18) X dX10_otherEnd_17 rfl (fun v8 hv8 => ?_)
    refine s_goto (pc2 := 43) X dX10_otherEnd_18 (by decide) ?_
    refine s_sub (lv2 := []) [] rfl ?_
    exact z_X10_otherEnd_L43 d hd K X v8 hv8
theorem c_X10_otherEnd (d : Nat) (hd : 1 ≤ d) (G : hG) (l : Launch) (l0 : Nat) (l1 : Int) (l2 : Int) (h1 : inI l1) (h2 : inI l2) : hMet G l yX10_otherEnd cX10_otherEnd 3 (some .int) d 0 0 [vR G.1 l0, vI l1, vI l2] (m_X10_otherEnd l0 l1 l2) := by
  refine hMet.of (lv := [(0, vR G.1 l0), (1, vI l1), (2, vI l2)]) (by decide +kernel) (by simp [lg_sl, vR_cat, vI_cat, vL_cat, vS_cat2, vT_cat2]) (by simp [lv_args, vR_cat, vI_cat, vL_cat, vS_cat2, vT_cat2]) (fun C K X => ?_)
  obtain ⟨rfl, rfl, K⟩ := K
  exact z_X10_otherEnd d hd ⟨rfl, rfl, K⟩ X l0 l1 l2 h1 h2
def m_X10_over (l0 : Nat) (l1 : Int) (l2 : Int) : hM :=
  hcallV 10 l0 (m_X10_otherEnd l0 ((w32 (94 + ((w32 (2 * l1)))))) l2) fun v1 =>
  hret v1
set_option maxRecDepth 4000 in
set_option maxHeartbeats 20000000 in
theorem z_X10_over (d : Nat) (hd : 2 ≤ d) {C : hCx} (K : hCtx C.1 C.2.2.1 d 0 0 "over" C) (X : hOK C cX10_over RX10 3 (some .int)) (l0 : Nat) (l1 : Int) (l2 : Int) (h1 : inI l1) (h2 : inI l2) : hSim C (some .int) 0 0 3 0 [(0, vR C.1.1 l0), (1, vI l1), (2, vI l2)] [] 0 0 (m_X10_over l0 l1 l2) := by
  obtain ⟨⟨hf, hlo⟩, ⟨hc1, hc2⟩, hf1, hl1⟩ := K_room K (by omega)
  have hcs : 0 ≤ C.2.2.2.2.1.cells ∧ 0 ≤ C.2.2.2.2.1.slots := ⟨Nat.zero_le _, Nat.zero_le _⟩
  unfold m_X10_over
  refine s_aload_n (j := 0) (pc2 := 1) X dX10_over_0 rfl rfl ?_
  refine s_bipush (n := 94) (pc2 := 3) X dX10_over_1 rfl rfl ?_
  refine s_iconst (n := 2) (pc2 := 4) X dX10_over_3 rfl ?_
  refine s_iload_n (j := 1) (pc2 := 5) X dX10_over_4 rfl rfl ?_
  refine s_imul (pc2 := 6) X dX10_over_5 rfl ?_
  refine s_iadd (pc2 := 7) X dX10_over_6 rfl ?_
  refine s_iload_n (j := 2) (pc2 := 8) X dX10_over_7 rfl rfl ?_
  refine s_callVI (d2 := d - 1) (As := [vI ((w32 (94 + ((w32 (2 * l1)))))), vI l2]) (st := []) (pc2 := 11) X dX10_over_8 rfl ml_RX10_301 im_X10_otherEnd se_X10_otherEnd kX10 rfl (c_X10_otherEnd (d - 1) (by omega) C.1 C.2.2.1 l0 ((w32 (94 + ((w32 (2 * l1)))))) l2 (w32_in _) h2) hy_X10_otherEnd rfl rfl hf hlo (st_room (Nat.le_of_ble_eq_true rfl)) hcs (fun v1 hv1 => ?_)
  exact s_iret X dX10_over_11 hv1
theorem c_X10_over (d : Nat) (hd : 2 ≤ d) (G : hG) (l : Launch) (l0 : Nat) (l1 : Int) (l2 : Int) (h1 : inI l1) (h2 : inI l2) : hMet G l yX10_over cX10_over 3 (some .int) d 0 0 [vR G.1 l0, vI l1, vI l2] (m_X10_over l0 l1 l2) := by
  refine hMet.of (lv := [(0, vR G.1 l0), (1, vI l1), (2, vI l2)]) (by decide +kernel) (by simp [lg_sl, vR_cat, vI_cat, vL_cat, vS_cat2, vT_cat2]) (by simp [lv_args, vR_cat, vI_cat, vL_cat, vS_cat2, vT_cat2]) (fun C K X => ?_)
  obtain ⟨rfl, rfl, K⟩ := K
  exact z_X10_over d hd ⟨rfl, rfl, K⟩ X l0 l1 l2 h1 h2
def m_X10_isFrost_L59 (k2 : Nat → Int → hM) (l0 : Nat) (l1 : Int) : hM :=
  hlet (w32 (l1 + 1)) fun (w1 : Int) =>
  k2 l0 w1
def m_X10_isFrost_L2 : Nat → Nat → Int → hM
  | 0, _, _ => hfail
  | n + 1, l0, l1 =>
    hgR 10 l0 20 fun v1 =>
  haI 20 v1 7 fun v2 =>
  hif (l1 ≥ v2) (
hretZ 0) (
hgR 10 l0 20 fun v3 =>
  haI 20 v3 6 fun v4 =>
  hgR 10 l0 20 fun v5 =>
  haI 20 v5 ((w32 (120 + ((w32 (2 * l1)))))) fun v6 =>
  hif (v4 < v6) (
m_X10_isFrost_L59 (m_X10_isFrost_L2 n) l0 l1) (
hgR 10 l0 20 fun v7 =>
  haI 20 v7 6 fun v8 =>
  hgR 10 l0 20 fun v9 =>
  haI 20 v9 ((w32 (((w32 (120 + ((w32 (2 * l1)))))) + 1))) fun v10 =>
  hif (v8 > v10) (
m_X10_isFrost_L59 (m_X10_isFrost_L2 n) l0 l1) (
hretZ 1)))
def m_X10_isFrost (l0 : Nat) : hM :=
  hlet (0 : Int) fun (w1 : Int) =>
  m_X10_isFrost_L2 1000000000 l0 w1
set_option maxRecDepth 4000 in
theorem z_X10_isFrost_L59 (d : Nat) (hd : 1 ≤ d) {C : hCx} (K : hCtx C.1 C.2.2.1 d 0 0 "isFrost" C) (X : hOK C cX10_isFrost RX10 2 (some .boolean)) (k2 : Nat → Int → hM) (hk2 : ∀ (l0 : Nat) (l1 : Int), inI l1 → hSim C (some .boolean) 0 0 2 2 [(0, vR C.1.1 l0), (1, vI l1)] [] 0 0 (k2 l0 l1)) (l0 : Nat) (l1 : Int) (h1 : inI l1) : hSim C (some .boolean) 0 0 2 59 [(0, vR C.1.1 l0), (1, vI l1)] [] 0 0 (m_X10_isFrost_L59 k2 l0 l1) := by
  obtain ⟨⟨hf, hlo⟩, ⟨hc1, hc2⟩, hf1, hl1⟩ := K_room K (by omega)
  have hcs : 0 ≤ C.2.2.2.2.1.cells ∧ 0 ≤ C.2.2.2.2.1.slots := ⟨Nat.zero_le _, Nat.zero_le _⟩
  unfold m_X10_isFrost_L59
  refine s_iinc (j := 1) (pc2 := 62) X dX10_isFrost_59 rfl (by decide) rfl rfl rfl cat1_R (fun w1 hw1 => ?_)
  refine s_goto (pc2 := 2) X dX10_isFrost_62 (by decide) ?_
  refine s_sub (lv2 := [(0, vR C.1.1 l0), (1, vI w1)]) [1, 0] rfl ?_
  exact hk2 l0 w1 hw1
set_option maxRecDepth 4000 in
theorem z_X10_isFrost_L2 (d : Nat) (hd : 1 ≤ d) {C : hCx} (K : hCtx C.1 C.2.2.1 d 0 0 "isFrost" C) (X : hOK C cX10_isFrost RX10 2 (some .boolean)) : ∀ (n : Nat) (l0 : Nat) (l1 : Int) (h1 : inI l1), hSim C (some .boolean) 0 0 2 2 [(0, vR C.1.1 l0), (1, vI l1)] [] 0 0 (m_X10_isFrost_L2 n l0 l1) := by
  obtain ⟨⟨hf, hlo⟩, ⟨hc1, hc2⟩, hf1, hl1⟩ := K_room K (by omega)
  have hcs : 0 ≤ C.2.2.2.2.1.cells ∧ 0 ≤ C.2.2.2.2.1.slots := ⟨Nat.zero_le _, Nat.zero_le _⟩
  intro n
  induction n with
  | zero => intros; exact s_none (fun _ => rfl)
  | succ n ih =>
    intro l0 l1 h1
    unfold m_X10_isFrost_L2
    refine s_iload_n (j := 1) (pc2 := 3) X dX10_isFrost_2 rfl rfl ?_
    refine s_aload_n (j := 0) (pc2 := 4) X dX10_isFrost_3 rfl rfl ?_
    refine s_getR (pc2 := 7) X dX10_isFrost_4 rfl fl_RX10_39 rfl (fun v1 => ?_)
    refine s_bipush (n := 7) (pc2 := 9) X dX10_isFrost_7 rfl rfl ?_
    refine s_iald (pc2 := 10) X dX10_isFrost_9 rfl (fun v2 hv2 => ?_)
    refine s_icge (tgt := 65) X dX10_isFrost_10 (by decide) rfl h1 hv2 ?_ ?_
    · refine s_iconst (n := 0) (pc2 := 66) X dX10_isFrost_65 rfl ?_
      exact s_zret X dX10_isFrost_66
    · refine s_aload_n (j := 0) (pc2 := 14) X dX10_isFrost_13 rfl rfl ?_
      refine s_getR (pc2 := 17) X dX10_isFrost_14 rfl fl_RX10_39 rfl (fun v3 => ?_)
      refine s_bipush (n := 6) (pc2 := 19) X dX10_isFrost_17 rfl rfl ?_
      refine s_iald (pc2 := 20) X dX10_isFrost_19 rfl (fun v4 hv4 => ?_)
      refine s_aload_n (j := 0) (pc2 := 21) X dX10_isFrost_20 rfl rfl ?_
      refine s_getR (pc2 := 24) X dX10_isFrost_21 rfl fl_RX10_39 rfl (fun v5 => ?_)
      refine s_bipush (n := 120) (pc2 := 26) X dX10_isFrost_24 rfl rfl ?_
      refine s_iconst (n := 2) (pc2 := 27) X dX10_isFrost_26 rfl ?_
      refine s_iload_n (j := 1) (pc2 := 28) X dX10_isFrost_27 rfl rfl ?_
      refine s_imul (pc2 := 29) X dX10_isFrost_28 rfl ?_
      refine s_iadd (pc2 := 30) X dX10_isFrost_29 rfl ?_
      refine s_iald (pc2 := 31) X dX10_isFrost_30 rfl (fun v6 hv6 => ?_)
      refine s_iclt (tgt := 59) X dX10_isFrost_31 (by decide) rfl hv4 hv6 ?_ ?_
      · exact z_X10_isFrost_L59 d hd K X (m_X10_isFrost_L2 n) ih l0 l1 h1
      · refine s_aload_n (j := 0) (pc2 := 35) X dX10_isFrost_34 rfl rfl ?_
        refine s_getR (pc2 := 38) X dX10_isFrost_35 rfl fl_RX10_39 rfl (fun v7 => ?_)
        refine s_bipush (n := 6) (pc2 := 40) X dX10_isFrost_38 rfl rfl ?_
        refine s_iald (pc2 := 41) X dX10_isFrost_40 rfl (fun v8 hv8 => ?_)
        refine s_aload_n (j := 0) (pc2 := 42) X dX10_isFrost_41 rfl rfl ?_
        refine s_getR (pc2 := 45) X dX10_isFrost_42 rfl fl_RX10_39 rfl (fun v9 => ?_)
        refine s_bipush (n := 120) (pc2 := 47) X dX10_isFrost_45 rfl rfl ?_
        refine s_iconst (n := 2) (pc2 := 48) X dX10_isFrost_47 rfl ?_
        refine s_iload_n (j := 1) (pc2 := 49) X dX10_isFrost_48 rfl rfl ?_
        refine s_imul (pc2 := 50) X dX10_isFrost_49 rfl ?_
        refine s_iadd (pc2 := 51) X dX10_isFrost_50 rfl ?_
        refine s_iconst (n := 1) (pc2 := 52) X dX10_isFrost_51 rfl ?_
        refine s_iadd (pc2 := 53) X dX10_isFrost_52 rfl ?_
        refine s_iald (pc2 := 54) X dX10_isFrost_53 rfl (fun v10 hv10 => ?_)
        refine s_icgt (tgt := 59) X dX10_isFrost_54 (by decide) rfl hv8 hv10 ?_ ?_
        · exact z_X10_isFrost_L59 d hd K X (m_X10_isFrost_L2 n) ih l0 l1 h1
        · refine s_iconst (n := 1) (pc2 := 58) X dX10_isFrost_57 rfl ?_
          exact s_zret X dX10_isFrost_58
set_option maxRecDepth 4000 in
set_option maxHeartbeats 20000000 in
theorem z_X10_isFrost (d : Nat) (hd : 1 ≤ d) {C : hCx} (K : hCtx C.1 C.2.2.1 d 0 0 "isFrost" C) (X : hOK C cX10_isFrost RX10 2 (some .boolean)) (l0 : Nat) : hSim C (some .boolean) 0 0 2 0 [(0, vR C.1.1 l0)] [] 0 0 (m_X10_isFrost l0) := by
  obtain ⟨⟨hf, hlo⟩, ⟨hc1, hc2⟩, hf1, hl1⟩ := K_room K (by omega)
  have hcs : 0 ≤ C.2.2.2.2.1.cells ∧ 0 ≤ C.2.2.2.2.1.slots := ⟨Nat.zero_le _, Nat.zero_le _⟩
  unfold m_X10_isFrost
  refine s_iconst (n := 0) (pc2 := 1) X dX10_isFrost_0 rfl ?_
  refine s_istore_n (pc2 := 2) X dX10_isFrost_1 rfl (by decide) rfl rfl cat1_R (inI_c 0 rfl) (fun w1 hw1 => ?_)
  refine s_sub (lv2 := [(0, vR C.1.1 l0), (1, vI w1)]) [1, 0] rfl ?_
  exact z_X10_isFrost_L2 d hd K X 1000000000 l0 w1 hw1
theorem c_X10_isFrost (d : Nat) (hd : 1 ≤ d) (G : hG) (l : Launch) (l0 : Nat) : hMet G l yX10_isFrost cX10_isFrost 2 (some .boolean) d 0 0 [vR G.1 l0] (m_X10_isFrost l0) := by
  refine hMet.of (lv := [(0, vR G.1 l0)]) (by decide +kernel) (by simp [lg_sl, vR_cat, vI_cat, vL_cat, vS_cat2, vT_cat2]) (by simp [lv_args, vR_cat, vI_cat, vL_cat, vS_cat2, vT_cat2]) (fun C K X => ?_)
  obtain ⟨rfl, rfl, K⟩ := K
  exact z_X10_isFrost d hd ⟨rfl, rfl, K⟩ X l0
def m_X10_fillsWays_L166 (k37 : Nat → Int → Int → hM) (k46 : Nat → Int → Int → Int → hM) (l0 : Nat) (l1 : Int) (l3 : Int) (l4 : Int) : hM :=
  hlet (w32 (l4 + 1)) fun (w1 : Int) =>
  k46 l0 l1 l3 w1
def m_X10_fillsWays_L160 (k37 : Nat → Int → Int → hM) (k46 : Nat → Int → Int → Int → hM) (k78 : Nat → Int → Int → Int → Int → hM) (l0 : Nat) (l1 : Int) (l3 : Int) (l4 : Int) (l5 : Int) : hM :=
  hlet (w32 (l5 + 1)) fun (w1 : Int) =>
  k78 l0 l1 l3 l4 w1
def m_X10_fillsWays_L78 (k37 : Nat → Int → Int → hM) (k46 : Nat → Int → Int → Int → hM) : Nat → Nat → Int → Int → Int → Int → hM
  | 0, _, _, _, _, _ => hfail
  | n + 1, l0, l1, l3, l4, l5 =>
    hif (l5 ≥ 2) (
m_X10_fillsWays_L166 k37 k46 l0 l1 l3 l4) (
hgR 10 l0 20 fun v1 =>
  haI 20 v1 ((w32 (((w32 (94 + ((w32 (2 * l4)))))) + l5))) fun v2 =>
  hlet v2 fun (w3 : Int) =>
  hgR 10 l0 20 fun v4 =>
  haI 20 v4 ((w32 (((w32 (((w32 (94 + ((w32 (2 * l4)))))) + 1))) - l5))) fun v5 =>
  hlet v5 fun (w6 : Int) =>
  hgR 10 l0 23 fun v7 =>
  haI 20 v7 w3 fun v8 =>
  hgR 10 l0 23 fun v9 =>
  haI 20 v9 w6 fun v10 =>
  hif (((w32 (v8 + 1))) < v10) (
hgR 10 l0 23 fun v11 =>
  hgR 10 l0 23 fun v12 =>
  haI 20 v12 w3 fun v13 =>
  hsI 20 v11 w6 ((w32 (v13 + 1))) <|
  hlet (1 : Int) fun (w14 : Int) =>
  m_X10_fillsWays_L160 k37 k46 (m_X10_fillsWays_L78 k37 k46 n) l0 l1 w14 l4 l5) (
m_X10_fillsWays_L160 k37 k46 (m_X10_fillsWays_L78 k37 k46 n) l0 l1 l3 l4 l5))
def m_X10_fillsWays_L75 (k37 : Nat → Int → Int → hM) (k46 : Nat → Int → Int → Int → hM) (l0 : Nat) (l1 : Int) (l3 : Int) (l4 : Int) : hM :=
  hlet (0 : Int) fun (w1 : Int) =>
  m_X10_fillsWays_L78 k37 k46 1000000000 l0 l1 l3 l4 w1
def m_X10_fillsWays_L46 (k37 : Nat → Int → Int → hM) : Nat → Nat → Int → Int → Int → hM
  | 0, _, _, _, _ => hfail
  | n + 1, l0, l1, l3, l4 =>
    hgR 10 l0 20 fun v1 =>
  haI 20 v1 2 fun v2 =>
  hif (l4 ≥ v2) (
k37 l0 l1 l3) (
hif (l1 < 0) (
m_X10_fillsWays_L75 k37 (m_X10_fillsWays_L46 k37 n) l0 l1 l3 l4) (
hcallV 10 l0 (m_X10_leftOf l0 l1 l4) fun v3 =>
  hif (v3 ≥ 1) (
m_X10_fillsWays_L75 k37 (m_X10_fillsWays_L46 k37 n) l0 l1 l3 l4) (
m_X10_fillsWays_L166 k37 (m_X10_fillsWays_L46 k37 n) l0 l1 l3 l4)))
def m_X10_fillsWays_L37 : Nat → Nat → Int → Int → hM
  | 0, _, _, _ => hfail
  | n + 1, l0, l1, l3 =>
    hif (l3 = 0) (
hret 0) (
hlet (0 : Int) fun (w1 : Int) =>
  hlet (0 : Int) fun (w2 : Int) =>
  m_X10_fillsWays_L46 (m_X10_fillsWays_L37 n) 1000000000 l0 l1 w1 w2)
def m_X10_fillsWays_L28 (k2 : Nat → Int → Int → Int → hM) (l0 : Nat) (l1 : Int) (l2 : Int) (l3 : Int) (s0 : Nat) (s1 : Int) (s2 : Int) : hM :=
  hsI 20 s0 s1 s2 <|
  hlet (w32 (l3 + 1)) fun (w1 : Int) =>
  k2 l0 l1 l2 w1
def m_X10_fillsWays_L2 : Nat → Nat → Int → Int → Int → hM
  | 0, _, _, _, _ => hfail
  | n + 1, l0, l1, l2, l3 =>
    hgR 10 l0 20 fun v1 =>
  haI 20 v1 0 fun v2 =>
  hif (l3 ≥ v2) (
hlet (1 : Int) fun (w3 : Int) =>
  m_X10_fillsWays_L37 1000000000 l0 l1 w3) (
hgR 10 l0 23 fun v4 =>
  hif (l3 ≠ l2) (
m_X10_fillsWays_L28 (m_X10_fillsWays_L2 n) l0 l1 l2 l3 v4 l3 99) (
m_X10_fillsWays_L28 (m_X10_fillsWays_L2 n) l0 l1 l2 l3 v4 l3 0))
def m_X10_fillsWays (l0 : Nat) (l1 : Int) (l2 : Int) : hM :=
  hlet (0 : Int) fun (w1 : Int) =>
  m_X10_fillsWays_L2 1000000000 l0 l1 l2 w1
set_option maxRecDepth 4000 in
theorem z_X10_fillsWays_L166 (d : Nat) (hd : 3 ≤ d) {C : hCx} (K : hCtx C.1 C.2.2.1 d 0 0 "fillsWays" C) (X : hOK C cX10_fillsWays RX10 8 none) (k37 : Nat → Int → Int → hM) (hk37 : ∀ (l0 : Nat) (l1 : Int) (l3 : Int), inI l1 → inI l3 → hSim C none 0 0 8 37 [(0, vR C.1.1 l0), (1, vI l1), (3, vI l3)] [] 0 0 (k37 l0 l1 l3)) (k46 : Nat → Int → Int → Int → hM) (hk46 : ∀ (l0 : Nat) (l1 : Int) (l3 : Int) (l4 : Int), inI l1 → inI l3 → inI l4 → hSim C none 0 0 8 46 [(0, vR C.1.1 l0), (1, vI l1), (3, vI l3), (4, vI l4)] [] 0 0 (k46 l0 l1 l3 l4)) (l0 : Nat) (l1 : Int) (l3 : Int) (l4 : Int) (h1 : inI l1) (h3 : inI l3) (h4 : inI l4) : hSim C none 0 0 8 166 [(0, vR C.1.1 l0), (1, vI l1), (3, vI l3), (4, vI l4)] [] 0 0 (m_X10_fillsWays_L166 k37 k46 l0 l1 l3 l4) := by
  obtain ⟨⟨hf, hlo⟩, ⟨hc1, hc2⟩, hf1, hl1⟩ := K_room K (by omega)
  have hcs : 0 ≤ C.2.2.2.2.1.cells ∧ 0 ≤ C.2.2.2.2.1.slots := ⟨Nat.zero_le _, Nat.zero_le _⟩
  unfold m_X10_fillsWays_L166
  refine s_iinc (j := 3) (pc2 := 169) X dX10_fillsWays_166 rfl (by decide) rfl rfl rfl cat1_I (fun w1 hw1 => ?_)
  refine s_goto (pc2 := 46) X dX10_fillsWays_169 (by decide) ?_
  refine s_sub (lv2 := [(0, vR C.1.1 l0), (1, vI l1), (3, vI l3), (4, vI w1)]) [1, 2, 3, 0] rfl ?_
  exact hk46 l0 l1 l3 w1 h1 h3 hw1
set_option maxRecDepth 4000 in
theorem z_X10_fillsWays_L160 (d : Nat) (hd : 3 ≤ d) {C : hCx} (K : hCtx C.1 C.2.2.1 d 0 0 "fillsWays" C) (X : hOK C cX10_fillsWays RX10 8 none) (k37 : Nat → Int → Int → hM) (hk37 : ∀ (l0 : Nat) (l1 : Int) (l3 : Int), inI l1 → inI l3 → hSim C none 0 0 8 37 [(0, vR C.1.1 l0), (1, vI l1), (3, vI l3)] [] 0 0 (k37 l0 l1 l3)) (k46 : Nat → Int → Int → Int → hM) (hk46 : ∀ (l0 : Nat) (l1 : Int) (l3 : Int) (l4 : Int), inI l1 → inI l3 → inI l4 → hSim C none 0 0 8 46 [(0, vR C.1.1 l0), (1, vI l1), (3, vI l3), (4, vI l4)] [] 0 0 (k46 l0 l1 l3 l4)) (k78 : Nat → Int → Int → Int → Int → hM) (hk78 : ∀ (l0 : Nat) (l1 : Int) (l3 : Int) (l4 : Int) (l5 : Int), inI l1 → inI l3 → inI l4 → inI l5 → hSim C none 0 0 8 78 [(0, vR C.1.1 l0), (1, vI l1), (3, vI l3), (4, vI l4), (5, vI l5)] [] 0 0 (k78 l0 l1 l3 l4 l5)) (l0 : Nat) (l1 : Int) (l3 : Int) (l4 : Int) (l5 : Int) (h1 : inI l1) (h3 : inI l3) (h4 : inI l4) (h5 : inI l5) : hSim C none 0 0 8 160 [(0, vR C.1.1 l0), (1, vI l1), (3, vI l3), (4, vI l4), (5, vI l5)] [] 0 0 (m_X10_fillsWays_L160 k37 k46 k78 l0 l1 l3 l4 l5) := by
  obtain ⟨⟨hf, hlo⟩, ⟨hc1, hc2⟩, hf1, hl1⟩ := K_room K (by omega)
  have hcs : 0 ≤ C.2.2.2.2.1.cells ∧ 0 ≤ C.2.2.2.2.1.slots := ⟨Nat.zero_le _, Nat.zero_le _⟩
  unfold m_X10_fillsWays_L160
  refine s_iinc (j := 4) (pc2 := 163) X dX10_fillsWays_160 rfl (by decide) rfl rfl rfl cat1_I (fun w1 hw1 => ?_)
  refine s_goto (pc2 := 78) X dX10_fillsWays_163 (by decide) ?_
  refine s_sub (lv2 := [(0, vR C.1.1 l0), (1, vI l1), (3, vI l3), (4, vI l4), (5, vI w1)]) [1, 2, 3, 4, 0] rfl ?_
  exact hk78 l0 l1 l3 l4 w1 h1 h3 h4 hw1
set_option maxRecDepth 4000 in
theorem z_X10_fillsWays_L78 (d : Nat) (hd : 3 ≤ d) {C : hCx} (K : hCtx C.1 C.2.2.1 d 0 0 "fillsWays" C) (X : hOK C cX10_fillsWays RX10 8 none) (k37 : Nat → Int → Int → hM) (hk37 : ∀ (l0 : Nat) (l1 : Int) (l3 : Int), inI l1 → inI l3 → hSim C none 0 0 8 37 [(0, vR C.1.1 l0), (1, vI l1), (3, vI l3)] [] 0 0 (k37 l0 l1 l3)) (k46 : Nat → Int → Int → Int → hM) (hk46 : ∀ (l0 : Nat) (l1 : Int) (l3 : Int) (l4 : Int), inI l1 → inI l3 → inI l4 → hSim C none 0 0 8 46 [(0, vR C.1.1 l0), (1, vI l1), (3, vI l3), (4, vI l4)] [] 0 0 (k46 l0 l1 l3 l4)) : ∀ (n : Nat) (l0 : Nat) (l1 : Int) (l3 : Int) (l4 : Int) (l5 : Int) (h1 : inI l1) (h3 : inI l3) (h4 : inI l4) (h5 : inI l5), hSim C none 0 0 8 78 [(0, vR C.1.1 l0), (1, vI l1), (3, vI l3), (4, vI l4), (5, vI l5)] [] 0 0 (m_X10_fillsWays_L78 k37 k46 n l0 l1 l3 l4 l5) := by
  obtain ⟨⟨hf, hlo⟩, ⟨hc1, hc2⟩, hf1, hl1⟩ := K_room K (by omega)
  have hcs : 0 ≤ C.2.2.2.2.1.cells ∧ 0 ≤ C.2.2.2.2.1.slots := ⟨Nat.zero_le _, Nat.zero_le _⟩
  intro n
  induction n with
  | zero => intros; exact s_none (fun _ => rfl)
  | succ n ih =>
    intro l0 l1 l3 l4 l5 h1 h3 h4 h5
    unfold m_X10_fillsWays_L78
    refine s_iload (j := 4) (pc2 := 80) X dX10_fillsWays_78 rfl rfl ?_
    refine s_iconst (n := 2) (pc2 := 81) X dX10_fillsWays_80 rfl ?_
    refine s_icge (tgt := 166) X dX10_fillsWays_81 (by decide) rfl h5 (inI_c 2 rfl) ?_ ?_
    · refine s_sub (lv2 := [(0, vR C.1.1 l0), (1, vI l1), (3, vI l3), (4, vI l4)]) [0, 1, 2, 3] rfl ?_
      exact z_X10_fillsWays_L166 d hd K X k37 hk37 k46 hk46 l0 l1 l3 l4 h1 h3 h4
    · refine s_aload_n (j := 0) (pc2 := 85) X dX10_fillsWays_84 rfl rfl ?_
      refine s_getR (pc2 := 88) X dX10_fillsWays_85 rfl fl_RX10_39 rfl (fun v1 => ?_)
      refine s_bipush (n := 94) (pc2 := 90) X dX10_fillsWays_88 rfl rfl ?_
      refine s_iconst (n := 2) (pc2 := 91) X dX10_fillsWays_90 rfl ?_
      refine s_iload (j := 3) (pc2 := 93) X dX10_fillsWays_91 rfl rfl ?_
      refine s_imul (pc2 := 94) X dX10_fillsWays_93 rfl ?_
      refine s_iadd (pc2 := 95) X dX10_fillsWays_94 rfl ?_
      refine s_iload (j := 4) (pc2 := 97) X dX10_fillsWays_95 rfl rfl ?_
      refine s_iadd (pc2 := 98) X dX10_fillsWays_97 rfl ?_
      refine s_iald (pc2 := 99) X dX10_fillsWays_98 rfl (fun v2 hv2 => ?_)
      refine s_istore (pc2 := 101) X dX10_fillsWays_99 rfl (by decide) rfl rfl cat1_I hv2 (fun w3 hw3 => ?_)
      refine s_aload_n (j := 1) (pc2 := 102) X dX10_fillsWays_101 rfl rfl ?_
      refine s_getR (pc2 := 105) X dX10_fillsWays_102 rfl fl_RX10_39 rfl (fun v4 => ?_)
      refine s_bipush (n := 94) (pc2 := 107) X dX10_fillsWays_105 rfl rfl ?_
      refine s_iconst (n := 2) (pc2 := 108) X dX10_fillsWays_107 rfl ?_
      refine s_iload (j := 4) (pc2 := 110) X dX10_fillsWays_108 rfl rfl ?_
      refine s_imul (pc2 := 111) X dX10_fillsWays_110 rfl ?_
      refine s_iadd (pc2 := 112) X dX10_fillsWays_111 rfl ?_
      refine s_iconst (n := 1) (pc2 := 113) X dX10_fillsWays_112 rfl ?_
      refine s_iadd (pc2 := 114) X dX10_fillsWays_113 rfl ?_
      refine s_iload (j := 5) (pc2 := 116) X dX10_fillsWays_114 rfl rfl ?_
      refine s_isub (pc2 := 117) X dX10_fillsWays_116 rfl ?_
      refine s_iald (pc2 := 118) X dX10_fillsWays_117 rfl (fun v5 hv5 => ?_)
      refine s_istore (pc2 := 120) X dX10_fillsWays_118 rfl (by decide) rfl rfl cat1_I hv5 (fun w6 hw6 => ?_)
      refine s_aload_n (j := 2) (pc2 := 121) X dX10_fillsWays_120 rfl rfl ?_
      refine s_getR (pc2 := 124) X dX10_fillsWays_121 rfl fl_RX10_45 rfl (fun v7 => ?_)
      refine s_iload (j := 1) (pc2 := 126) X dX10_fillsWays_124 rfl rfl ?_
      refine s_iald (pc2 := 127) X dX10_fillsWays_126 rfl (fun v8 hv8 => ?_)
      refine s_iconst (n := 1) (pc2 := 128) X dX10_fillsWays_127 rfl ?_
      refine s_iadd (pc2 := 129) X dX10_fillsWays_128 rfl ?_
      refine s_aload_n (j := 2) (pc2 := 130) X dX10_fillsWays_129 rfl rfl ?_
      refine s_getR (pc2 := 133) X dX10_fillsWays_130 rfl fl_RX10_45 rfl (fun v9 => ?_)
      refine s_iload (j := 0) (pc2 := 135) X dX10_fillsWays_133 rfl rfl ?_
      refine s_iald (pc2 := 136) X dX10_fillsWays_135 rfl (fun v10 hv10 => ?_)
      refine s_iclt (tgt := 142) X dX10_fillsWays_136 (by decide) rfl (w32_in _) hv10 ?_ ?_
      · refine s_aload_n (j := 2) (pc2 := 143) X dX10_fillsWays_142 rfl rfl ?_
        refine s_getR (pc2 := 146) X dX10_fillsWays_143 rfl fl_RX10_45 rfl (fun v11 => ?_)
        refine s_iload (j := 0) (pc2 := 148) X dX10_fillsWays_146 rfl rfl ?_
        refine s_aload_n (j := 2) (pc2 := 149) X dX10_fillsWays_148 rfl rfl ?_
        refine s_getR (pc2 := 152) X dX10_fillsWays_149 rfl fl_RX10_45 rfl (fun v12 => ?_)
        refine s_iload (j := 1) (pc2 := 154) X dX10_fillsWays_152 rfl rfl ?_
        refine s_iald (pc2 := 155) X dX10_fillsWays_154 rfl (fun v13 hv13 => ?_)
        refine s_iconst (n := 1) (pc2 := 156) X dX10_fillsWays_155 rfl ?_
        refine s_iadd (pc2 := 157) X dX10_fillsWays_156 rfl ?_
        refine s_iast (pc2 := 158) X dX10_fillsWays_157 rfl (w32_in _) ?_
        refine s_iconst (n := 1) (pc2 := 159) X dX10_fillsWays_158 rfl ?_
        refine s_istore_n (pc2 := 160) X dX10_fillsWays_159 rfl (by decide) rfl rfl cat1_N (inI_c 1 rfl) (fun w14 hw14 => ?_)
        refine s_sub (lv2 := [(0, vR C.1.1 l0), (1, vI l1), (3, vI w14), (4, vI l4), (5, vI l5)]) [3, 4, 0, 5, 6] rfl ?_
        exact z_X10_fillsWays_L160 d hd K X k37 hk37 k46 hk46 (m_X10_fillsWays_L78 k37 k46 n) ih l0 l1 w14 l4 l5 h1 hw14 h4 h5
      · refine s_goto (pc2 := 160) X dX10_fillsWays_139 (by decide) ?_
        refine s_sub (lv2 := [(0, vR C.1.1 l0), (1, vI l1), (3, vI l3), (4, vI l4), (5, vI l5)]) [2, 3, 4, 5, 6] rfl ?_
        exact z_X10_fillsWays_L160 d hd K X k37 hk37 k46 hk46 (m_X10_fillsWays_L78 k37 k46 n) ih l0 l1 l3 l4 l5 h1 h3 h4 h5
set_option maxRecDepth 4000 in
theorem z_X10_fillsWays_L75 (d : Nat) (hd : 3 ≤ d) {C : hCx} (K : hCtx C.1 C.2.2.1 d 0 0 "fillsWays" C) (X : hOK C cX10_fillsWays RX10 8 none) (k37 : Nat → Int → Int → hM) (hk37 : ∀ (l0 : Nat) (l1 : Int) (l3 : Int), inI l1 → inI l3 → hSim C none 0 0 8 37 [(0, vR C.1.1 l0), (1, vI l1), (3, vI l3)] [] 0 0 (k37 l0 l1 l3)) (k46 : Nat → Int → Int → Int → hM) (hk46 : ∀ (l0 : Nat) (l1 : Int) (l3 : Int) (l4 : Int), inI l1 → inI l3 → inI l4 → hSim C none 0 0 8 46 [(0, vR C.1.1 l0), (1, vI l1), (3, vI l3), (4, vI l4)] [] 0 0 (k46 l0 l1 l3 l4)) (l0 : Nat) (l1 : Int) (l3 : Int) (l4 : Int) (h1 : inI l1) (h3 : inI l3) (h4 : inI l4) : hSim C none 0 0 8 75 [(0, vR C.1.1 l0), (1, vI l1), (3, vI l3), (4, vI l4)] [] 0 0 (m_X10_fillsWays_L75 k37 k46 l0 l1 l3 l4) := by
  obtain ⟨⟨hf, hlo⟩, ⟨hc1, hc2⟩, hf1, hl1⟩ := K_room K (by omega)
  have hcs : 0 ≤ C.2.2.2.2.1.cells ∧ 0 ≤ C.2.2.2.2.1.slots := ⟨Nat.zero_le _, Nat.zero_le _⟩
  unfold m_X10_fillsWays_L75
  refine s_iconst (n := 0) (pc2 := 76) X dX10_fillsWays_75 rfl ?_
  refine s_istore (pc2 := 78) X dX10_fillsWays_76 rfl (by decide) rfl rfl cat1_I (inI_c 0 rfl) (fun w1 hw1 => ?_)
  refine s_sub (lv2 := [(0, vR C.1.1 l0), (1, vI l1), (3, vI l3), (4, vI l4), (5, vI w1)]) [1, 2, 3, 4, 0] rfl ?_
  exact z_X10_fillsWays_L78 d hd K X k37 hk37 k46 hk46 1000000000 l0 l1 l3 l4 w1 h1 h3 h4 hw1
set_option maxRecDepth 4000 in
theorem z_X10_fillsWays_L46 (d : Nat) (hd : 3 ≤ d) {C : hCx} (K : hCtx C.1 C.2.2.1 d 0 0 "fillsWays" C) (X : hOK C cX10_fillsWays RX10 8 none) (k37 : Nat → Int → Int → hM) (hk37 : ∀ (l0 : Nat) (l1 : Int) (l3 : Int), inI l1 → inI l3 → hSim C none 0 0 8 37 [(0, vR C.1.1 l0), (1, vI l1), (3, vI l3)] [] 0 0 (k37 l0 l1 l3)) : ∀ (n : Nat) (l0 : Nat) (l1 : Int) (l3 : Int) (l4 : Int) (h1 : inI l1) (h3 : inI l3) (h4 : inI l4), hSim C none 0 0 8 46 [(0, vR C.1.1 l0), (1, vI l1), (3, vI l3), (4, vI l4)] [] 0 0 (m_X10_fillsWays_L46 k37 n l0 l1 l3 l4) := by
  obtain ⟨⟨hf, hlo⟩, ⟨hc1, hc2⟩, hf1, hl1⟩ := K_room K (by omega)
  have hcs : 0 ≤ C.2.2.2.2.1.cells ∧ 0 ≤ C.2.2.2.2.1.slots := ⟨Nat.zero_le _, Nat.zero_le _⟩
  intro n
  induction n with
  | zero => intros; exact s_none (fun _ => rfl)
  | succ n ih =>
    intro l0 l1 l3 l4 h1 h3 h4
    unfold m_X10_fillsWays_L46
    refine s_iload (j := 3) (pc2 := 48) X dX10_fillsWays_46 rfl rfl ?_
    refine s_aload_n (j := 0) (pc2 := 49) X dX10_fillsWays_48 rfl rfl ?_
    refine s_getR (pc2 := 52) X dX10_fillsWays_49 rfl fl_RX10_39 rfl (fun v1 => ?_)
    refine s_iconst (n := 2) (pc2 := 53) X dX10_fillsWays_52 rfl ?_
    refine s_iald (pc2 := 54) X dX10_fillsWays_53 rfl (fun v2 hv2 => ?_)
    refine s_icge (tgt := 172) X dX10_fillsWays_54 (by decide) rfl h4 hv2 ?_ ?_
    · refine s_goto (pc2 := 37) X dX10_fillsWays_172 (by decide) ?_
      refine s_sub (lv2 := [(0, vR C.1.1 l0), (1, vI l1), (3, vI l3)]) [0, 1, 2] rfl ?_
      exact hk37 l0 l1 l3 h1 h3
    · refine s_iload_n (j := 1) (pc2 := 58) X dX10_fillsWays_57 rfl rfl ?_
      refine s_iflt (tgt := 75) X dX10_fillsWays_58 (by decide) rfl h1 ?_ ?_
      · exact z_X10_fillsWays_L75 d hd K X k37 hk37 (m_X10_fillsWays_L46 k37 n) ih l0 l1 l3 l4 h1 h3 h4
      · refine s_aload_n (j := 0) (pc2 := 62) X dX10_fillsWays_61 rfl rfl ?_
        refine s_iload_n (j := 1) (pc2 := 63) X dX10_fillsWays_62 rfl rfl ?_
        refine s_iload (j := 3) (pc2 := 65) X dX10_fillsWays_63 rfl rfl ?_
        refine s_callVI (d2 := d - 1) (As := [vI l1, vI l4]) (st := []) (pc2 := 68) X dX10_fillsWays_65 rfl ml_RX10_304 im_X10_leftOf se_X10_leftOf kX10 rfl (c_X10_leftOf (d - 1) (by omega) C.1 C.2.2.1 l0 l1 l4 h1 h4) hy_X10_leftOf rfl rfl hf hlo (st_room (Nat.le_of_ble_eq_true rfl)) hcs (fun v3 hv3 => ?_)
        refine s_iconst (n := 1) (pc2 := 69) X dX10_fillsWays_68 rfl ?_
        refine s_icge (tgt := 75) X dX10_fillsWays_69 (by decide) rfl hv3 (inI_c 1 rfl) ?_ ?_
        · exact z_X10_fillsWays_L75 d hd K X k37 hk37 (m_X10_fillsWays_L46 k37 n) ih l0 l1 l3 l4 h1 h3 h4
        · refine s_goto (pc2 := 166) X dX10_fillsWays_72 (by decide) ?_
          exact z_X10_fillsWays_L166 d hd K X k37 hk37 (m_X10_fillsWays_L46 k37 n) ih l0 l1 l3 l4 h1 h3 h4
set_option maxRecDepth 4000 in
theorem z_X10_fillsWays_L37 (d : Nat) (hd : 3 ≤ d) {C : hCx} (K : hCtx C.1 C.2.2.1 d 0 0 "fillsWays" C) (X : hOK C cX10_fillsWays RX10 8 none) : ∀ (n : Nat) (l0 : Nat) (l1 : Int) (l3 : Int) (h1 : inI l1) (h3 : inI l3), hSim C none 0 0 8 37 [(0, vR C.1.1 l0), (1, vI l1), (3, vI l3)] [] 0 0 (m_X10_fillsWays_L37 n l0 l1 l3) := by
  obtain ⟨⟨hf, hlo⟩, ⟨hc1, hc2⟩, hf1, hl1⟩ := K_room K (by omega)
  have hcs : 0 ≤ C.2.2.2.2.1.cells ∧ 0 ≤ C.2.2.2.2.1.slots := ⟨Nat.zero_le _, Nat.zero_le _⟩
  intro n
  induction n with
  | zero => intros; exact s_none (fun _ => rfl)
  | succ n ih =>
    intro l0 l1 l3 h1 h3
    unfold m_X10_fillsWays_L37
    refine s_iload_n (j := 2) (pc2 := 38) X dX10_fillsWays_37 rfl rfl ?_
    refine s_ifeq (tgt := 175) X dX10_fillsWays_38 (by decide) rfl h3 ?_ ?_
    · exact s_ret X dX10_fillsWays_175
    · refine s_iconst (n := 0) (pc2 := 42) X dX10_fillsWays_41 rfl ?_
      refine s_istore_n (pc2 := 43) X dX10_fillsWays_42 rfl (by decide) rfl rfl cat1_N (inI_c 0 rfl) (fun w1 hw1 => ?_)
      refine s_iconst (n := 0) (pc2 := 44) X dX10_fillsWays_43 rfl ?_
      refine s_istore (pc2 := 46) X dX10_fillsWays_44 rfl (by decide) rfl rfl cat1_I (inI_c 0 rfl) (fun w2 hw2 => ?_)
      refine s_sub (lv2 := [(0, vR C.1.1 l0), (1, vI l1), (3, vI w1), (4, vI w2)]) [2, 3, 1, 0] rfl ?_
      exact z_X10_fillsWays_L46 d hd K X (m_X10_fillsWays_L37 n) ih 1000000000 l0 l1 w1 w2 h1 hw1 hw2
set_option maxRecDepth 4000 in
theorem z_X10_fillsWays_L28 (d : Nat) (hd : 3 ≤ d) {C : hCx} (K : hCtx C.1 C.2.2.1 d 0 0 "fillsWays" C) (X : hOK C cX10_fillsWays RX10 8 none) (k2 : Nat → Int → Int → Int → hM) (hk2 : ∀ (l0 : Nat) (l1 : Int) (l2 : Int) (l3 : Int), inI l1 → inI l2 → inI l3 → hSim C none 0 0 8 2 [(0, vR C.1.1 l0), (1, vI l1), (2, vI l2), (3, vI l3)] [] 0 0 (k2 l0 l1 l2 l3)) (l0 : Nat) (l1 : Int) (l2 : Int) (l3 : Int) (s0 : Nat) (s1 : Int) (s2 : Int) (h1 : inI l1) (h2 : inI l2) (h3 : inI l3) (g1 : inI s1) (g2 : inI s2) : hSim C none 0 0 8 28 [(0, vR C.1.1 l0), (1, vI l1), (2, vI l2), (3, vI l3)] [vI s2, vI s1, vR C.1.1 s0] 0 0 (m_X10_fillsWays_L28 k2 l0 l1 l2 l3 s0 s1 s2) := by
  obtain ⟨⟨hf, hlo⟩, ⟨hc1, hc2⟩, hf1, hl1⟩ := K_room K (by omega)
  have hcs : 0 ≤ C.2.2.2.2.1.cells ∧ 0 ≤ C.2.2.2.2.1.slots := ⟨Nat.zero_le _, Nat.zero_le _⟩
  unfold m_X10_fillsWays_L28
  refine s_iast (pc2 := 29) X dX10_fillsWays_28 rfl g2 ?_
  refine s_iinc (j := 3) (pc2 := 32) X dX10_fillsWays_29 rfl (by decide) rfl rfl rfl cat1_I (fun w1 hw1 => ?_)
  refine s_goto (pc2 := 2) X dX10_fillsWays_32 (by decide) ?_
  refine s_sub (lv2 := [(0, vR C.1.1 l0), (1, vI l1), (2, vI l2), (3, vI w1)]) [1, 2, 3, 0] rfl ?_
  exact hk2 l0 l1 l2 w1 h1 h2 hw1
set_option maxRecDepth 4000 in
theorem z_X10_fillsWays_L2 (d : Nat) (hd : 3 ≤ d) {C : hCx} (K : hCtx C.1 C.2.2.1 d 0 0 "fillsWays" C) (X : hOK C cX10_fillsWays RX10 8 none) : ∀ (n : Nat) (l0 : Nat) (l1 : Int) (l2 : Int) (l3 : Int) (h1 : inI l1) (h2 : inI l2) (h3 : inI l3), hSim C none 0 0 8 2 [(0, vR C.1.1 l0), (1, vI l1), (2, vI l2), (3, vI l3)] [] 0 0 (m_X10_fillsWays_L2 n l0 l1 l2 l3) := by
  obtain ⟨⟨hf, hlo⟩, ⟨hc1, hc2⟩, hf1, hl1⟩ := K_room K (by omega)
  have hcs : 0 ≤ C.2.2.2.2.1.cells ∧ 0 ≤ C.2.2.2.2.1.slots := ⟨Nat.zero_le _, Nat.zero_le _⟩
  intro n
  induction n with
  | zero => intros; exact s_none (fun _ => rfl)
  | succ n ih =>
    intro l0 l1 l2 l3 h1 h2 h3
    unfold m_X10_fillsWays_L2
    refine s_iload_n (j := 3) (pc2 := 3) X dX10_fillsWays_2 rfl rfl ?_
    refine s_aload_n (j := 0) (pc2 := 4) X dX10_fillsWays_3 rfl rfl ?_
    refine s_getR (pc2 := 7) X dX10_fillsWays_4 rfl fl_RX10_39 rfl (fun v1 => ?_)
    refine s_iconst (n := 0) (pc2 := 8) X dX10_fillsWays_7 rfl ?_
    refine s_iald (pc2 := 9) X dX10_fillsWays_8 rfl (fun v2 hv2 => ?_)
    refine s_icge (tgt := 35) X dX10_fillsWays_9 (by decide) rfl h3 hv2 ?_ ?_
    · refine s_iconst (n := 1) (pc2 := 36) X dX10_fillsWays_35 rfl ?_
      refine s_istore_n (pc2 := 37) X dX10_fillsWays_36 rfl (by decide) rfl rfl cat1_I (inI_c 1 rfl) (fun w3 hw3 => ?_)
      refine s_sub (lv2 := [(0, vR C.1.1 l0), (1, vI l1), (3, vI w3)]) [1, 2, 0] rfl ?_
      exact z_X10_fillsWays_L37 d hd K X 1000000000 l0 l1 w3 h1 hw3
    · refine s_aload_n (j := 0) (pc2 := 13) X dX10_fillsWays_12 rfl rfl ?_
      refine s_getR (pc2 := 16) X dX10_fillsWays_13 rfl fl_RX10_45 rfl (fun v4 => ?_)
      refine s_iload_n (j := 3) (pc2 := 17) X dX10_fillsWays_16 rfl rfl ?_
      refine s_iload_n (j := 3) (pc2 := 18) X dX10_fillsWays_17 rfl rfl ?_
      refine s_iload_n (j := 2) (pc2 := 19) X dX10_fillsWays_18 rfl rfl ?_
      refine s_icne (tgt := 26) X dX10_fillsWays_19 (by decide) rfl h3 h2 ?_ ?_
      · refine s_bipush (n := 99) (pc2 := 28) X dX10_fillsWays_26 rfl rfl ?_
        exact z_X10_fillsWays_L28 d hd K X (m_X10_fillsWays_L2 n) ih l0 l1 l2 l3 v4 l3 99 h1 h2 h3 h3 (inI_c 99 rfl)
      · refine s_iconst (n := 0) (pc2 := 23) X dX10_fillsWays_22 rfl ?_
        refine s_goto (pc2 := 28) X dX10_fillsWays_23 (by decide) ?_
        exact z_X10_fillsWays_L28 d hd K X (m_X10_fillsWays_L2 n) ih l0 l1 l2 l3 v4 l3 0 h1 h2 h3 h3 (inI_c 0 rfl)
set_option maxRecDepth 4000 in
set_option maxHeartbeats 20000000 in
theorem z_X10_fillsWays (d : Nat) (hd : 3 ≤ d) {C : hCx} (K : hCtx C.1 C.2.2.1 d 0 0 "fillsWays" C) (X : hOK C cX10_fillsWays RX10 8 none) (l0 : Nat) (l1 : Int) (l2 : Int) (h1 : inI l1) (h2 : inI l2) : hSim C none 0 0 8 0 [(0, vR C.1.1 l0), (1, vI l1), (2, vI l2)] [] 0 0 (m_X10_fillsWays l0 l1 l2) := by
  obtain ⟨⟨hf, hlo⟩, ⟨hc1, hc2⟩, hf1, hl1⟩ := K_room K (by omega)
  have hcs : 0 ≤ C.2.2.2.2.1.cells ∧ 0 ≤ C.2.2.2.2.1.slots := ⟨Nat.zero_le _, Nat.zero_le _⟩
  unfold m_X10_fillsWays
  refine s_iconst (n := 0) (pc2 := 1) X dX10_fillsWays_0 rfl ?_
  refine s_istore_n (pc2 := 2) X dX10_fillsWays_1 rfl (by decide) rfl rfl cat1_I (inI_c 0 rfl) (fun w1 hw1 => ?_)
  refine s_sub (lv2 := [(0, vR C.1.1 l0), (1, vI l1), (2, vI l2), (3, vI w1)]) [1, 2, 3, 0] rfl ?_
  exact z_X10_fillsWays_L2 d hd K X 1000000000 l0 l1 l2 w1 h1 h2 hw1
theorem c_X10_fillsWays (d : Nat) (hd : 3 ≤ d) (G : hG) (l : Launch) (l0 : Nat) (l1 : Int) (l2 : Int) (h1 : inI l1) (h2 : inI l2) : hMet G l yX10_fillsWays cX10_fillsWays 8 none d 0 0 [vR G.1 l0, vI l1, vI l2] (m_X10_fillsWays l0 l1 l2) := by
  refine hMet.of (lv := [(0, vR G.1 l0), (1, vI l1), (2, vI l2)]) (by decide +kernel) (by simp [lg_sl, vR_cat, vI_cat, vL_cat, vS_cat2, vT_cat2]) (by simp [lv_args, vR_cat, vI_cat, vL_cat, vS_cat2, vT_cat2]) (fun C K X => ?_)
  obtain ⟨rfl, rfl, K⟩ := K
  exact z_X10_fillsWays d hd ⟨rfl, rfl, K⟩ X l0 l1 l2 h1 h2
def m_X10_reachOf_L44 (k15 : Nat → Int → Int → hM) (l0 : Nat) (l3 : Int) (s0 : Int) (s1 : Int) : hM :=
  hlet ((iorZ s0 s1)) fun (w1 : Int) =>
  hlet (w32 (l3 + 1)) fun (w2 : Int) =>
  k15 l0 w1 w2
def m_X10_reachOf_L15 : Nat → Nat → Int → Int → hM
  | 0, _, _, _ => hfail
  | n + 1, l0, l2, l3 =>
    hgR 10 l0 20 fun v1 =>
  haI 20 v1 0 fun v2 =>
  hif (l3 ≥ v2) (
hret l2) (
hgR 10 l0 23 fun v3 =>
  haI 20 v3 l3 fun v4 =>
  hif (v4 ≥ 99) (
m_X10_reachOf_L44 (m_X10_reachOf_L15 n) l0 l3 l2 0) (
m_X10_reachOf_L44 (m_X10_reachOf_L15 n) l0 l3 l2 ((ishlZ 1 l3))))
def m_X10_reachOf (l0 : Nat) (l1 : Int) : hM :=
  hlet (0 : Int) fun (w1 : Int) =>
  hcallV 10 l0 (m_X10_personOf l0 l1 0) fun v2 =>
  hcallV 10 l0 (m_X10_fillsWays l0 l1 v2) fun _ =>
  hlet (0 : Int) fun (w3 : Int) =>
  m_X10_reachOf_L15 1000000000 l0 w1 w3
set_option maxRecDepth 4000 in
theorem z_X10_reachOf_L44 (d : Nat) (hd : 4 ≤ d) {C : hCx} (K : hCtx C.1 C.2.2.1 d 0 0 "reachOf" C) (X : hOK C cX10_reachOf RX10 4 (some .int)) (k15 : Nat → Int → Int → hM) (hk15 : ∀ (l0 : Nat) (l2 : Int) (l3 : Int), inI l2 → inI l3 → hSim C (some .int) 0 0 4 15 [(0, vR C.1.1 l0), (2, vI l2), (3, vI l3)] [] 0 0 (k15 l0 l2 l3)) (l0 : Nat) (l3 : Int) (s0 : Int) (s1 : Int) (h3 : inI l3) (g0 : inI s0) (g1 : inI s1) : hSim C (some .int) 0 0 4 44 [(0, vR C.1.1 l0), (3, vI l3)] [vI s1, vI s0] 0 0 (m_X10_reachOf_L44 k15 l0 l3 s0 s1) := by
  obtain ⟨⟨hf, hlo⟩, ⟨hc1, hc2⟩, hf1, hl1⟩ := K_room K (by omega)
  have hcs : 0 ≤ C.2.2.2.2.1.cells ∧ 0 ≤ C.2.2.2.2.1.slots := ⟨Nat.zero_le _, Nat.zero_le _⟩
  unfold m_X10_reachOf_L44
  refine s_ior (pc2 := 45) X dX10_reachOf_44 rfl ?_
  refine s_istore_n (pc2 := 46) X dX10_reachOf_45 rfl (by decide) rfl rfl cat1_N (iorZ_in _ _) (fun w1 hw1 => ?_)
  refine s_iinc (j := 2) (pc2 := 49) X dX10_reachOf_46 rfl (by decide) rfl rfl rfl cat1_I (fun w2 hw2 => ?_)
  refine s_goto (pc2 := 15) X dX10_reachOf_49 (by decide) ?_
  refine s_sub (lv2 := [(0, vR C.1.1 l0), (2, vI w1), (3, vI w2)]) [2, 1, 0] rfl ?_
  exact hk15 l0 w1 w2 hw1 hw2
set_option maxRecDepth 4000 in
theorem z_X10_reachOf_L15 (d : Nat) (hd : 4 ≤ d) {C : hCx} (K : hCtx C.1 C.2.2.1 d 0 0 "reachOf" C) (X : hOK C cX10_reachOf RX10 4 (some .int)) : ∀ (n : Nat) (l0 : Nat) (l2 : Int) (l3 : Int) (h2 : inI l2) (h3 : inI l3), hSim C (some .int) 0 0 4 15 [(0, vR C.1.1 l0), (2, vI l2), (3, vI l3)] [] 0 0 (m_X10_reachOf_L15 n l0 l2 l3) := by
  obtain ⟨⟨hf, hlo⟩, ⟨hc1, hc2⟩, hf1, hl1⟩ := K_room K (by omega)
  have hcs : 0 ≤ C.2.2.2.2.1.cells ∧ 0 ≤ C.2.2.2.2.1.slots := ⟨Nat.zero_le _, Nat.zero_le _⟩
  intro n
  induction n with
  | zero => intros; exact s_none (fun _ => rfl)
  | succ n ih =>
    intro l0 l2 l3 h2 h3
    unfold m_X10_reachOf_L15
    refine s_iload_n (j := 2) (pc2 := 16) X dX10_reachOf_15 rfl rfl ?_
    refine s_aload_n (j := 0) (pc2 := 17) X dX10_reachOf_16 rfl rfl ?_
    refine s_getR (pc2 := 20) X dX10_reachOf_17 rfl fl_RX10_39 rfl (fun v1 => ?_)
    refine s_iconst (n := 0) (pc2 := 21) X dX10_reachOf_20 rfl ?_
    refine s_iald (pc2 := 22) X dX10_reachOf_21 rfl (fun v2 hv2 => ?_)
    refine s_icge (tgt := 52) X dX10_reachOf_22 (by decide) rfl h3 hv2 ?_ ?_
    · refine s_iload_n (j := 1) (pc2 := 53) X dX10_reachOf_52 rfl rfl ?_
      exact s_iret X dX10_reachOf_53 h2
    · refine s_iload_n (j := 1) (pc2 := 26) X dX10_reachOf_25 rfl rfl ?_
      refine s_aload_n (j := 0) (pc2 := 27) X dX10_reachOf_26 rfl rfl ?_
      refine s_getR (pc2 := 30) X dX10_reachOf_27 rfl fl_RX10_45 rfl (fun v3 => ?_)
      refine s_iload_n (j := 2) (pc2 := 31) X dX10_reachOf_30 rfl rfl ?_
      refine s_iald (pc2 := 32) X dX10_reachOf_31 rfl (fun v4 hv4 => ?_)
      refine s_bipush (n := 99) (pc2 := 34) X dX10_reachOf_32 rfl rfl ?_
      refine s_icge (tgt := 43) X dX10_reachOf_34 (by decide) rfl hv4 (inI_c 99 rfl) ?_ ?_
      · refine s_iconst (n := 0) (pc2 := 44) X dX10_reachOf_43 rfl ?_
        refine s_sub (lv2 := [(0, vR C.1.1 l0), (3, vI l3)]) [0, 2] rfl ?_
        exact z_X10_reachOf_L44 d hd K X (m_X10_reachOf_L15 n) ih l0 l3 l2 0 h3 h2 (inI_c 0 rfl)
      · refine s_iconst (n := 1) (pc2 := 38) X dX10_reachOf_37 rfl ?_
        refine s_iload_n (j := 2) (pc2 := 39) X dX10_reachOf_38 rfl rfl ?_
        refine s_ishl (pc2 := 40) X dX10_reachOf_39 rfl ?_
        refine s_goto (pc2 := 44) X dX10_reachOf_40 (by decide) ?_
        refine s_sub (lv2 := [(0, vR C.1.1 l0), (3, vI l3)]) [0, 2] rfl ?_
        exact z_X10_reachOf_L44 d hd K X (m_X10_reachOf_L15 n) ih l0 l3 l2 ((ishlZ 1 l3)) h3 h2 (ishlZ_in _ _)
set_option maxRecDepth 4000 in
set_option maxHeartbeats 20000000 in
theorem z_X10_reachOf (d : Nat) (hd : 4 ≤ d) {C : hCx} (K : hCtx C.1 C.2.2.1 d 0 0 "reachOf" C) (X : hOK C cX10_reachOf RX10 4 (some .int)) (l0 : Nat) (l1 : Int) (h1 : inI l1) : hSim C (some .int) 0 0 4 0 [(0, vR C.1.1 l0), (1, vI l1)] [] 0 0 (m_X10_reachOf l0 l1) := by
  obtain ⟨⟨hf, hlo⟩, ⟨hc1, hc2⟩, hf1, hl1⟩ := K_room K (by omega)
  have hcs : 0 ≤ C.2.2.2.2.1.cells ∧ 0 ≤ C.2.2.2.2.1.slots := ⟨Nat.zero_le _, Nat.zero_le _⟩
  unfold m_X10_reachOf
  refine s_iconst (n := 0) (pc2 := 1) X dX10_reachOf_0 rfl ?_
  refine s_istore_n (pc2 := 2) X dX10_reachOf_1 rfl (by decide) rfl rfl cat1_I (inI_c 0 rfl) (fun w1 hw1 => ?_)
  refine s_aload_n (j := 1) (pc2 := 3) X dX10_reachOf_2 rfl rfl ?_
  refine s_iload_n (j := 2) (pc2 := 4) X dX10_reachOf_3 rfl rfl ?_
  refine s_aload_n (j := 1) (pc2 := 5) X dX10_reachOf_4 rfl rfl ?_
  refine s_iload_n (j := 2) (pc2 := 6) X dX10_reachOf_5 rfl rfl ?_
  refine s_iconst (n := 0) (pc2 := 7) X dX10_reachOf_6 rfl ?_
  refine s_callVI (d2 := d - 1) (As := [vI l1, vI 0]) (st := [vI l1, vR C.1.1 l0]) (pc2 := 10) X dX10_reachOf_7 rfl ml_RX10_307 im_X10_personOf se_X10_personOf kX10 rfl (c_X10_personOf (d - 1) (by omega) C.1 C.2.2.1 l0 l1 0 h1 (inI_c 0 rfl)) hy_X10_personOf rfl rfl hf hlo (st_room (Nat.le_of_ble_eq_true rfl)) hcs (fun v2 hv2 => ?_)
  refine s_callVV (d2 := d - 1) (As := [vI l1, vI v2]) (st := []) (pc2 := 13) X dX10_reachOf_10 rfl ml_RX10_310 im_X10_fillsWays se_X10_fillsWays kX10 rfl (c_X10_fillsWays (d - 1) (by omega) C.1 C.2.2.1 l0 l1 v2 h1 hv2) hy_X10_fillsWays rfl rfl hf hlo (st_room (Nat.le_of_ble_eq_true rfl)) hcs (fun _ => ?_)
  refine s_iconst (n := 0) (pc2 := 14) X dX10_reachOf_13 rfl ?_
  refine s_istore_n (pc2 := 15) X dX10_reachOf_14 rfl (by decide) rfl rfl cat1_I (inI_c 0 rfl) (fun w3 hw3 => ?_)
  refine s_sub (lv2 := [(0, vR C.1.1 l0), (2, vI w1), (3, vI w3)]) [2, 1, 0] rfl ?_
  exact z_X10_reachOf_L15 d hd K X 1000000000 l0 w1 w3 hw1 hw3
theorem c_X10_reachOf (d : Nat) (hd : 4 ≤ d) (G : hG) (l : Launch) (l0 : Nat) (l1 : Int) (h1 : inI l1) : hMet G l yX10_reachOf cX10_reachOf 4 (some .int) d 0 0 [vR G.1 l0, vI l1] (m_X10_reachOf l0 l1) := by
  refine hMet.of (lv := [(0, vR G.1 l0), (1, vI l1)]) (by decide +kernel) (by simp [lg_sl, vR_cat, vI_cat, vL_cat, vS_cat2, vT_cat2]) (by simp [lv_args, vR_cat, vI_cat, vL_cat, vS_cat2, vT_cat2]) (fun C K X => ?_)
  obtain ⟨rfl, rfl, K⟩ := K
  exact z_X10_reachOf d hd ⟨rfl, rfl, K⟩ X l0 l1 h1
def m_X10_wayOf (l0 : Nat) (l1 : Int) (l2 : Int) : hM :=
  hcallV 10 l0 (m_X10_fillsWays l0 l1 l2) fun _ =>
  hgR 10 l0 23 fun v1 =>
  hcallV 10 l0 (m_X10_personOf l0 l1 0) fun v2 =>
  haI 20 v1 v2 fun v3 =>
  hret v3
set_option maxRecDepth 4000 in
set_option maxHeartbeats 20000000 in
theorem z_X10_wayOf (d : Nat) (hd : 4 ≤ d) {C : hCx} (K : hCtx C.1 C.2.2.1 d 0 0 "wayOf" C) (X : hOK C cX10_wayOf RX10 3 (some .int)) (l0 : Nat) (l1 : Int) (l2 : Int) (h1 : inI l1) (h2 : inI l2) : hSim C (some .int) 0 0 3 0 [(0, vR C.1.1 l0), (1, vI l1), (2, vI l2)] [] 0 0 (m_X10_wayOf l0 l1 l2) := by
  obtain ⟨⟨hf, hlo⟩, ⟨hc1, hc2⟩, hf1, hl1⟩ := K_room K (by omega)
  have hcs : 0 ≤ C.2.2.2.2.1.cells ∧ 0 ≤ C.2.2.2.2.1.slots := ⟨Nat.zero_le _, Nat.zero_le _⟩
  unfold m_X10_wayOf
  refine s_aload_n (j := 0) (pc2 := 1) X dX10_wayOf_0 rfl rfl ?_
  refine s_iload_n (j := 1) (pc2 := 2) X dX10_wayOf_1 rfl rfl ?_
  refine s_iload_n (j := 2) (pc2 := 3) X dX10_wayOf_2 rfl rfl ?_
  refine s_callVV (d2 := d - 1) (As := [vI l1, vI l2]) (st := []) (pc2 := 6) X dX10_wayOf_3 rfl ml_RX10_310 im_X10_fillsWays se_X10_fillsWays kX10 rfl (c_X10_fillsWays (d - 1) (by omega) C.1 C.2.2.1 l0 l1 l2 h1 h2) hy_X10_fillsWays rfl rfl hf hlo (st_room (Nat.le_of_ble_eq_true rfl)) hcs (fun _ => ?_)
  refine s_aload_n (j := 0) (pc2 := 7) X dX10_wayOf_6 rfl rfl ?_
  refine s_getR (pc2 := 10) X dX10_wayOf_7 rfl fl_RX10_45 rfl (fun v1 => ?_)
  refine s_aload_n (j := 0) (pc2 := 11) X dX10_wayOf_10 rfl rfl ?_
  refine s_iload_n (j := 1) (pc2 := 12) X dX10_wayOf_11 rfl rfl ?_
  refine s_iconst (n := 0) (pc2 := 13) X dX10_wayOf_12 rfl ?_
  refine s_callVI (d2 := d - 1) (As := [vI l1, vI 0]) (st := [vR C.1.1 v1]) (pc2 := 16) X dX10_wayOf_13 rfl ml_RX10_307 im_X10_personOf se_X10_personOf kX10 rfl (c_X10_personOf (d - 1) (by omega) C.1 C.2.2.1 l0 l1 0 h1 (inI_c 0 rfl)) hy_X10_personOf rfl rfl hf hlo (st_room (Nat.le_of_ble_eq_true rfl)) hcs (fun v2 hv2 => ?_)
  refine s_iald (pc2 := 17) X dX10_wayOf_16 rfl (fun v3 hv3 => ?_)
  exact s_iret X dX10_wayOf_17 hv3
theorem c_X10_wayOf (d : Nat) (hd : 4 ≤ d) (G : hG) (l : Launch) (l0 : Nat) (l1 : Int) (l2 : Int) (h1 : inI l1) (h2 : inI l2) : hMet G l yX10_wayOf cX10_wayOf 3 (some .int) d 0 0 [vR G.1 l0, vI l1, vI l2] (m_X10_wayOf l0 l1 l2) := by
  refine hMet.of (lv := [(0, vR G.1 l0), (1, vI l1), (2, vI l2)]) (by decide +kernel) (by simp [lg_sl, vR_cat, vI_cat, vL_cat, vS_cat2, vT_cat2]) (by simp [lv_args, vR_cat, vI_cat, vL_cat, vS_cat2, vT_cat2]) (fun C K X => ?_)
  obtain ⟨rfl, rfl, K⟩ := K
  exact z_X10_wayOf d hd ⟨rfl, rfl, K⟩ X l0 l1 l2 h1 h2
def m_X10_lostOf_L31 (k4 : Nat → Int → Int → Int → hM) (l0 : Nat) (l1 : Int) (l3 : Int) (s0 : Int) (s1 : Int) : hM :=
  hlet ((iorZ s0 s1)) fun (w1 : Int) =>
  hlet (w32 (l3 + 1)) fun (w2 : Int) =>
  k4 l0 l1 w1 w2
def m_X10_lostOf_L4 : Nat → Nat → Int → Int → Int → hM
  | 0, _, _, _, _ => hfail
  | n + 1, l0, l1, l2, l3 =>
    hgR 10 l0 20 fun v1 =>
  haI 20 v1 2 fun v2 =>
  hif (l3 ≥ v2) (
hret l2) (
hcallV 10 l0 (m_X10_leftOf l0 l1 l3) fun v3 =>
  hif (v3 ≠ 0) (
m_X10_lostOf_L31 (m_X10_lostOf_L4 n) l0 l1 l3 l2 0) (
m_X10_lostOf_L31 (m_X10_lostOf_L4 n) l0 l1 l3 l2 ((ishlZ 1 l3))))
def m_X10_lostOf (l0 : Nat) (l1 : Int) : hM :=
  hlet (0 : Int) fun (w1 : Int) =>
  hlet (0 : Int) fun (w2 : Int) =>
  m_X10_lostOf_L4 1000000000 l0 l1 w1 w2
set_option maxRecDepth 4000 in
theorem z_X10_lostOf_L31 (d : Nat) (hd : 3 ≤ d) {C : hCx} (K : hCtx C.1 C.2.2.1 d 0 0 "lostOf" C) (X : hOK C cX10_lostOf RX10 4 (some .int)) (k4 : Nat → Int → Int → Int → hM) (hk4 : ∀ (l0 : Nat) (l1 : Int) (l2 : Int) (l3 : Int), inI l1 → inI l2 → inI l3 → hSim C (some .int) 0 0 4 4 [(0, vR C.1.1 l0), (1, vI l1), (2, vI l2), (3, vI l3)] [] 0 0 (k4 l0 l1 l2 l3)) (l0 : Nat) (l1 : Int) (l3 : Int) (s0 : Int) (s1 : Int) (h1 : inI l1) (h3 : inI l3) (g0 : inI s0) (g1 : inI s1) : hSim C (some .int) 0 0 4 31 [(0, vR C.1.1 l0), (1, vI l1), (3, vI l3)] [vI s1, vI s0] 0 0 (m_X10_lostOf_L31 k4 l0 l1 l3 s0 s1) := by
  obtain ⟨⟨hf, hlo⟩, ⟨hc1, hc2⟩, hf1, hl1⟩ := K_room K (by omega)
  have hcs : 0 ≤ C.2.2.2.2.1.cells ∧ 0 ≤ C.2.2.2.2.1.slots := ⟨Nat.zero_le _, Nat.zero_le _⟩
  unfold m_X10_lostOf_L31
  refine s_ior (pc2 := 32) X dX10_lostOf_31 rfl ?_
  refine s_istore_n (pc2 := 33) X dX10_lostOf_32 rfl (by decide) rfl rfl cat1_I (iorZ_in _ _) (fun w1 hw1 => ?_)
  refine s_iinc (j := 3) (pc2 := 36) X dX10_lostOf_33 rfl (by decide) rfl rfl rfl cat1_I (fun w2 hw2 => ?_)
  refine s_goto (pc2 := 4) X dX10_lostOf_36 (by decide) ?_
  refine s_sub (lv2 := [(0, vR C.1.1 l0), (1, vI l1), (2, vI w1), (3, vI w2)]) [2, 3, 1, 0] rfl ?_
  exact hk4 l0 l1 w1 w2 h1 hw1 hw2
set_option maxRecDepth 4000 in
theorem z_X10_lostOf_L4 (d : Nat) (hd : 3 ≤ d) {C : hCx} (K : hCtx C.1 C.2.2.1 d 0 0 "lostOf" C) (X : hOK C cX10_lostOf RX10 4 (some .int)) : ∀ (n : Nat) (l0 : Nat) (l1 : Int) (l2 : Int) (l3 : Int) (h1 : inI l1) (h2 : inI l2) (h3 : inI l3), hSim C (some .int) 0 0 4 4 [(0, vR C.1.1 l0), (1, vI l1), (2, vI l2), (3, vI l3)] [] 0 0 (m_X10_lostOf_L4 n l0 l1 l2 l3) := by
  obtain ⟨⟨hf, hlo⟩, ⟨hc1, hc2⟩, hf1, hl1⟩ := K_room K (by omega)
  have hcs : 0 ≤ C.2.2.2.2.1.cells ∧ 0 ≤ C.2.2.2.2.1.slots := ⟨Nat.zero_le _, Nat.zero_le _⟩
  intro n
  induction n with
  | zero => intros; exact s_none (fun _ => rfl)
  | succ n ih =>
    intro l0 l1 l2 l3 h1 h2 h3
    unfold m_X10_lostOf_L4
    refine s_iload_n (j := 3) (pc2 := 5) X dX10_lostOf_4 rfl rfl ?_
    refine s_aload_n (j := 0) (pc2 := 6) X dX10_lostOf_5 rfl rfl ?_
    refine s_getR (pc2 := 9) X dX10_lostOf_6 rfl fl_RX10_39 rfl (fun v1 => ?_)
    refine s_iconst (n := 2) (pc2 := 10) X dX10_lostOf_9 rfl ?_
    refine s_iald (pc2 := 11) X dX10_lostOf_10 rfl (fun v2 hv2 => ?_)
    refine s_icge (tgt := 39) X dX10_lostOf_11 (by decide) rfl h3 hv2 ?_ ?_
    · refine s_iload_n (j := 2) (pc2 := 40) X dX10_lostOf_39 rfl rfl ?_
      exact s_iret X dX10_lostOf_40 h2
    · refine s_iload_n (j := 2) (pc2 := 15) X dX10_lostOf_14 rfl rfl ?_
      refine s_aload_n (j := 0) (pc2 := 16) X dX10_lostOf_15 rfl rfl ?_
      refine s_iload_n (j := 1) (pc2 := 17) X dX10_lostOf_16 rfl rfl ?_
      refine s_iload_n (j := 3) (pc2 := 18) X dX10_lostOf_17 rfl rfl ?_
      refine s_callVI (d2 := d - 1) (As := [vI l1, vI l3]) (st := [vI l2]) (pc2 := 21) X dX10_lostOf_18 rfl ml_RX10_304 im_X10_leftOf se_X10_leftOf kX10 rfl (c_X10_leftOf (d - 1) (by omega) C.1 C.2.2.1 l0 l1 l3 h1 h3) hy_X10_leftOf rfl rfl hf hlo (st_room (Nat.le_of_ble_eq_true rfl)) hcs (fun v3 hv3 => ?_)
      refine s_ifne (tgt := 30) X dX10_lostOf_21 (by decide) rfl hv3 ?_ ?_
      · refine s_iconst (n := 0) (pc2 := 31) X dX10_lostOf_30 rfl ?_
        refine s_sub (lv2 := [(0, vR C.1.1 l0), (1, vI l1), (3, vI l3)]) [0, 1, 3] rfl ?_
        exact z_X10_lostOf_L31 d hd K X (m_X10_lostOf_L4 n) ih l0 l1 l3 l2 0 h1 h3 h2 (inI_c 0 rfl)
      · refine s_iconst (n := 1) (pc2 := 25) X dX10_lostOf_24 rfl ?_
        refine s_iload_n (j := 3) (pc2 := 26) X dX10_lostOf_25 rfl rfl ?_
        refine s_ishl (pc2 := 27) X dX10_lostOf_26 rfl ?_
        refine s_goto (pc2 := 31) X dX10_lostOf_27 (by decide) ?_
        refine s_sub (lv2 := [(0, vR C.1.1 l0), (1, vI l1), (3, vI l3)]) [0, 1, 3] rfl ?_
        exact z_X10_lostOf_L31 d hd K X (m_X10_lostOf_L4 n) ih l0 l1 l3 l2 ((ishlZ 1 l3)) h1 h3 h2 (ishlZ_in _ _)
set_option maxRecDepth 4000 in
set_option maxHeartbeats 20000000 in
theorem z_X10_lostOf (d : Nat) (hd : 3 ≤ d) {C : hCx} (K : hCtx C.1 C.2.2.1 d 0 0 "lostOf" C) (X : hOK C cX10_lostOf RX10 4 (some .int)) (l0 : Nat) (l1 : Int) (h1 : inI l1) : hSim C (some .int) 0 0 4 0 [(0, vR C.1.1 l0), (1, vI l1)] [] 0 0 (m_X10_lostOf l0 l1) := by
  obtain ⟨⟨hf, hlo⟩, ⟨hc1, hc2⟩, hf1, hl1⟩ := K_room K (by omega)
  have hcs : 0 ≤ C.2.2.2.2.1.cells ∧ 0 ≤ C.2.2.2.2.1.slots := ⟨Nat.zero_le _, Nat.zero_le _⟩
  unfold m_X10_lostOf
  refine s_iconst (n := 0) (pc2 := 1) X dX10_lostOf_0 rfl ?_
  refine s_istore_n (pc2 := 2) X dX10_lostOf_1 rfl (by decide) rfl rfl cat1_I (inI_c 0 rfl) (fun w1 hw1 => ?_)
  refine s_iconst (n := 0) (pc2 := 3) X dX10_lostOf_2 rfl ?_
  refine s_istore_n (pc2 := 4) X dX10_lostOf_3 rfl (by decide) rfl rfl cat1_I (inI_c 0 rfl) (fun w2 hw2 => ?_)
  refine s_sub (lv2 := [(0, vR C.1.1 l0), (1, vI l1), (2, vI w1), (3, vI w2)]) [2, 3, 1, 0] rfl ?_
  exact z_X10_lostOf_L4 d hd K X 1000000000 l0 l1 w1 w2 h1 hw1 hw2
theorem c_X10_lostOf (d : Nat) (hd : 3 ≤ d) (G : hG) (l : Launch) (l0 : Nat) (l1 : Int) (h1 : inI l1) : hMet G l yX10_lostOf cX10_lostOf 4 (some .int) d 0 0 [vR G.1 l0, vI l1] (m_X10_lostOf l0 l1) := by
  refine hMet.of (lv := [(0, vR G.1 l0), (1, vI l1)]) (by decide +kernel) (by simp [lg_sl, vR_cat, vI_cat, vL_cat, vS_cat2, vT_cat2]) (by simp [lv_args, vR_cat, vI_cat, vL_cat, vS_cat2, vT_cat2]) (fun C K X => ?_)
  obtain ⟨rfl, rfl, K⟩ := K
  exact z_X10_lostOf d hd ⟨rfl, rfl, K⟩ X l0 l1 h1
def m_X10_nextWant_L88 (k4 : Nat → Int → Int → Int → hM) (l0 : Nat) (l1 : Int) (l2 : Int) (l3 : Int) : hM :=
  hlet (w32 (l3 + 1)) fun (w1 : Int) =>
  k4 l0 l1 l2 w1
def m_X10_nextWant_L86 (k4 : Nat → Int → Int → Int → hM) (l0 : Nat) (l1 : Int) (l3 : Int) : hM :=
  hlet l3 fun (w1 : Int) =>
  m_X10_nextWant_L88 k4 l0 l1 w1 l3
def m_X10_nextWant_L4 : Nat → Nat → Int → Int → Int → hM
  | 0, _, _, _, _ => hfail
  | n + 1, l0, l1, l2, l3 =>
    hgR 10 l0 20 fun v1 =>
  haI 20 v1 5 fun v2 =>
  hif (l3 ≥ v2) (
hret l2) (
hlet ((w32 (128 + ((w32 (4 * l3)))))) fun (w3 : Int) =>
  hgR 10 l0 20 fun v4 =>
  haI 20 v4 w3 fun v5 =>
  hif (v5 ≠ l1) (
m_X10_nextWant_L88 (m_X10_nextWant_L4 n) l0 l1 l2 l3) (
hgR 10 l0 20 fun v6 =>
  haI 20 v6 ((w32 (w3 + 2))) fun v7 =>
  hgR 10 l0 20 fun v8 =>
  haI 20 v8 6 fun v9 =>
  hif (v7 ≥ v9) (
hif (l2 < 0) (
m_X10_nextWant_L86 (m_X10_nextWant_L4 n) l0 l1 l3) (
hgR 10 l0 20 fun v10 =>
  haI 20 v10 ((w32 (w3 + 2))) fun v11 =>
  hgR 10 l0 20 fun v12 =>
  haI 20 v12 ((w32 (((w32 (128 + ((w32 (4 * l2)))))) + 2))) fun v13 =>
  hif (v11 ≥ v13) (
m_X10_nextWant_L88 (m_X10_nextWant_L4 n) l0 l1 l2 l3) (
m_X10_nextWant_L86 (m_X10_nextWant_L4 n) l0 l1 l3))) (
m_X10_nextWant_L88 (m_X10_nextWant_L4 n) l0 l1 l2 l3)))
def m_X10_nextWant (l0 : Nat) (l1 : Int) : hM :=
  hlet ((-1) : Int) fun (w1 : Int) =>
  hlet (0 : Int) fun (w2 : Int) =>
  m_X10_nextWant_L4 1000000000 l0 l1 w1 w2
set_option maxRecDepth 4000 in
theorem z_X10_nextWant_L88 (d : Nat) (hd : 1 ≤ d) {C : hCx} (K : hCtx C.1 C.2.2.1 d 0 0 "nextWant" C) (X : hOK C cX10_nextWant RX10 5 (some .int)) (k4 : Nat → Int → Int → Int → hM) (hk4 : ∀ (l0 : Nat) (l1 : Int) (l2 : Int) (l3 : Int), inI l1 → inI l2 → inI l3 → hSim C (some .int) 0 0 5 4 [(0, vR C.1.1 l0), (1, vI l1), (2, vI l2), (3, vI l3)] [] 0 0 (k4 l0 l1 l2 l3)) (l0 : Nat) (l1 : Int) (l2 : Int) (l3 : Int) (h1 : inI l1) (h2 : inI l2) (h3 : inI l3) : hSim C (some .int) 0 0 5 88 [(0, vR C.1.1 l0), (1, vI l1), (2, vI l2), (3, vI l3)] [] 0 0 (m_X10_nextWant_L88 k4 l0 l1 l2 l3) := by
  obtain ⟨⟨hf, hlo⟩, ⟨hc1, hc2⟩, hf1, hl1⟩ := K_room K (by omega)
  have hcs : 0 ≤ C.2.2.2.2.1.cells ∧ 0 ≤ C.2.2.2.2.1.slots := ⟨Nat.zero_le _, Nat.zero_le _⟩
  unfold m_X10_nextWant_L88
  refine s_iinc (j := 3) (pc2 := 91) X dX10_nextWant_88 rfl (by decide) rfl rfl rfl cat1_I (fun w1 hw1 => ?_)
  refine s_goto (pc2 := 4) X dX10_nextWant_91 (by decide) ?_
  refine s_sub (lv2 := [(0, vR C.1.1 l0), (1, vI l1), (2, vI l2), (3, vI w1)]) [1, 2, 3, 0] rfl ?_
  exact hk4 l0 l1 l2 w1 h1 h2 hw1
set_option maxRecDepth 4000 in
theorem z_X10_nextWant_L86 (d : Nat) (hd : 1 ≤ d) {C : hCx} (K : hCtx C.1 C.2.2.1 d 0 0 "nextWant" C) (X : hOK C cX10_nextWant RX10 5 (some .int)) (k4 : Nat → Int → Int → Int → hM) (hk4 : ∀ (l0 : Nat) (l1 : Int) (l2 : Int) (l3 : Int), inI l1 → inI l2 → inI l3 → hSim C (some .int) 0 0 5 4 [(0, vR C.1.1 l0), (1, vI l1), (2, vI l2), (3, vI l3)] [] 0 0 (k4 l0 l1 l2 l3)) (l0 : Nat) (l1 : Int) (l3 : Int) (h1 : inI l1) (h3 : inI l3) : hSim C (some .int) 0 0 5 86 [(0, vR C.1.1 l0), (1, vI l1), (3, vI l3)] [] 0 0 (m_X10_nextWant_L86 k4 l0 l1 l3) := by
  obtain ⟨⟨hf, hlo⟩, ⟨hc1, hc2⟩, hf1, hl1⟩ := K_room K (by omega)
  have hcs : 0 ≤ C.2.2.2.2.1.cells ∧ 0 ≤ C.2.2.2.2.1.slots := ⟨Nat.zero_le _, Nat.zero_le _⟩
  unfold m_X10_nextWant_L86
  refine s_iload_n (j := 2) (pc2 := 87) X dX10_nextWant_86 rfl rfl ?_
  refine s_istore_n (pc2 := 88) X dX10_nextWant_87 rfl (by decide) rfl rfl cat1_I h3 (fun w1 hw1 => ?_)
  refine s_sub (lv2 := [(0, vR C.1.1 l0), (1, vI l1), (2, vI w1), (3, vI l3)]) [1, 2, 0, 3] rfl ?_
  exact z_X10_nextWant_L88 d hd K X k4 hk4 l0 l1 w1 l3 h1 hw1 h3
set_option maxRecDepth 4000 in
theorem z_X10_nextWant_L4 (d : Nat) (hd : 1 ≤ d) {C : hCx} (K : hCtx C.1 C.2.2.1 d 0 0 "nextWant" C) (X : hOK C cX10_nextWant RX10 5 (some .int)) : ∀ (n : Nat) (l0 : Nat) (l1 : Int) (l2 : Int) (l3 : Int) (h1 : inI l1) (h2 : inI l2) (h3 : inI l3), hSim C (some .int) 0 0 5 4 [(0, vR C.1.1 l0), (1, vI l1), (2, vI l2), (3, vI l3)] [] 0 0 (m_X10_nextWant_L4 n l0 l1 l2 l3) := by
  obtain ⟨⟨hf, hlo⟩, ⟨hc1, hc2⟩, hf1, hl1⟩ := K_room K (by omega)
  have hcs : 0 ≤ C.2.2.2.2.1.cells ∧ 0 ≤ C.2.2.2.2.1.slots := ⟨Nat.zero_le _, Nat.zero_le _⟩
  intro n
  induction n with
  | zero => intros; exact s_none (fun _ => rfl)
  | succ n ih =>
    intro l0 l1 l2 l3 h1 h2 h3
    unfold m_X10_nextWant_L4
    refine s_iload_n (j := 3) (pc2 := 5) X dX10_nextWant_4 rfl rfl ?_
    refine s_aload_n (j := 0) (pc2 := 6) X dX10_nextWant_5 rfl rfl ?_
    refine s_getR (pc2 := 9) X dX10_nextWant_6 rfl fl_RX10_39 rfl (fun v1 => ?_)
    refine s_iconst (n := 5) (pc2 := 10) X dX10_nextWant_9 rfl ?_
    refine s_iald (pc2 := 11) X dX10_nextWant_10 rfl (fun v2 hv2 => ?_)
    refine s_icge (tgt := 94) X dX10_nextWant_11 (by decide) rfl h3 hv2 ?_ ?_
    · refine s_iload_n (j := 2) (pc2 := 95) X dX10_nextWant_94 rfl rfl ?_
      exact s_iret X dX10_nextWant_95 h2
    · refine s_sipush (n := 128) (pc2 := 17) X dX10_nextWant_14 rfl rfl ?_
      refine s_iconst (n := 4) (pc2 := 18) X dX10_nextWant_17 rfl ?_
      refine s_iload_n (j := 3) (pc2 := 19) X dX10_nextWant_18 rfl rfl ?_
      refine s_imul (pc2 := 20) X dX10_nextWant_19 rfl ?_
      refine s_iadd (pc2 := 21) X dX10_nextWant_20 rfl ?_
      refine s_istore (pc2 := 23) X dX10_nextWant_21 rfl (by decide) rfl rfl cat1_I (w32_in _) (fun w3 hw3 => ?_)
      refine s_aload_n (j := 1) (pc2 := 24) X dX10_nextWant_23 rfl rfl ?_
      refine s_getR (pc2 := 27) X dX10_nextWant_24 rfl fl_RX10_39 rfl (fun v4 => ?_)
      refine s_iload (j := 0) (pc2 := 29) X dX10_nextWant_27 rfl rfl ?_
      refine s_iald (pc2 := 30) X dX10_nextWant_29 rfl (fun v5 hv5 => ?_)
      refine s_iload_n (j := 2) (pc2 := 31) X dX10_nextWant_30 rfl rfl ?_
      refine s_icne (tgt := 88) X dX10_nextWant_31 (by decide) rfl hv5 h1 ?_ ?_
      · refine s_sub (lv2 := [(0, vR C.1.1 l0), (1, vI l1), (2, vI l2), (3, vI l3)]) [1, 2, 3, 4] rfl ?_
        exact z_X10_nextWant_L88 d hd K X (m_X10_nextWant_L4 n) ih l0 l1 l2 l3 h1 h2 h3
      · refine s_aload_n (j := 1) (pc2 := 35) X dX10_nextWant_34 rfl rfl ?_
        refine s_getR (pc2 := 38) X dX10_nextWant_35 rfl fl_RX10_39 rfl (fun v6 => ?_)
        refine s_iload (j := 0) (pc2 := 40) X dX10_nextWant_38 rfl rfl ?_
        refine s_iconst (n := 2) (pc2 := 41) X dX10_nextWant_40 rfl ?_
        refine s_iadd (pc2 := 42) X dX10_nextWant_41 rfl ?_
        refine s_iald (pc2 := 43) X dX10_nextWant_42 rfl (fun v7 hv7 => ?_)
        refine s_aload_n (j := 1) (pc2 := 44) X dX10_nextWant_43 rfl rfl ?_
        refine s_getR (pc2 := 47) X dX10_nextWant_44 rfl fl_RX10_39 rfl (fun v8 => ?_)
        refine s_bipush (n := 6) (pc2 := 49) X dX10_nextWant_47 rfl rfl ?_
        refine s_iald (pc2 := 50) X dX10_nextWant_49 rfl (fun v9 hv9 => ?_)
        refine s_icge (tgt := 56) X dX10_nextWant_50 (by decide) rfl hv7 hv9 ?_ ?_
        · refine s_iload_n (j := 3) (pc2 := 57) X dX10_nextWant_56 rfl rfl ?_
          refine s_iflt (tgt := 86) X dX10_nextWant_57 (by decide) rfl h2 ?_ ?_
          · refine s_sub (lv2 := [(0, vR C.1.1 l0), (1, vI l1), (3, vI l3)]) [1, 2, 4] rfl ?_
            exact z_X10_nextWant_L86 d hd K X (m_X10_nextWant_L4 n) ih l0 l1 l3 h1 h3
          · refine s_aload_n (j := 1) (pc2 := 61) X dX10_nextWant_60 rfl rfl ?_
            refine s_getR (pc2 := 64) X dX10_nextWant_61 rfl fl_RX10_39 rfl (fun v10 => ?_)
            refine s_iload (j := 0) (pc2 := 66) X dX10_nextWant_64 rfl rfl ?_
            refine s_iconst (n := 2) (pc2 := 67) X dX10_nextWant_66 rfl ?_
            refine s_iadd (pc2 := 68) X dX10_nextWant_67 rfl ?_
            refine s_iald (pc2 := 69) X dX10_nextWant_68 rfl (fun v11 hv11 => ?_)
            refine s_aload_n (j := 1) (pc2 := 70) X dX10_nextWant_69 rfl rfl ?_
            refine s_getR (pc2 := 73) X dX10_nextWant_70 rfl fl_RX10_39 rfl (fun v12 => ?_)
            refine s_sipush (n := 128) (pc2 := 76) X dX10_nextWant_73 rfl rfl ?_
            refine s_iconst (n := 4) (pc2 := 77) X dX10_nextWant_76 rfl ?_
            refine s_iload_n (j := 3) (pc2 := 78) X dX10_nextWant_77 rfl rfl ?_
            refine s_imul (pc2 := 79) X dX10_nextWant_78 rfl ?_
            refine s_iadd (pc2 := 80) X dX10_nextWant_79 rfl ?_
            refine s_iconst (n := 2) (pc2 := 81) X dX10_nextWant_80 rfl ?_
            refine s_iadd (pc2 := 82) X dX10_nextWant_81 rfl ?_
            refine s_iald (pc2 := 83) X dX10_nextWant_82 rfl (fun v13 hv13 => ?_)
            refine s_icge (tgt := 88) X dX10_nextWant_83 (by decide) rfl hv11 hv13 ?_ ?_
            · refine s_sub (lv2 := [(0, vR C.1.1 l0), (1, vI l1), (2, vI l2), (3, vI l3)]) [1, 2, 3, 4] rfl ?_
              exact z_X10_nextWant_L88 d hd K X (m_X10_nextWant_L4 n) ih l0 l1 l2 l3 h1 h2 h3
            · refine s_sub (lv2 := [(0, vR C.1.1 l0), (1, vI l1), (3, vI l3)]) [1, 2, 4] rfl ?_
              exact z_X10_nextWant_L86 d hd K X (m_X10_nextWant_L4 n) ih l0 l1 l3 h1 h3
        · refine s_goto (pc2 := 88) X dX10_nextWant_53 (by decide) ?_
          refine s_sub (lv2 := [(0, vR C.1.1 l0), (1, vI l1), (2, vI l2), (3, vI l3)]) [1, 2, 3, 4] rfl ?_
          exact z_X10_nextWant_L88 d hd K X (m_X10_nextWant_L4 n) ih l0 l1 l2 l3 h1 h2 h3
set_option maxRecDepth 4000 in
set_option maxHeartbeats 20000000 in
theorem z_X10_nextWant (d : Nat) (hd : 1 ≤ d) {C : hCx} (K : hCtx C.1 C.2.2.1 d 0 0 "nextWant" C) (X : hOK C cX10_nextWant RX10 5 (some .int)) (l0 : Nat) (l1 : Int) (h1 : inI l1) : hSim C (some .int) 0 0 5 0 [(0, vR C.1.1 l0), (1, vI l1)] [] 0 0 (m_X10_nextWant l0 l1) := by
  obtain ⟨⟨hf, hlo⟩, ⟨hc1, hc2⟩, hf1, hl1⟩ := K_room K (by omega)
  have hcs : 0 ≤ C.2.2.2.2.1.cells ∧ 0 ≤ C.2.2.2.2.1.slots := ⟨Nat.zero_le _, Nat.zero_le _⟩
  unfold m_X10_nextWant
  refine s_iconst (n := (-1)) (pc2 := 1) X dX10_nextWant_0 rfl ?_
  refine s_istore_n (pc2 := 2) X dX10_nextWant_1 rfl (by decide) rfl rfl cat1_I (inI_c (-1) rfl) (fun w1 hw1 => ?_)
  refine s_iconst (n := 0) (pc2 := 3) X dX10_nextWant_2 rfl ?_
  refine s_istore_n (pc2 := 4) X dX10_nextWant_3 rfl (by decide) rfl rfl cat1_I (inI_c 0 rfl) (fun w2 hw2 => ?_)
  refine s_sub (lv2 := [(0, vR C.1.1 l0), (1, vI l1), (2, vI w1), (3, vI w2)]) [2, 3, 1, 0] rfl ?_
  exact z_X10_nextWant_L4 d hd K X 1000000000 l0 l1 w1 w2 h1 hw1 hw2
theorem c_X10_nextWant (d : Nat) (hd : 1 ≤ d) (G : hG) (l : Launch) (l0 : Nat) (l1 : Int) (h1 : inI l1) : hMet G l yX10_nextWant cX10_nextWant 5 (some .int) d 0 0 [vR G.1 l0, vI l1] (m_X10_nextWant l0 l1) := by
  refine hMet.of (lv := [(0, vR G.1 l0), (1, vI l1)]) (by decide +kernel) (by simp [lg_sl, vR_cat, vI_cat, vL_cat, vS_cat2, vT_cat2]) (by simp [lv_args, vR_cat, vI_cat, vL_cat, vS_cat2, vT_cat2]) (fun C K X => ?_)
  obtain ⟨rfl, rfl, K⟩ := K
  exact z_X10_nextWant d hd ⟨rfl, rfl, K⟩ X l0 l1 h1
def m_X10_goalOf_L33 (s0 : Int) : hM :=
  hret s0
def m_X10_goalOf (l0 : Nat) (l1 : Int) : hM :=
  hcallV 10 l0 (m_X10_nextWant l0 l1) fun v1 =>
  hlet v1 fun (w2 : Int) =>
  hif (w2 ≥ 0) (
hgR 10 l0 20 fun v3 =>
  haI 20 v3 ((w32 (((w32 (128 + ((w32 (4 * w2)))))) + 1))) fun v4 =>
  m_X10_goalOf_L33 v4) (
hcallV 10 l0 (m_X10_personOf l0 l1 1) fun v5 =>
  m_X10_goalOf_L33 v5)
set_option maxRecDepth 4000 in
theorem z_X10_goalOf_L33 (d : Nat) (hd : 2 ≤ d) {C : hCx} (K : hCtx C.1 C.2.2.1 d 0 0 "goalOf" C) (X : hOK C cX10_goalOf RX10 3 (some .int)) (s0 : Int) (g0 : inI s0) : hSim C (some .int) 0 0 3 33 [] [vI s0] 0 0 (m_X10_goalOf_L33 s0) := by
  obtain ⟨⟨hf, hlo⟩, ⟨hc1, hc2⟩, hf1, hl1⟩ := K_room K (by omega)
  have hcs : 0 ≤ C.2.2.2.2.1.cells ∧ 0 ≤ C.2.2.2.2.1.slots := ⟨Nat.zero_le _, Nat.zero_le _⟩
  unfold m_X10_goalOf_L33
  exact s_iret X dX10_goalOf_33 g0
set_option maxRecDepth 4000 in
set_option maxHeartbeats 20000000 in
theorem z_X10_goalOf (d : Nat) (hd : 2 ≤ d) {C : hCx} (K : hCtx C.1 C.2.2.1 d 0 0 "goalOf" C) (X : hOK C cX10_goalOf RX10 3 (some .int)) (l0 : Nat) (l1 : Int) (h1 : inI l1) : hSim C (some .int) 0 0 3 0 [(0, vR C.1.1 l0), (1, vI l1)] [] 0 0 (m_X10_goalOf l0 l1) := by
  obtain ⟨⟨hf, hlo⟩, ⟨hc1, hc2⟩, hf1, hl1⟩ := K_room K (by omega)
  have hcs : 0 ≤ C.2.2.2.2.1.cells ∧ 0 ≤ C.2.2.2.2.1.slots := ⟨Nat.zero_le _, Nat.zero_le _⟩
  unfold m_X10_goalOf
  refine s_aload_n (j := 0) (pc2 := 1) X dX10_goalOf_0 rfl rfl ?_
  refine s_iload_n (j := 1) (pc2 := 2) X dX10_goalOf_1 rfl rfl ?_
  refine s_callVI (d2 := d - 1) (As := [vI l1]) (st := []) (pc2 := 5) X dX10_goalOf_2 rfl ml_RX10_313 im_X10_nextWant se_X10_nextWant kX10 rfl (c_X10_nextWant (d - 1) (by omega) C.1 C.2.2.1 l0 l1 h1) hy_X10_nextWant rfl rfl hf hlo (st_room (Nat.le_of_ble_eq_true rfl)) hcs (fun v1 hv1 => ?_)
  refine s_istore_n (pc2 := 6) X dX10_goalOf_5 rfl (by decide) rfl rfl cat1_I hv1 (fun w2 hw2 => ?_)
  refine s_iload_n (j := 0) (pc2 := 7) X dX10_goalOf_6 rfl rfl ?_
  refine s_ifge (tgt := 19) X dX10_goalOf_7 (by decide) rfl hw2 ?_ ?_
  · refine s_aload_n (j := 1) (pc2 := 20) X dX10_goalOf_19 rfl rfl ?_
    refine s_getR (pc2 := 23) X dX10_goalOf_20 rfl fl_RX10_39 rfl (fun v3 => ?_)
    refine s_sipush (n := 128) (pc2 := 26) X dX10_goalOf_23 rfl rfl ?_
    refine s_iconst (n := 4) (pc2 := 27) X dX10_goalOf_26 rfl ?_
    refine s_iload_n (j := 0) (pc2 := 28) X dX10_goalOf_27 rfl rfl ?_
    refine s_imul (pc2 := 29) X dX10_goalOf_28 rfl ?_
    refine s_iadd (pc2 := 30) X dX10_goalOf_29 rfl ?_
    refine s_iconst (n := 1) (pc2 := 31) X dX10_goalOf_30 rfl ?_
    refine s_iadd (pc2 := 32) X dX10_goalOf_31 rfl ?_
    refine s_iald (pc2 := 33) X dX10_goalOf_32 rfl (fun v4 hv4 => ?_)
    refine s_sub (lv2 := []) [] rfl ?_
    exact z_X10_goalOf_L33 d hd K X v4 hv4
  · refine s_aload_n (j := 1) (pc2 := 11) X dX10_goalOf_10 rfl rfl ?_
    refine s_iload_n (j := 2) (pc2 := 12) X dX10_goalOf_11 rfl rfl ?_
    refine s_iconst (n := 1) (pc2 := 13) X dX10_goalOf_12 rfl ?_
    refine s_callVI (d2 := d - 1) (As := [vI l1, vI 1]) (st := []) (pc2 := 16) X dX10_goalOf_13 rfl ml_RX10_307 im_X10_personOf se_X10_personOf kX10 rfl (c_X10_personOf (d - 1) (by omega) C.1 C.2.2.1 l0 l1 1 h1 (inI_c 1 rfl)) hy_X10_personOf rfl rfl hf hlo (st_room (Nat.le_of_ble_eq_true rfl)) hcs (fun v5 hv5 => ?_)
    refine s_goto (pc2 := 33) X dX10_goalOf_16 (by decide) ?_
    refine s_sub (lv2 := []) [] rfl ?_
    exact z_X10_goalOf_L33 d hd K X v5 hv5
theorem c_X10_goalOf (d : Nat) (hd : 2 ≤ d) (G : hG) (l : Launch) (l0 : Nat) (l1 : Int) (h1 : inI l1) : hMet G l yX10_goalOf cX10_goalOf 3 (some .int) d 0 0 [vR G.1 l0, vI l1] (m_X10_goalOf l0 l1) := by
  refine hMet.of (lv := [(0, vR G.1 l0), (1, vI l1)]) (by decide +kernel) (by simp [lg_sl, vR_cat, vI_cat, vL_cat, vS_cat2, vT_cat2]) (by simp [lv_args, vR_cat, vI_cat, vL_cat, vS_cat2, vT_cat2]) (fun C K X => ?_)
  obtain ⟨rfl, rfl, K⟩ := K
  exact z_X10_goalOf d hd ⟨rfl, rfl, K⟩ X l0 l1 h1
def m_X10_person_L48 (l0 : Nat) (l1 : Int) (l2 : Int) : hM :=
  hcallV 10 l0 (m_X10_personOf l0 l1 l2) fun v1 =>
  hret v1
def m_X10_person (l0 : Nat) (l1 : Int) (l2 : Int) : hM :=
  hcallV 10 l0 (m_X10_isPerson l0 l1) fun v1 =>
  hif (v1 ≠ 0) (
hif (l2 = 0) (
m_X10_person_L48 l0 l1 l2) <|
  hif (l2 = 1) (
m_X10_person_L48 l0 l1 l2) <|
  hif (l2 = 2) (
m_X10_person_L48 l0 l1 l2) <|
  hif (l2 = 3) (
hcallV 10 l0 (m_X10_reachOf l0 l1) fun v2 =>
  hret v2) <|
  hif (l2 = 4) (
hcallV 10 l0 (m_X10_lostOf l0 l1) fun v3 =>
  hret v3) <|
  hif (l2 = 5) (
hcallV 10 l0 (m_X10_goalOf l0 l1) fun v4 =>
  hret v4) <|
  hret ((-1))) (
hret ((-1)))
set_option maxRecDepth 4000 in
theorem z_X10_person_L48 (d : Nat) (hd : 5 ≤ d) {C : hCx} (K : hCtx C.1 C.2.2.1 d 0 0 "person" C) (X : hOK C cX10_person RX10 3 (some .int)) (l0 : Nat) (l1 : Int) (l2 : Int) (h1 : inI l1) (h2 : inI l2) : hSim C (some .int) 0 0 3 48 [(0, vR C.1.1 l0), (1, vI l1), (2, vI l2)] [] 0 0 (m_X10_person_L48 l0 l1 l2) := by
  obtain ⟨⟨hf, hlo⟩, ⟨hc1, hc2⟩, hf1, hl1⟩ := K_room K (by omega)
  have hcs : 0 ≤ C.2.2.2.2.1.cells ∧ 0 ≤ C.2.2.2.2.1.slots := ⟨Nat.zero_le _, Nat.zero_le _⟩
  unfold m_X10_person_L48
  refine s_aload_n (j := 0) (pc2 := 49) X dX10_person_48 rfl rfl ?_
  refine s_iload_n (j := 1) (pc2 := 50) X dX10_person_49 rfl rfl ?_
  refine s_iload_n (j := 2) (pc2 := 51) X dX10_person_50 rfl rfl ?_
  refine s_callVI (d2 := d - 1) (As := [vI l1, vI l2]) (st := []) (pc2 := 54) X dX10_person_51 rfl ml_RX10_307 im_X10_personOf se_X10_personOf kX10 rfl (c_X10_personOf (d - 1) (by omega) C.1 C.2.2.1 l0 l1 l2 h1 h2) hy_X10_personOf rfl rfl hf hlo (st_room (Nat.le_of_ble_eq_true rfl)) hcs (fun v1 hv1 => ?_)
  exact s_iret X dX10_person_54 hv1
set_option maxRecDepth 4000 in
set_option maxHeartbeats 20000000 in
theorem z_X10_person (d : Nat) (hd : 5 ≤ d) {C : hCx} (K : hCtx C.1 C.2.2.1 d 0 0 "person" C) (X : hOK C cX10_person RX10 3 (some .int)) (l0 : Nat) (l1 : Int) (l2 : Int) (h1 : inI l1) (h2 : inI l2) : hSim C (some .int) 0 0 3 0 [(0, vR C.1.1 l0), (1, vI l1), (2, vI l2)] [] 0 0 (m_X10_person l0 l1 l2) := by
  obtain ⟨⟨hf, hlo⟩, ⟨hc1, hc2⟩, hf1, hl1⟩ := K_room K (by omega)
  have hcs : 0 ≤ C.2.2.2.2.1.cells ∧ 0 ≤ C.2.2.2.2.1.slots := ⟨Nat.zero_le _, Nat.zero_le _⟩
  unfold m_X10_person
  refine s_aload_n (j := 0) (pc2 := 1) X dX10_person_0 rfl rfl ?_
  refine s_iload_n (j := 1) (pc2 := 2) X dX10_person_1 rfl rfl ?_
  refine s_callVZ (d2 := d - 1) (As := [vI l1]) (st := []) (pc2 := 5) X dX10_person_2 rfl ml_RX10_316 im_X10_isPerson se_X10_isPerson kX10 rfl (c_X10_isPerson (d - 1) (by omega) C.1 C.2.2.1 l0 l1 h1) hy_X10_isPerson rfl rfl hf hlo (st_room (Nat.le_of_ble_eq_true rfl)) hcs (fun v1 hv1 => ?_)
  refine s_ifne (tgt := 10) X dX10_person_5 (by decide) rfl hv1 ?_ ?_
  · refine s_iload_n (j := 2) (pc2 := 11) X dX10_person_10 rfl rfl ?_
    refine s_split (fun e11_0 => ?_) (fun e11_0 => ?_)
    · refine s_tsin (tgt := 48) 0 X dX10_person_11 e11_0 (inI_c 0 rfl) (by decide) (by decide) rfl (by decide) ?_
      exact z_X10_person_L48 d hd K X l0 l1 l2 h1 h2
    refine s_split (fun e11_1 => ?_) (fun e11_1 => ?_)
    · refine s_tsin (tgt := 48) 1 X dX10_person_11 e11_1 (inI_c 1 rfl) (by decide) (by decide) rfl (by decide) ?_
      exact z_X10_person_L48 d hd K X l0 l1 l2 h1 h2
    refine s_split (fun e11_2 => ?_) (fun e11_2 => ?_)
    · refine s_tsin (tgt := 48) 2 X dX10_person_11 e11_2 (inI_c 2 rfl) (by decide) (by decide) rfl (by decide) ?_
      exact z_X10_person_L48 d hd K X l0 l1 l2 h1 h2
    refine s_split (fun e11_3 => ?_) (fun e11_3 => ?_)
    · refine s_tsin (tgt := 55) 3 X dX10_person_11 e11_3 (inI_c 3 rfl) (by decide) (by decide) rfl (by decide) ?_
      refine s_aload_n (j := 0) (pc2 := 56) X dX10_person_55 rfl rfl ?_
      refine s_iload_n (j := 1) (pc2 := 57) X dX10_person_56 rfl rfl ?_
      refine s_callVI (d2 := d - 1) (As := [vI l1]) (st := []) (pc2 := 60) X dX10_person_57 rfl ml_RX10_319 im_X10_reachOf se_X10_reachOf kX10 rfl (c_X10_reachOf (d - 1) (by omega) C.1 C.2.2.1 l0 l1 h1) hy_X10_reachOf rfl rfl hf hlo (st_room (Nat.le_of_ble_eq_true rfl)) hcs (fun v2 hv2 => ?_)
      exact s_iret X dX10_person_60 hv2
    refine s_split (fun e11_4 => ?_) (fun e11_4 => ?_)
    · refine s_tsin (tgt := 61) 4 X dX10_person_11 e11_4 (inI_c 4 rfl) (by decide) (by decide) rfl (by decide) ?_
      refine s_aload_n (j := 0) (pc2 := 62) X dX10_person_61 rfl rfl ?_
      refine s_iload_n (j := 1) (pc2 := 63) X dX10_person_62 rfl rfl ?_
      refine s_callVI (d2 := d - 1) (As := [vI l1]) (st := []) (pc2 := 66) X dX10_person_63 rfl ml_RX10_322 im_X10_lostOf se_X10_lostOf kX10 rfl (c_X10_lostOf (d - 1) (by omega) C.1 C.2.2.1 l0 l1 h1) hy_X10_lostOf rfl rfl hf hlo (st_room (Nat.le_of_ble_eq_true rfl)) hcs (fun v3 hv3 => ?_)
      exact s_iret X dX10_person_66 hv3
    refine s_split (fun e11_5 => ?_) (fun e11_5 => ?_)
    · refine s_tsin (tgt := 67) 5 X dX10_person_11 e11_5 (inI_c 5 rfl) (by decide) (by decide) rfl (by decide) ?_
      refine s_aload_n (j := 0) (pc2 := 68) X dX10_person_67 rfl rfl ?_
      refine s_iload_n (j := 1) (pc2 := 69) X dX10_person_68 rfl rfl ?_
      refine s_callVI (d2 := d - 1) (As := [vI l1]) (st := []) (pc2 := 72) X dX10_person_69 rfl ml_RX10_325 im_X10_goalOf se_X10_goalOf kX10 rfl (c_X10_goalOf (d - 1) (by omega) C.1 C.2.2.1 l0 l1 h1) hy_X10_goalOf rfl rfl hf hlo (st_room (Nat.le_of_ble_eq_true rfl)) hcs (fun v4 hv4 => ?_)
      exact s_iret X dX10_person_72 hv4
    refine s_tsout (tgt := 73) X dX10_person_11 h2 (by omega) (by decide) ?_
    refine s_iconst (n := (-1)) (pc2 := 74) X dX10_person_73 rfl ?_
    exact s_iret X dX10_person_74 (inI_c (-1) rfl)
  · refine s_iconst (n := (-1)) (pc2 := 9) X dX10_person_8 rfl ?_
    exact s_iret X dX10_person_9 (inI_c (-1) rfl)
theorem c_X10_person (d : Nat) (hd : 5 ≤ d) (G : hG) (l : Launch) (l0 : Nat) (l1 : Int) (l2 : Int) (h1 : inI l1) (h2 : inI l2) : hMet G l yX10_person cX10_person 3 (some .int) d 0 0 [vR G.1 l0, vI l1, vI l2] (m_X10_person l0 l1 l2) := by
  refine hMet.of (lv := [(0, vR G.1 l0), (1, vI l1), (2, vI l2)]) (by decide +kernel) (by simp [lg_sl, vR_cat, vI_cat, vL_cat, vS_cat2, vT_cat2]) (by simp [lv_args, vR_cat, vI_cat, vL_cat, vS_cat2, vT_cat2]) (fun C K X => ?_)
  obtain ⟨rfl, rfl, K⟩ := K
  exact z_X10_person d hd ⟨rfl, rfl, K⟩ X l0 l1 l2 h1 h2
def m_X10_left_L26 (s0 : Int) : hM :=
  hret s0
def m_X10_left_L25 : hM :=
  m_X10_left_L26 ((-1))
def m_X10_left (l0 : Nat) (l1 : Int) (l2 : Int) : hM :=
  hcallV 10 l0 (m_X10_isPerson l0 l1) fun v1 =>
  hif (v1 = 0) (
m_X10_left_L25) (
hcallV 10 l0 (m_X10_isBridge l0 l2) fun v2 =>
  hif (v2 = 0) (
m_X10_left_L25) (
hcallV 10 l0 (m_X10_leftOf l0 l1 l2) fun v3 =>
  m_X10_left_L26 v3))
set_option maxRecDepth 4000 in
theorem z_X10_left_L26 (d : Nat) (hd : 3 ≤ d) {C : hCx} (K : hCtx C.1 C.2.2.1 d 0 0 "left" C) (X : hOK C cX10_left RX10 3 (some .int)) (s0 : Int) (g0 : inI s0) : hSim C (some .int) 0 0 3 26 [] [vI s0] 0 0 (m_X10_left_L26 s0) := by
  obtain ⟨⟨hf, hlo⟩, ⟨hc1, hc2⟩, hf1, hl1⟩ := K_room K (by omega)
  have hcs : 0 ≤ C.2.2.2.2.1.cells ∧ 0 ≤ C.2.2.2.2.1.slots := ⟨Nat.zero_le _, Nat.zero_le _⟩
  unfold m_X10_left_L26
  exact s_iret X dX10_left_26 g0
set_option maxRecDepth 4000 in
theorem z_X10_left_L25 (d : Nat) (hd : 3 ≤ d) {C : hCx} (K : hCtx C.1 C.2.2.1 d 0 0 "left" C) (X : hOK C cX10_left RX10 3 (some .int)) : hSim C (some .int) 0 0 3 25 [] [] 0 0 (m_X10_left_L25) := by
  obtain ⟨⟨hf, hlo⟩, ⟨hc1, hc2⟩, hf1, hl1⟩ := K_room K (by omega)
  have hcs : 0 ≤ C.2.2.2.2.1.cells ∧ 0 ≤ C.2.2.2.2.1.slots := ⟨Nat.zero_le _, Nat.zero_le _⟩
  unfold m_X10_left_L25
  refine s_iconst (n := (-1)) (pc2 := 26) X dX10_left_25 rfl ?_
  exact z_X10_left_L26 d hd K X ((-1)) (inI_c (-1) rfl)
set_option maxRecDepth 4000 in
set_option maxHeartbeats 20000000 in
theorem z_X10_left (d : Nat) (hd : 3 ≤ d) {C : hCx} (K : hCtx C.1 C.2.2.1 d 0 0 "left" C) (X : hOK C cX10_left RX10 3 (some .int)) (l0 : Nat) (l1 : Int) (l2 : Int) (h1 : inI l1) (h2 : inI l2) : hSim C (some .int) 0 0 3 0 [(0, vR C.1.1 l0), (1, vI l1), (2, vI l2)] [] 0 0 (m_X10_left l0 l1 l2) := by
  obtain ⟨⟨hf, hlo⟩, ⟨hc1, hc2⟩, hf1, hl1⟩ := K_room K (by omega)
  have hcs : 0 ≤ C.2.2.2.2.1.cells ∧ 0 ≤ C.2.2.2.2.1.slots := ⟨Nat.zero_le _, Nat.zero_le _⟩
  unfold m_X10_left
  refine s_aload_n (j := 0) (pc2 := 1) X dX10_left_0 rfl rfl ?_
  refine s_iload_n (j := 1) (pc2 := 2) X dX10_left_1 rfl rfl ?_
  refine s_callVZ (d2 := d - 1) (As := [vI l1]) (st := []) (pc2 := 5) X dX10_left_2 rfl ml_RX10_316 im_X10_isPerson se_X10_isPerson kX10 rfl (c_X10_isPerson (d - 1) (by omega) C.1 C.2.2.1 l0 l1 h1) hy_X10_isPerson rfl rfl hf hlo (st_room (Nat.le_of_ble_eq_true rfl)) hcs (fun v1 hv1 => ?_)
  refine s_ifeq (tgt := 25) X dX10_left_5 (by decide) rfl hv1 ?_ ?_
  · refine s_sub (lv2 := []) [] rfl ?_
    exact z_X10_left_L25 d hd K X
  · refine s_aload_n (j := 0) (pc2 := 9) X dX10_left_8 rfl rfl ?_
    refine s_iload_n (j := 2) (pc2 := 10) X dX10_left_9 rfl rfl ?_
    refine s_callVZ (d2 := d - 1) (As := [vI l2]) (st := []) (pc2 := 13) X dX10_left_10 rfl ml_RX10_328 im_X10_isBridge se_X10_isBridge kX10 rfl (c_X10_isBridge (d - 1) (by omega) C.1 C.2.2.1 l0 l2 h2) hy_X10_isBridge rfl rfl hf hlo (st_room (Nat.le_of_ble_eq_true rfl)) hcs (fun v2 hv2 => ?_)
    refine s_ifeq (tgt := 25) X dX10_left_13 (by decide) rfl hv2 ?_ ?_
    · refine s_sub (lv2 := []) [] rfl ?_
      exact z_X10_left_L25 d hd K X
    · refine s_aload_n (j := 0) (pc2 := 17) X dX10_left_16 rfl rfl ?_
      refine s_iload_n (j := 1) (pc2 := 18) X dX10_left_17 rfl rfl ?_
      refine s_iload_n (j := 2) (pc2 := 19) X dX10_left_18 rfl rfl ?_
      refine s_callVI (d2 := d - 1) (As := [vI l1, vI l2]) (st := []) (pc2 := 22) X dX10_left_19 rfl ml_RX10_304 im_X10_leftOf se_X10_leftOf kX10 rfl (c_X10_leftOf (d - 1) (by omega) C.1 C.2.2.1 l0 l1 l2 h1 h2) hy_X10_leftOf rfl rfl hf hlo (st_room (Nat.le_of_ble_eq_true rfl)) hcs (fun v3 hv3 => ?_)
      refine s_goto (pc2 := 26) X dX10_left_22 (by decide) ?_
      refine s_sub (lv2 := []) [] rfl ?_
      exact z_X10_left_L26 d hd K X v3 hv3
theorem c_X10_left (d : Nat) (hd : 3 ≤ d) (G : hG) (l : Launch) (l0 : Nat) (l1 : Int) (l2 : Int) (h1 : inI l1) (h2 : inI l2) : hMet G l yX10_left cX10_left 3 (some .int) d 0 0 [vR G.1 l0, vI l1, vI l2] (m_X10_left l0 l1 l2) := by
  refine hMet.of (lv := [(0, vR G.1 l0), (1, vI l1), (2, vI l2)]) (by decide +kernel) (by simp [lg_sl, vR_cat, vI_cat, vL_cat, vS_cat2, vT_cat2]) (by simp [lv_args, vR_cat, vI_cat, vL_cat, vS_cat2, vT_cat2]) (fun C K X => ?_)
  obtain ⟨rfl, rfl, K⟩ := K
  exact z_X10_left d hd ⟨rfl, rfl, K⟩ X l0 l1 l2 h1 h2
def m_X10_crossedByAll_L4 : Nat → Nat → Int → Int → Int → hM
  | 0, _, _, _, _ => hfail
  | n + 1, l0, l1, l2, l3 =>
    hgR 10 l0 20 fun v1 =>
  haI 20 v1 4 fun v2 =>
  hif (l3 ≥ v2) (
hret l2) (
hcallV 10 l0 (m_X10_crossedBy l0 l3 l1) fun v3 =>
  hlet ((w32 (l2 + v3))) fun (w4 : Int) =>
  hlet (w32 (l3 + 1)) fun (w5 : Int) =>
  m_X10_crossedByAll_L4 n l0 l1 w4 w5)
def m_X10_crossedByAll (l0 : Nat) (l1 : Int) : hM :=
  hlet (0 : Int) fun (w1 : Int) =>
  hlet (0 : Int) fun (w2 : Int) =>
  m_X10_crossedByAll_L4 1000000000 l0 l1 w1 w2
set_option maxRecDepth 4000 in
theorem z_X10_crossedByAll_L4 (d : Nat) (hd : 2 ≤ d) {C : hCx} (K : hCtx C.1 C.2.2.1 d 0 0 "crossedByAll" C) (X : hOK C cX10_crossedByAll RX10 4 (some .int)) : ∀ (n : Nat) (l0 : Nat) (l1 : Int) (l2 : Int) (l3 : Int) (h1 : inI l1) (h2 : inI l2) (h3 : inI l3), hSim C (some .int) 0 0 4 4 [(0, vR C.1.1 l0), (1, vI l1), (2, vI l2), (3, vI l3)] [] 0 0 (m_X10_crossedByAll_L4 n l0 l1 l2 l3) := by
  obtain ⟨⟨hf, hlo⟩, ⟨hc1, hc2⟩, hf1, hl1⟩ := K_room K (by omega)
  have hcs : 0 ≤ C.2.2.2.2.1.cells ∧ 0 ≤ C.2.2.2.2.1.slots := ⟨Nat.zero_le _, Nat.zero_le _⟩
  intro n
  induction n with
  | zero => intros; exact s_none (fun _ => rfl)
  | succ n ih =>
    intro l0 l1 l2 l3 h1 h2 h3
    unfold m_X10_crossedByAll_L4
    refine s_iload_n (j := 3) (pc2 := 5) X dX10_crossedByAll_4 rfl rfl ?_
    refine s_aload_n (j := 0) (pc2 := 6) X dX10_crossedByAll_5 rfl rfl ?_
    refine s_getR (pc2 := 9) X dX10_crossedByAll_6 rfl fl_RX10_39 rfl (fun v1 => ?_)
    refine s_iconst (n := 4) (pc2 := 10) X dX10_crossedByAll_9 rfl ?_
    refine s_iald (pc2 := 11) X dX10_crossedByAll_10 rfl (fun v2 hv2 => ?_)
    refine s_icge (tgt := 29) X dX10_crossedByAll_11 (by decide) rfl h3 hv2 ?_ ?_
    · refine s_iload_n (j := 2) (pc2 := 30) X dX10_crossedByAll_29 rfl rfl ?_
      exact s_iret X dX10_crossedByAll_30 h2
    · refine s_iload_n (j := 2) (pc2 := 15) X dX10_crossedByAll_14 rfl rfl ?_
      refine s_aload_n (j := 0) (pc2 := 16) X dX10_crossedByAll_15 rfl rfl ?_
      refine s_iload_n (j := 3) (pc2 := 17) X dX10_crossedByAll_16 rfl rfl ?_
      refine s_iload_n (j := 1) (pc2 := 18) X dX10_crossedByAll_17 rfl rfl ?_
      refine s_callVI (d2 := d - 1) (As := [vI l3, vI l1]) (st := [vI l2]) (pc2 := 21) X dX10_crossedByAll_18 rfl ml_RX10_297 im_X10_crossedBy se_X10_crossedBy kX10 rfl (c_X10_crossedBy (d - 1) (by omega) C.1 C.2.2.1 l0 l3 l1 h3 h1) hy_X10_crossedBy rfl rfl hf hlo (st_room (Nat.le_of_ble_eq_true rfl)) hcs (fun v3 hv3 => ?_)
      refine s_iadd (pc2 := 22) X dX10_crossedByAll_21 rfl ?_
      refine s_istore_n (pc2 := 23) X dX10_crossedByAll_22 rfl (by decide) rfl rfl cat1_I (w32_in _) (fun w4 hw4 => ?_)
      refine s_iinc (j := 3) (pc2 := 26) X dX10_crossedByAll_23 rfl (by decide) rfl rfl rfl cat1_I (fun w5 hw5 => ?_)
      refine s_goto (pc2 := 4) X dX10_crossedByAll_26 (by decide) ?_
      refine s_sub (lv2 := [(0, vR C.1.1 l0), (1, vI l1), (2, vI w4), (3, vI w5)]) [2, 3, 1, 0] rfl ?_
      exact ih l0 l1 w4 w5 h1 hw4 hw5
set_option maxRecDepth 4000 in
set_option maxHeartbeats 20000000 in
theorem z_X10_crossedByAll (d : Nat) (hd : 2 ≤ d) {C : hCx} (K : hCtx C.1 C.2.2.1 d 0 0 "crossedByAll" C) (X : hOK C cX10_crossedByAll RX10 4 (some .int)) (l0 : Nat) (l1 : Int) (h1 : inI l1) : hSim C (some .int) 0 0 4 0 [(0, vR C.1.1 l0), (1, vI l1)] [] 0 0 (m_X10_crossedByAll l0 l1) := by
  obtain ⟨⟨hf, hlo⟩, ⟨hc1, hc2⟩, hf1, hl1⟩ := K_room K (by omega)
  have hcs : 0 ≤ C.2.2.2.2.1.cells ∧ 0 ≤ C.2.2.2.2.1.slots := ⟨Nat.zero_le _, Nat.zero_le _⟩
  unfold m_X10_crossedByAll
  refine s_iconst (n := 0) (pc2 := 1) X dX10_crossedByAll_0 rfl ?_
  refine s_istore_n (pc2 := 2) X dX10_crossedByAll_1 rfl (by decide) rfl rfl cat1_I (inI_c 0 rfl) (fun w1 hw1 => ?_)
  refine s_iconst (n := 0) (pc2 := 3) X dX10_crossedByAll_2 rfl ?_
  refine s_istore_n (pc2 := 4) X dX10_crossedByAll_3 rfl (by decide) rfl rfl cat1_I (inI_c 0 rfl) (fun w2 hw2 => ?_)
  refine s_sub (lv2 := [(0, vR C.1.1 l0), (1, vI l1), (2, vI w1), (3, vI w2)]) [2, 3, 1, 0] rfl ?_
  exact z_X10_crossedByAll_L4 d hd K X 1000000000 l0 l1 w1 w2 h1 hw1 hw2
theorem c_X10_crossedByAll (d : Nat) (hd : 2 ≤ d) (G : hG) (l : Launch) (l0 : Nat) (l1 : Int) (h1 : inI l1) : hMet G l yX10_crossedByAll cX10_crossedByAll 4 (some .int) d 0 0 [vR G.1 l0, vI l1] (m_X10_crossedByAll l0 l1) := by
  refine hMet.of (lv := [(0, vR G.1 l0), (1, vI l1)]) (by decide +kernel) (by simp [lg_sl, vR_cat, vI_cat, vL_cat, vS_cat2, vT_cat2]) (by simp [lv_args, vR_cat, vI_cat, vL_cat, vS_cat2, vT_cat2]) (fun C K X => ?_)
  obtain ⟨rfl, rfl, K⟩ := K
  exact z_X10_crossedByAll d hd ⟨rfl, rfl, K⟩ X l0 l1 h1
def m_X10_bridge_L20 : hM :=
  hret ((-1))
def m_X10_bridge_L48 (s0 : Int) : hM :=
  hret s0
def m_X10_bridge (l0 : Nat) (l1 : Int) (l2 : Int) : hM :=
  hcallV 10 l0 (m_X10_isBridge l0 l1) fun v1 =>
  hif (v1 = 0) (
m_X10_bridge_L20) (
hcall (m_X10_in l2 0 2) fun v2 =>
  hif (v2 ≠ 0) (
hif (l2 ≥ 2) (
hcallV 10 l0 (m_X10_crossedByAll l0 l1) fun v3 =>
  m_X10_bridge_L48 v3) (
hgR 10 l0 20 fun v4 =>
  haI 20 v4 ((w32 (((w32 (94 + ((w32 (2 * l1)))))) + l2))) fun v5 =>
  m_X10_bridge_L48 v5)) (
m_X10_bridge_L20))
set_option maxRecDepth 4000 in
theorem z_X10_bridge_L20 (d : Nat) (hd : 3 ≤ d) {C : hCx} (K : hCtx C.1 C.2.2.1 d 0 0 "bridge" C) (X : hOK C cX10_bridge RX10 3 (some .int)) : hSim C (some .int) 0 0 3 20 [] [] 0 0 (m_X10_bridge_L20) := by
  obtain ⟨⟨hf, hlo⟩, ⟨hc1, hc2⟩, hf1, hl1⟩ := K_room K (by omega)
  have hcs : 0 ≤ C.2.2.2.2.1.cells ∧ 0 ≤ C.2.2.2.2.1.slots := ⟨Nat.zero_le _, Nat.zero_le _⟩
  unfold m_X10_bridge_L20
  refine s_iconst (n := (-1)) (pc2 := 21) X dX10_bridge_20 rfl ?_
  exact s_iret X dX10_bridge_21 (inI_c (-1) rfl)
set_option maxRecDepth 4000 in
theorem z_X10_bridge_L48 (d : Nat) (hd : 3 ≤ d) {C : hCx} (K : hCtx C.1 C.2.2.1 d 0 0 "bridge" C) (X : hOK C cX10_bridge RX10 3 (some .int)) (s0 : Int) (g0 : inI s0) : hSim C (some .int) 0 0 3 48 [] [vI s0] 0 0 (m_X10_bridge_L48 s0) := by
  obtain ⟨⟨hf, hlo⟩, ⟨hc1, hc2⟩, hf1, hl1⟩ := K_room K (by omega)
  have hcs : 0 ≤ C.2.2.2.2.1.cells ∧ 0 ≤ C.2.2.2.2.1.slots := ⟨Nat.zero_le _, Nat.zero_le _⟩
  unfold m_X10_bridge_L48
  exact s_iret X dX10_bridge_48 g0
set_option maxRecDepth 4000 in
set_option maxHeartbeats 20000000 in
theorem z_X10_bridge (d : Nat) (hd : 3 ≤ d) {C : hCx} (K : hCtx C.1 C.2.2.1 d 0 0 "bridge" C) (X : hOK C cX10_bridge RX10 3 (some .int)) (l0 : Nat) (l1 : Int) (l2 : Int) (h1 : inI l1) (h2 : inI l2) : hSim C (some .int) 0 0 3 0 [(0, vR C.1.1 l0), (1, vI l1), (2, vI l2)] [] 0 0 (m_X10_bridge l0 l1 l2) := by
  obtain ⟨⟨hf, hlo⟩, ⟨hc1, hc2⟩, hf1, hl1⟩ := K_room K (by omega)
  have hcs : 0 ≤ C.2.2.2.2.1.cells ∧ 0 ≤ C.2.2.2.2.1.slots := ⟨Nat.zero_le _, Nat.zero_le _⟩
  unfold m_X10_bridge
  refine s_aload_n (j := 0) (pc2 := 1) X dX10_bridge_0 rfl rfl ?_
  refine s_iload_n (j := 1) (pc2 := 2) X dX10_bridge_1 rfl rfl ?_
  refine s_callVZ (d2 := d - 1) (As := [vI l1]) (st := []) (pc2 := 5) X dX10_bridge_2 rfl ml_RX10_328 im_X10_isBridge se_X10_isBridge kX10 rfl (c_X10_isBridge (d - 1) (by omega) C.1 C.2.2.1 l0 l1 h1) hy_X10_isBridge rfl rfl hf hlo (st_room (Nat.le_of_ble_eq_true rfl)) hcs (fun v1 hv1 => ?_)
  refine s_ifeq (tgt := 20) X dX10_bridge_5 (by decide) rfl hv1 ?_ ?_
  · refine s_sub (lv2 := []) [] rfl ?_
    exact z_X10_bridge_L20 d hd K X
  · refine s_iload_n (j := 2) (pc2 := 9) X dX10_bridge_8 rfl rfl ?_
    refine s_i2l (pc2 := 10) X dX10_bridge_9 rfl h2 ?_
    refine s_lconst (z := 0) (pc2 := 11) X dX10_bridge_10 rfl rfl ?_
    refine s_ldc2 (z := 2) (pc2 := 14) X dX10_bridge_11 rfl kc_RX10_331 ?_
    refine s_callSZ (d2 := d - 1) (As := [vL l2, vL 0, vL 2]) (st := []) (pc2 := 17) X dX10_bridge_14 rfl ml_RX10_118 sm_X10_in (c_X10_in (d - 1) (by omega) C.1 C.2.2.1 l2 0 2 (inL_of h2) (inL_c 0 rfl) (inL_c 2 rfl)) hy_X10_in rfl rfl hf hlo (st_room (Nat.le_of_ble_eq_true rfl)) hcs (fun v2 hv2 => ?_)
    refine s_ifne (tgt := 22) X dX10_bridge_17 (by decide) rfl hv2 ?_ ?_
    · refine s_iload_n (j := 2) (pc2 := 23) X dX10_bridge_22 rfl rfl ?_
      refine s_iconst (n := 2) (pc2 := 24) X dX10_bridge_23 rfl ?_
      refine s_icge (tgt := 43) X dX10_bridge_24 (by decide) rfl h2 (inI_c 2 rfl) ?_ ?_
      · refine s_aload_n (j := 0) (pc2 := 44) X dX10_bridge_43 rfl rfl ?_
        refine s_iload_n (j := 1) (pc2 := 45) X dX10_bridge_44 rfl rfl ?_
        refine s_callVI (d2 := d - 1) (As := [vI l1]) (st := []) (pc2 := 48) X dX10_bridge_45 rfl ml_RX10_333 im_X10_crossedByAll se_X10_crossedByAll kX10 rfl (c_X10_crossedByAll (d - 1) (by omega) C.1 C.2.2.1 l0 l1 h1) hy_X10_crossedByAll rfl rfl hf hlo (st_room (Nat.le_of_ble_eq_true rfl)) hcs (fun v3 hv3 => ?_)
        refine s_sub (lv2 := []) [] rfl ?_
        exact z_X10_bridge_L48 d hd K X v3 hv3
      · refine s_aload_n (j := 0) (pc2 := 28) X dX10_bridge_27 rfl rfl ?_
        refine s_getR (pc2 := 31) X dX10_bridge_28 rfl fl_RX10_39 rfl (fun v4 => ?_)
        refine s_bipush (n := 94) (pc2 := 33) X dX10_bridge_31 rfl rfl ?_
        refine s_iconst (n := 2) (pc2 := 34) X dX10_bridge_33 rfl ?_
        refine s_iload_n (j := 1) (pc2 := 35) X dX10_bridge_34 rfl rfl ?_
        refine s_imul (pc2 := 36) X dX10_bridge_35 rfl ?_
        refine s_iadd (pc2 := 37) X dX10_bridge_36 rfl ?_
        refine s_iload_n (j := 2) (pc2 := 38) X dX10_bridge_37 rfl rfl ?_
        refine s_iadd (pc2 := 39) X dX10_bridge_38 rfl ?_
        refine s_iald (pc2 := 40) X dX10_bridge_39 rfl (fun v5 hv5 => ?_)
        refine s_goto (pc2 := 48) X dX10_bridge_40 (by decide) ?_
        refine s_sub (lv2 := []) [] rfl ?_
        exact z_X10_bridge_L48 d hd K X v5 hv5
    · refine s_sub (lv2 := []) [] rfl ?_
      exact z_X10_bridge_L20 d hd K X
theorem c_X10_bridge (d : Nat) (hd : 3 ≤ d) (G : hG) (l : Launch) (l0 : Nat) (l1 : Int) (l2 : Int) (h1 : inI l1) (h2 : inI l2) : hMet G l yX10_bridge cX10_bridge 3 (some .int) d 0 0 [vR G.1 l0, vI l1, vI l2] (m_X10_bridge l0 l1 l2) := by
  refine hMet.of (lv := [(0, vR G.1 l0), (1, vI l1), (2, vI l2)]) (by decide +kernel) (by simp [lg_sl, vR_cat, vI_cat, vL_cat, vS_cat2, vT_cat2]) (by simp [lv_args, vR_cat, vI_cat, vL_cat, vS_cat2, vT_cat2]) (fun C K X => ?_)
  obtain ⟨rfl, rfl, K⟩ := K
  exact z_X10_bridge d hd ⟨rfl, rfl, K⟩ X l0 l1 l2 h1 h2
def m_X10_keepsAct_L52 : Nat → Nat → Int → hM
  | 0, _, _ => hfail
  | n + 1, l0, l1 =>
    hif (l1 ≥ 94) (
hgI 10 l0 25 fun v1 =>
  hpI 10 l0 25 ((w32 (v1 + 1))) <|
  hret 0) (
hgR 10 l0 24 fun v2 =>
  hgI 10 l0 25 fun v3 =>
  hgR 10 l0 20 fun v4 =>
  haI 20 v4 l1 fun v5 =>
  hsI 20 v2 ((w32 (((w32 (94 * v3))) + l1))) v5 <|
  hlet (w32 (l1 + 1)) fun (w6 : Int) =>
  m_X10_keepsAct_L52 n l0 w6)
def m_X10_keepsAct_L50 (l0 : Nat) : hM :=
  hlet (0 : Int) fun (w1 : Int) =>
  m_X10_keepsAct_L52 1000000000 l0 w1
def m_X10_keepsAct_L12 : Nat → Nat → Int → hM
  | 0, _, _ => hfail
  | n + 1, l0, l1 =>
    hif (l1 ≥ 1880) (
hgI 10 l0 25 fun v1 =>
  hpI 10 l0 25 ((w32 (v1 - 1))) <|
  m_X10_keepsAct_L50 l0) (
hgR 10 l0 24 fun v2 =>
  hgR 10 l0 24 fun v3 =>
  haI 20 v3 l1 fun v4 =>
  hsI 20 v2 ((w32 (l1 - 94))) v4 <|
  hlet (w32 (l1 + 1)) fun (w5 : Int) =>
  m_X10_keepsAct_L12 n l0 w5)
def m_X10_keepsAct (l0 : Nat) : hM :=
  hgI 10 l0 25 fun v1 =>
  hif (v1 ≠ 20) (
m_X10_keepsAct_L50 l0) (
hlet (94 : Int) fun (w2 : Int) =>
  m_X10_keepsAct_L12 1000000000 l0 w2)
set_option maxRecDepth 4000 in
theorem z_X10_keepsAct_L52 (d : Nat) (hd : 1 ≤ d) {C : hCx} (K : hCtx C.1 C.2.2.1 d 0 0 "keepsAct" C) (X : hOK C cX10_keepsAct RX10 2 none) : ∀ (n : Nat) (l0 : Nat) (l1 : Int) (h1 : inI l1), hSim C none 0 0 2 52 [(0, vR C.1.1 l0), (1, vI l1)] [] 0 0 (m_X10_keepsAct_L52 n l0 l1) := by
  obtain ⟨⟨hf, hlo⟩, ⟨hc1, hc2⟩, hf1, hl1⟩ := K_room K (by omega)
  have hcs : 0 ≤ C.2.2.2.2.1.cells ∧ 0 ≤ C.2.2.2.2.1.slots := ⟨Nat.zero_le _, Nat.zero_le _⟩
  intro n
  induction n with
  | zero => intros; exact s_none (fun _ => rfl)
  | succ n ih =>
    intro l0 l1 h1
    unfold m_X10_keepsAct_L52
    refine s_iload_n (j := 1) (pc2 := 53) X dX10_keepsAct_52 rfl rfl ?_
    refine s_bipush (n := 94) (pc2 := 55) X dX10_keepsAct_53 rfl rfl ?_
    refine s_icge (tgt := 84) X dX10_keepsAct_55 (by decide) rfl h1 (inI_c 94 rfl) ?_ ?_
    · refine s_aload_n (j := 0) (pc2 := 85) X dX10_keepsAct_84 rfl rfl ?_
      refine s_dup (pc2 := 86) X dX10_keepsAct_85 rfl (vR_cat _ _) ?_
      refine s_getI (pc2 := 89) X dX10_keepsAct_86 rfl fl_RX10_279 rfl (fun v1 hv1 => ?_)
      refine s_iconst (n := 1) (pc2 := 90) X dX10_keepsAct_89 rfl ?_
      refine s_iadd (pc2 := 91) X dX10_keepsAct_90 rfl ?_
      refine s_putI (pc2 := 94) X dX10_keepsAct_91 rfl fl_RX10_279 (Or.inl rfl) rfl (w32_in _) ?_
      exact s_ret X dX10_keepsAct_94
    · refine s_aload_n (j := 0) (pc2 := 59) X dX10_keepsAct_58 rfl rfl ?_
      refine s_getR (pc2 := 62) X dX10_keepsAct_59 rfl fl_RX10_48 rfl (fun v2 => ?_)
      refine s_bipush (n := 94) (pc2 := 64) X dX10_keepsAct_62 rfl rfl ?_
      refine s_aload_n (j := 0) (pc2 := 65) X dX10_keepsAct_64 rfl rfl ?_
      refine s_getI (pc2 := 68) X dX10_keepsAct_65 rfl fl_RX10_279 rfl (fun v3 hv3 => ?_)
      refine s_imul (pc2 := 69) X dX10_keepsAct_68 rfl ?_
      refine s_iload_n (j := 1) (pc2 := 70) X dX10_keepsAct_69 rfl rfl ?_
      refine s_iadd (pc2 := 71) X dX10_keepsAct_70 rfl ?_
      refine s_aload_n (j := 0) (pc2 := 72) X dX10_keepsAct_71 rfl rfl ?_
      refine s_getR (pc2 := 75) X dX10_keepsAct_72 rfl fl_RX10_39 rfl (fun v4 => ?_)
      refine s_iload_n (j := 1) (pc2 := 76) X dX10_keepsAct_75 rfl rfl ?_
      refine s_iald (pc2 := 77) X dX10_keepsAct_76 rfl (fun v5 hv5 => ?_)
      refine s_iast (pc2 := 78) X dX10_keepsAct_77 rfl hv5 ?_
      refine s_iinc (j := 1) (pc2 := 81) X dX10_keepsAct_78 rfl (by decide) rfl rfl rfl cat1_R (fun w6 hw6 => ?_)
      refine s_goto (pc2 := 52) X dX10_keepsAct_81 (by decide) ?_
      refine s_sub (lv2 := [(0, vR C.1.1 l0), (1, vI w6)]) [1, 0] rfl ?_
      exact ih l0 w6 hw6
set_option maxRecDepth 4000 in
theorem z_X10_keepsAct_L50 (d : Nat) (hd : 1 ≤ d) {C : hCx} (K : hCtx C.1 C.2.2.1 d 0 0 "keepsAct" C) (X : hOK C cX10_keepsAct RX10 2 none) (l0 : Nat) : hSim C none 0 0 2 50 [(0, vR C.1.1 l0)] [] 0 0 (m_X10_keepsAct_L50 l0) := by
  obtain ⟨⟨hf, hlo⟩, ⟨hc1, hc2⟩, hf1, hl1⟩ := K_room K (by omega)
  have hcs : 0 ≤ C.2.2.2.2.1.cells ∧ 0 ≤ C.2.2.2.2.1.slots := ⟨Nat.zero_le _, Nat.zero_le _⟩
  unfold m_X10_keepsAct_L50
  refine s_iconst (n := 0) (pc2 := 51) X dX10_keepsAct_50 rfl ?_
  refine s_istore_n (pc2 := 52) X dX10_keepsAct_51 rfl (by decide) rfl rfl cat1_R (inI_c 0 rfl) (fun w1 hw1 => ?_)
  refine s_sub (lv2 := [(0, vR C.1.1 l0), (1, vI w1)]) [1, 0] rfl ?_
  exact z_X10_keepsAct_L52 d hd K X 1000000000 l0 w1 hw1
set_option maxRecDepth 4000 in
theorem z_X10_keepsAct_L12 (d : Nat) (hd : 1 ≤ d) {C : hCx} (K : hCtx C.1 C.2.2.1 d 0 0 "keepsAct" C) (X : hOK C cX10_keepsAct RX10 2 none) : ∀ (n : Nat) (l0 : Nat) (l1 : Int) (h1 : inI l1), hSim C none 0 0 2 12 [(0, vR C.1.1 l0), (1, vI l1)] [] 0 0 (m_X10_keepsAct_L12 n l0 l1) := by
  obtain ⟨⟨hf, hlo⟩, ⟨hc1, hc2⟩, hf1, hl1⟩ := K_room K (by omega)
  have hcs : 0 ≤ C.2.2.2.2.1.cells ∧ 0 ≤ C.2.2.2.2.1.slots := ⟨Nat.zero_le _, Nat.zero_le _⟩
  intro n
  induction n with
  | zero => intros; exact s_none (fun _ => rfl)
  | succ n ih =>
    intro l0 l1 h1
    unfold m_X10_keepsAct_L12
    refine s_iload_n (j := 1) (pc2 := 13) X dX10_keepsAct_12 rfl rfl ?_
    refine s_sipush (n := 1880) (pc2 := 16) X dX10_keepsAct_13 rfl rfl ?_
    refine s_icge (tgt := 40) X dX10_keepsAct_16 (by decide) rfl h1 (inI_c 1880 rfl) ?_ ?_
    · refine s_aload_n (j := 0) (pc2 := 41) X dX10_keepsAct_40 rfl rfl ?_
      refine s_dup (pc2 := 42) X dX10_keepsAct_41 rfl (vR_cat _ _) ?_
      refine s_getI (pc2 := 45) X dX10_keepsAct_42 rfl fl_RX10_279 rfl (fun v1 hv1 => ?_)
      refine s_iconst (n := 1) (pc2 := 46) X dX10_keepsAct_45 rfl ?_
      refine s_isub (pc2 := 47) X dX10_keepsAct_46 rfl ?_
      refine s_putI (pc2 := 50) X dX10_keepsAct_47 rfl fl_RX10_279 (Or.inl rfl) rfl (w32_in _) ?_
      refine s_sub (lv2 := [(0, vR C.1.1 l0)]) [0] rfl ?_
      exact z_X10_keepsAct_L50 d hd K X l0
    · refine s_aload_n (j := 0) (pc2 := 20) X dX10_keepsAct_19 rfl rfl ?_
      refine s_getR (pc2 := 23) X dX10_keepsAct_20 rfl fl_RX10_48 rfl (fun v2 => ?_)
      refine s_iload_n (j := 1) (pc2 := 24) X dX10_keepsAct_23 rfl rfl ?_
      refine s_bipush (n := 94) (pc2 := 26) X dX10_keepsAct_24 rfl rfl ?_
      refine s_isub (pc2 := 27) X dX10_keepsAct_26 rfl ?_
      refine s_aload_n (j := 0) (pc2 := 28) X dX10_keepsAct_27 rfl rfl ?_
      refine s_getR (pc2 := 31) X dX10_keepsAct_28 rfl fl_RX10_48 rfl (fun v3 => ?_)
      refine s_iload_n (j := 1) (pc2 := 32) X dX10_keepsAct_31 rfl rfl ?_
      refine s_iald (pc2 := 33) X dX10_keepsAct_32 rfl (fun v4 hv4 => ?_)
      refine s_iast (pc2 := 34) X dX10_keepsAct_33 rfl hv4 ?_
      refine s_iinc (j := 1) (pc2 := 37) X dX10_keepsAct_34 rfl (by decide) rfl rfl rfl cat1_R (fun w5 hw5 => ?_)
      refine s_goto (pc2 := 12) X dX10_keepsAct_37 (by decide) ?_
      refine s_sub (lv2 := [(0, vR C.1.1 l0), (1, vI w5)]) [1, 0] rfl ?_
      exact ih l0 w5 hw5
set_option maxRecDepth 4000 in
set_option maxHeartbeats 20000000 in
theorem z_X10_keepsAct (d : Nat) (hd : 1 ≤ d) {C : hCx} (K : hCtx C.1 C.2.2.1 d 0 0 "keepsAct" C) (X : hOK C cX10_keepsAct RX10 2 none) (l0 : Nat) : hSim C none 0 0 2 0 [(0, vR C.1.1 l0)] [] 0 0 (m_X10_keepsAct l0) := by
  obtain ⟨⟨hf, hlo⟩, ⟨hc1, hc2⟩, hf1, hl1⟩ := K_room K (by omega)
  have hcs : 0 ≤ C.2.2.2.2.1.cells ∧ 0 ≤ C.2.2.2.2.1.slots := ⟨Nat.zero_le _, Nat.zero_le _⟩
  unfold m_X10_keepsAct
  refine s_aload_n (j := 0) (pc2 := 1) X dX10_keepsAct_0 rfl rfl ?_
  refine s_getI (pc2 := 4) X dX10_keepsAct_1 rfl fl_RX10_279 rfl (fun v1 hv1 => ?_)
  refine s_bipush (n := 20) (pc2 := 6) X dX10_keepsAct_4 rfl rfl ?_
  refine s_icne (tgt := 50) X dX10_keepsAct_6 (by decide) rfl hv1 (inI_c 20 rfl) ?_ ?_
  · exact z_X10_keepsAct_L50 d hd K X l0
  · refine s_bipush (n := 94) (pc2 := 11) X dX10_keepsAct_9 rfl rfl ?_
    refine s_istore_n (pc2 := 12) X dX10_keepsAct_11 rfl (by decide) rfl rfl cat1_R (inI_c 94 rfl) (fun w2 hw2 => ?_)
    refine s_sub (lv2 := [(0, vR C.1.1 l0), (1, vI w2)]) [1, 0] rfl ?_
    exact z_X10_keepsAct_L12 d hd K X 1000000000 l0 w2 hw2
theorem c_X10_keepsAct (d : Nat) (hd : 1 ≤ d) (G : hG) (l : Launch) (l0 : Nat) : hMet G l yX10_keepsAct cX10_keepsAct 2 none d 0 0 [vR G.1 l0] (m_X10_keepsAct l0) := by
  refine hMet.of (lv := [(0, vR G.1 l0)]) (by decide +kernel) (by simp [lg_sl, vR_cat, vI_cat, vL_cat, vS_cat2, vT_cat2]) (by simp [lv_args, vR_cat, vI_cat, vL_cat, vS_cat2, vT_cat2]) (fun C K X => ?_)
  obtain ⟨rfl, rfl, K⟩ := K
  exact z_X10_keepsAct d hd ⟨rfl, rfl, K⟩ X l0
def m_X10_undo_L21 : Nat → Nat → Int → hM
  | 0, _, _ => hfail
  | n + 1, l0, l1 =>
    hif (l1 ≥ 94) (
hgI 10 l0 25 fun v1 =>
  hret v1) (
hgR 10 l0 20 fun v2 =>
  hgR 10 l0 24 fun v3 =>
  hgI 10 l0 25 fun v4 =>
  haI 20 v3 ((w32 (((w32 (94 * v4))) + l1))) fun v5 =>
  hsI 20 v2 l1 v5 <|
  hlet (w32 (l1 + 1)) fun (w6 : Int) =>
  m_X10_undo_L21 n l0 w6)
def m_X10_undo (l0 : Nat) : hM :=
  hgI 10 l0 25 fun v1 =>
  hif (v1 ≠ 0) (
hgI 10 l0 25 fun v2 =>
  hpI 10 l0 25 ((w32 (v2 - 1))) <|
  hlet (0 : Int) fun (w3 : Int) =>
  m_X10_undo_L21 1000000000 l0 w3) (
hret ((-1)))
set_option maxRecDepth 4000 in
theorem z_X10_undo_L21 (d : Nat) (hd : 1 ≤ d) {C : hCx} (K : hCtx C.1 C.2.2.1 d 0 0 "undo" C) (X : hOK C cX10_undo RX10 2 (some .int)) : ∀ (n : Nat) (l0 : Nat) (l1 : Int) (h1 : inI l1), hSim C (some .int) 0 0 2 21 [(0, vR C.1.1 l0), (1, vI l1)] [] 0 0 (m_X10_undo_L21 n l0 l1) := by
  obtain ⟨⟨hf, hlo⟩, ⟨hc1, hc2⟩, hf1, hl1⟩ := K_room K (by omega)
  have hcs : 0 ≤ C.2.2.2.2.1.cells ∧ 0 ≤ C.2.2.2.2.1.slots := ⟨Nat.zero_le _, Nat.zero_le _⟩
  intro n
  induction n with
  | zero => intros; exact s_none (fun _ => rfl)
  | succ n ih =>
    intro l0 l1 h1
    unfold m_X10_undo_L21
    refine s_iload_n (j := 1) (pc2 := 22) X dX10_undo_21 rfl rfl ?_
    refine s_bipush (n := 94) (pc2 := 24) X dX10_undo_22 rfl rfl ?_
    refine s_icge (tgt := 53) X dX10_undo_24 (by decide) rfl h1 (inI_c 94 rfl) ?_ ?_
    · refine s_aload_n (j := 0) (pc2 := 54) X dX10_undo_53 rfl rfl ?_
      refine s_getI (pc2 := 57) X dX10_undo_54 rfl fl_RX10_279 rfl (fun v1 hv1 => ?_)
      exact s_iret X dX10_undo_57 hv1
    · refine s_aload_n (j := 0) (pc2 := 28) X dX10_undo_27 rfl rfl ?_
      refine s_getR (pc2 := 31) X dX10_undo_28 rfl fl_RX10_39 rfl (fun v2 => ?_)
      refine s_iload_n (j := 1) (pc2 := 32) X dX10_undo_31 rfl rfl ?_
      refine s_aload_n (j := 0) (pc2 := 33) X dX10_undo_32 rfl rfl ?_
      refine s_getR (pc2 := 36) X dX10_undo_33 rfl fl_RX10_48 rfl (fun v3 => ?_)
      refine s_bipush (n := 94) (pc2 := 38) X dX10_undo_36 rfl rfl ?_
      refine s_aload_n (j := 0) (pc2 := 39) X dX10_undo_38 rfl rfl ?_
      refine s_getI (pc2 := 42) X dX10_undo_39 rfl fl_RX10_279 rfl (fun v4 hv4 => ?_)
      refine s_imul (pc2 := 43) X dX10_undo_42 rfl ?_
      refine s_iload_n (j := 1) (pc2 := 44) X dX10_undo_43 rfl rfl ?_
      refine s_iadd (pc2 := 45) X dX10_undo_44 rfl ?_
      refine s_iald (pc2 := 46) X dX10_undo_45 rfl (fun v5 hv5 => ?_)
      refine s_iast (pc2 := 47) X dX10_undo_46 rfl hv5 ?_
      refine s_iinc (j := 1) (pc2 := 50) X dX10_undo_47 rfl (by decide) rfl rfl rfl cat1_R (fun w6 hw6 => ?_)
      refine s_goto (pc2 := 21) X dX10_undo_50 (by decide) ?_
      refine s_sub (lv2 := [(0, vR C.1.1 l0), (1, vI w6)]) [1, 0] rfl ?_
      exact ih l0 w6 hw6
set_option maxRecDepth 4000 in
set_option maxHeartbeats 20000000 in
theorem z_X10_undo (d : Nat) (hd : 1 ≤ d) {C : hCx} (K : hCtx C.1 C.2.2.1 d 0 0 "undo" C) (X : hOK C cX10_undo RX10 2 (some .int)) (l0 : Nat) : hSim C (some .int) 0 0 2 0 [(0, vR C.1.1 l0)] [] 0 0 (m_X10_undo l0) := by
  obtain ⟨⟨hf, hlo⟩, ⟨hc1, hc2⟩, hf1, hl1⟩ := K_room K (by omega)
  have hcs : 0 ≤ C.2.2.2.2.1.cells ∧ 0 ≤ C.2.2.2.2.1.slots := ⟨Nat.zero_le _, Nat.zero_le _⟩
  unfold m_X10_undo
  refine s_aload_n (j := 0) (pc2 := 1) X dX10_undo_0 rfl rfl ?_
  refine s_getI (pc2 := 4) X dX10_undo_1 rfl fl_RX10_279 rfl (fun v1 hv1 => ?_)
  refine s_ifne (tgt := 9) X dX10_undo_4 (by decide) rfl hv1 ?_ ?_
  · refine s_aload_n (j := 0) (pc2 := 10) X dX10_undo_9 rfl rfl ?_
    refine s_dup (pc2 := 11) X dX10_undo_10 rfl (vR_cat _ _) ?_
    refine s_getI (pc2 := 14) X dX10_undo_11 rfl fl_RX10_279 rfl (fun v2 hv2 => ?_)
    refine s_iconst (n := 1) (pc2 := 15) X dX10_undo_14 rfl ?_
    refine s_isub (pc2 := 16) X dX10_undo_15 rfl ?_
    refine s_putI (pc2 := 19) X dX10_undo_16 rfl fl_RX10_279 (Or.inl rfl) rfl (w32_in _) ?_
    refine s_iconst (n := 0) (pc2 := 20) X dX10_undo_19 rfl ?_
    refine s_istore_n (pc2 := 21) X dX10_undo_20 rfl (by decide) rfl rfl cat1_R (inI_c 0 rfl) (fun w3 hw3 => ?_)
    refine s_sub (lv2 := [(0, vR C.1.1 l0), (1, vI w3)]) [1, 0] rfl ?_
    exact z_X10_undo_L21 d hd K X 1000000000 l0 w3 hw3
  · refine s_iconst (n := (-1)) (pc2 := 8) X dX10_undo_7 rfl ?_
    exact s_iret X dX10_undo_8 (inI_c (-1) rfl)
theorem c_X10_undo (d : Nat) (hd : 1 ≤ d) (G : hG) (l : Launch) (l0 : Nat) : hMet G l yX10_undo cX10_undo 2 (some .int) d 0 0 [vR G.1 l0] (m_X10_undo l0) := by
  refine hMet.of (lv := [(0, vR G.1 l0)]) (by decide +kernel) (by simp [lg_sl, vR_cat, vI_cat, vL_cat, vS_cat2, vT_cat2]) (by simp [lv_args, vR_cat, vI_cat, vL_cat, vS_cat2, vT_cat2]) (fun C K X => ?_)
  obtain ⟨rfl, rfl, K⟩ := K
  exact z_X10_undo d hd ⟨rfl, rfl, K⟩ X l0
def m_X10_canCross_L28 (s0 : Int) : hM :=
  hretZ s0
def m_X10_canCross_L27 : hM :=
  m_X10_canCross_L28 0
def m_X10_canCross (l0 : Nat) (l1 : Int) (l2 : Int) : hM :=
  hcallV 10 l0 (m_X10_personOf l0 l1 0) fun v1 =>
  hcallV 10 l0 (m_X10_over l0 l2 v1) fun v2 =>
  hif (v2 < 0) (
m_X10_canCross_L27) (
hcallV 10 l0 (m_X10_leftOf l0 l1 l2) fun v3 =>
  hif (v3 ≤ 0) (
m_X10_canCross_L27) (
m_X10_canCross_L28 1))
set_option maxRecDepth 4000 in
theorem z_X10_canCross_L28 (d : Nat) (hd : 3 ≤ d) {C : hCx} (K : hCtx C.1 C.2.2.1 d 0 0 "canCross" C) (X : hOK C cX10_canCross RX10 3 (some .boolean)) (s0 : Int) (g0 : inI s0) : hSim C (some .boolean) 0 0 3 28 [] [vI s0] 0 0 (m_X10_canCross_L28 s0) := by
  obtain ⟨⟨hf, hlo⟩, ⟨hc1, hc2⟩, hf1, hl1⟩ := K_room K (by omega)
  have hcs : 0 ≤ C.2.2.2.2.1.cells ∧ 0 ≤ C.2.2.2.2.1.slots := ⟨Nat.zero_le _, Nat.zero_le _⟩
  unfold m_X10_canCross_L28
  exact s_zret X dX10_canCross_28
set_option maxRecDepth 4000 in
theorem z_X10_canCross_L27 (d : Nat) (hd : 3 ≤ d) {C : hCx} (K : hCtx C.1 C.2.2.1 d 0 0 "canCross" C) (X : hOK C cX10_canCross RX10 3 (some .boolean)) : hSim C (some .boolean) 0 0 3 27 [] [] 0 0 (m_X10_canCross_L27) := by
  obtain ⟨⟨hf, hlo⟩, ⟨hc1, hc2⟩, hf1, hl1⟩ := K_room K (by omega)
  have hcs : 0 ≤ C.2.2.2.2.1.cells ∧ 0 ≤ C.2.2.2.2.1.slots := ⟨Nat.zero_le _, Nat.zero_le _⟩
  unfold m_X10_canCross_L27
  refine s_iconst (n := 0) (pc2 := 28) X dX10_canCross_27 rfl ?_
  exact z_X10_canCross_L28 d hd K X 0 (inI_c 0 rfl)
set_option maxRecDepth 4000 in
set_option maxHeartbeats 20000000 in
theorem z_X10_canCross (d : Nat) (hd : 3 ≤ d) {C : hCx} (K : hCtx C.1 C.2.2.1 d 0 0 "canCross" C) (X : hOK C cX10_canCross RX10 3 (some .boolean)) (l0 : Nat) (l1 : Int) (l2 : Int) (h1 : inI l1) (h2 : inI l2) : hSim C (some .boolean) 0 0 3 0 [(0, vR C.1.1 l0), (1, vI l1), (2, vI l2)] [] 0 0 (m_X10_canCross l0 l1 l2) := by
  obtain ⟨⟨hf, hlo⟩, ⟨hc1, hc2⟩, hf1, hl1⟩ := K_room K (by omega)
  have hcs : 0 ≤ C.2.2.2.2.1.cells ∧ 0 ≤ C.2.2.2.2.1.slots := ⟨Nat.zero_le _, Nat.zero_le _⟩
  unfold m_X10_canCross
  refine s_aload_n (j := 0) (pc2 := 1) X dX10_canCross_0 rfl rfl ?_
  refine s_iload_n (j := 2) (pc2 := 2) X dX10_canCross_1 rfl rfl ?_
  refine s_aload_n (j := 0) (pc2 := 3) X dX10_canCross_2 rfl rfl ?_
  refine s_iload_n (j := 1) (pc2 := 4) X dX10_canCross_3 rfl rfl ?_
  refine s_iconst (n := 0) (pc2 := 5) X dX10_canCross_4 rfl ?_
  refine s_callVI (d2 := d - 1) (As := [vI l1, vI 0]) (st := [vI l2, vR C.1.1 l0]) (pc2 := 8) X dX10_canCross_5 rfl ml_RX10_307 im_X10_personOf se_X10_personOf kX10 rfl (c_X10_personOf (d - 1) (by omega) C.1 C.2.2.1 l0 l1 0 h1 (inI_c 0 rfl)) hy_X10_personOf rfl rfl hf hlo (st_room (Nat.le_of_ble_eq_true rfl)) hcs (fun v1 hv1 => ?_)
  refine s_callVI (d2 := d - 1) (As := [vI l2, vI v1]) (st := []) (pc2 := 11) X dX10_canCross_8 rfl ml_RX10_336 im_X10_over se_X10_over kX10 rfl (c_X10_over (d - 1) (by omega) C.1 C.2.2.1 l0 l2 v1 h2 hv1) hy_X10_over rfl rfl hf hlo (st_room (Nat.le_of_ble_eq_true rfl)) hcs (fun v2 hv2 => ?_)
  refine s_iflt (tgt := 27) X dX10_canCross_11 (by decide) rfl hv2 ?_ ?_
  · refine s_sub (lv2 := []) [] rfl ?_
    exact z_X10_canCross_L27 d hd K X
  · refine s_aload_n (j := 0) (pc2 := 15) X dX10_canCross_14 rfl rfl ?_
    refine s_iload_n (j := 1) (pc2 := 16) X dX10_canCross_15 rfl rfl ?_
    refine s_iload_n (j := 2) (pc2 := 17) X dX10_canCross_16 rfl rfl ?_
    refine s_callVI (d2 := d - 1) (As := [vI l1, vI l2]) (st := []) (pc2 := 20) X dX10_canCross_17 rfl ml_RX10_304 im_X10_leftOf se_X10_leftOf kX10 rfl (c_X10_leftOf (d - 1) (by omega) C.1 C.2.2.1 l0 l1 l2 h1 h2) hy_X10_leftOf rfl rfl hf hlo (st_room (Nat.le_of_ble_eq_true rfl)) hcs (fun v3 hv3 => ?_)
    refine s_ifle (tgt := 27) X dX10_canCross_20 (by decide) rfl hv3 ?_ ?_
    · refine s_sub (lv2 := []) [] rfl ?_
      exact z_X10_canCross_L27 d hd K X
    · refine s_iconst (n := 1) (pc2 := 24) X dX10_canCross_23 rfl ?_
      refine s_goto (pc2 := 28) X dX10_canCross_24 (by decide) ?_
      refine s_sub (lv2 := []) [] rfl ?_
      exact z_X10_canCross_L28 d hd K X 1 (inI_c 1 rfl)
theorem c_X10_canCross (d : Nat) (hd : 3 ≤ d) (G : hG) (l : Launch) (l0 : Nat) (l1 : Int) (l2 : Int) (h1 : inI l1) (h2 : inI l2) : hMet G l yX10_canCross cX10_canCross 3 (some .boolean) d 0 0 [vR G.1 l0, vI l1, vI l2] (m_X10_canCross l0 l1 l2) := by
  refine hMet.of (lv := [(0, vR G.1 l0), (1, vI l1), (2, vI l2)]) (by decide +kernel) (by simp [lg_sl, vR_cat, vI_cat, vL_cat, vS_cat2, vT_cat2]) (by simp [lv_args, vR_cat, vI_cat, vL_cat, vS_cat2, vT_cat2]) (fun C K X => ?_)
  obtain ⟨rfl, rfl, K⟩ := K
  exact z_X10_canCross d hd ⟨rfl, rfl, K⟩ X l0 l1 l2 h1 h2
def m_X10_crosses (l0 : Nat) (l1 : Int) (l2 : Int) : hM :=
  hgR 10 l0 20 fun v1 =>
  hcallV 10 l0 (m_X10_personOf l0 l1 0) fun v2 =>
  hcallV 10 l0 (m_X10_over l0 l2 v2) fun v3 =>
  hsI 20 v1 ((w32 (10 + ((w32 (3 * l1)))))) v3 <|
  hgR 10 l0 20 fun v4 =>
  haI 20 v4 ((w32 (((w32 (22 + ((w32 (9 * l1)))))) + l2))) fun v5 =>
  hsI 20 v4 ((w32 (((w32 (22 + ((w32 (9 * l1)))))) + l2))) ((w32 (v5 + 1))) <|
  hgR 10 l0 20 fun v6 =>
  haI 20 v6 ((w32 (((w32 (58 + ((w32 (9 * l1)))))) + l2))) fun v7 =>
  hsI 20 v6 ((w32 (((w32 (58 + ((w32 (9 * l1)))))) + l2))) ((w32 (v7 + 1))) <|
  hret 0
set_option maxRecDepth 4000 in
set_option maxHeartbeats 20000000 in
theorem z_X10_crosses (d : Nat) (hd : 3 ≤ d) {C : hCx} (K : hCtx C.1 C.2.2.1 d 0 0 "crosses" C) (X : hOK C cX10_crosses RX10 3 none) (l0 : Nat) (l1 : Int) (l2 : Int) (h1 : inI l1) (h2 : inI l2) : hSim C none 0 0 3 0 [(0, vR C.1.1 l0), (1, vI l1), (2, vI l2)] [] 0 0 (m_X10_crosses l0 l1 l2) := by
  obtain ⟨⟨hf, hlo⟩, ⟨hc1, hc2⟩, hf1, hl1⟩ := K_room K (by omega)
  have hcs : 0 ≤ C.2.2.2.2.1.cells ∧ 0 ≤ C.2.2.2.2.1.slots := ⟨Nat.zero_le _, Nat.zero_le _⟩
  unfold m_X10_crosses
  refine s_aload_n (j := 0) (pc2 := 1) X dX10_crosses_0 rfl rfl ?_
  refine s_getR (pc2 := 4) X dX10_crosses_1 rfl fl_RX10_39 rfl (fun v1 => ?_)
  refine s_bipush (n := 10) (pc2 := 6) X dX10_crosses_4 rfl rfl ?_
  refine s_iconst (n := 3) (pc2 := 7) X dX10_crosses_6 rfl ?_
  refine s_iload_n (j := 1) (pc2 := 8) X dX10_crosses_7 rfl rfl ?_
  refine s_imul (pc2 := 9) X dX10_crosses_8 rfl ?_
  refine s_iadd (pc2 := 10) X dX10_crosses_9 rfl ?_
  refine s_aload_n (j := 0) (pc2 := 11) X dX10_crosses_10 rfl rfl ?_
  refine s_iload_n (j := 2) (pc2 := 12) X dX10_crosses_11 rfl rfl ?_
  refine s_aload_n (j := 0) (pc2 := 13) X dX10_crosses_12 rfl rfl ?_
  refine s_iload_n (j := 1) (pc2 := 14) X dX10_crosses_13 rfl rfl ?_
  refine s_iconst (n := 0) (pc2 := 15) X dX10_crosses_14 rfl ?_
  refine s_callVI (d2 := d - 1) (As := [vI l1, vI 0]) (st := [vI l2, vR C.1.1 l0, vI ((w32 (10 + ((w32 (3 * l1)))))), vR C.1.1 v1]) (pc2 := 18) X dX10_crosses_15 rfl ml_RX10_307 im_X10_personOf se_X10_personOf kX10 rfl (c_X10_personOf (d - 1) (by omega) C.1 C.2.2.1 l0 l1 0 h1 (inI_c 0 rfl)) hy_X10_personOf rfl rfl hf hlo (st_room (Nat.le_of_ble_eq_true rfl)) hcs (fun v2 hv2 => ?_)
  refine s_callVI (d2 := d - 1) (As := [vI l2, vI v2]) (st := [vI ((w32 (10 + ((w32 (3 * l1)))))), vR C.1.1 v1]) (pc2 := 21) X dX10_crosses_18 rfl ml_RX10_336 im_X10_over se_X10_over kX10 rfl (c_X10_over (d - 1) (by omega) C.1 C.2.2.1 l0 l2 v2 h2 hv2) hy_X10_over rfl rfl hf hlo (st_room (Nat.le_of_ble_eq_true rfl)) hcs (fun v3 hv3 => ?_)
  refine s_iast (pc2 := 22) X dX10_crosses_21 rfl hv3 ?_
  refine s_aload_n (j := 0) (pc2 := 23) X dX10_crosses_22 rfl rfl ?_
  refine s_getR (pc2 := 26) X dX10_crosses_23 rfl fl_RX10_39 rfl (fun v4 => ?_)
  refine s_bipush (n := 22) (pc2 := 28) X dX10_crosses_26 rfl rfl ?_
  refine s_bipush (n := 9) (pc2 := 30) X dX10_crosses_28 rfl rfl ?_
  refine s_iload_n (j := 1) (pc2 := 31) X dX10_crosses_30 rfl rfl ?_
  refine s_imul (pc2 := 32) X dX10_crosses_31 rfl ?_
  refine s_iadd (pc2 := 33) X dX10_crosses_32 rfl ?_
  refine s_iload_n (j := 2) (pc2 := 34) X dX10_crosses_33 rfl rfl ?_
  refine s_iadd (pc2 := 35) X dX10_crosses_34 rfl ?_
  refine s_dup2 (pc2 := 36) X dX10_crosses_35 rfl rfl (vR_cat _ _) ?_
  refine s_iald (pc2 := 37) X dX10_crosses_36 rfl (fun v5 hv5 => ?_)
  refine s_iconst (n := 1) (pc2 := 38) X dX10_crosses_37 rfl ?_
  refine s_iadd (pc2 := 39) X dX10_crosses_38 rfl ?_
  refine s_iast (pc2 := 40) X dX10_crosses_39 rfl (w32_in _) ?_
  refine s_aload_n (j := 0) (pc2 := 41) X dX10_crosses_40 rfl rfl ?_
  refine s_getR (pc2 := 44) X dX10_crosses_41 rfl fl_RX10_39 rfl (fun v6 => ?_)
  refine s_bipush (n := 58) (pc2 := 46) X dX10_crosses_44 rfl rfl ?_
  refine s_bipush (n := 9) (pc2 := 48) X dX10_crosses_46 rfl rfl ?_
  refine s_iload_n (j := 1) (pc2 := 49) X dX10_crosses_48 rfl rfl ?_
  refine s_imul (pc2 := 50) X dX10_crosses_49 rfl ?_
  refine s_iadd (pc2 := 51) X dX10_crosses_50 rfl ?_
  refine s_iload_n (j := 2) (pc2 := 52) X dX10_crosses_51 rfl rfl ?_
  refine s_iadd (pc2 := 53) X dX10_crosses_52 rfl ?_
  refine s_dup2 (pc2 := 54) X dX10_crosses_53 rfl rfl (vR_cat _ _) ?_
  refine s_iald (pc2 := 55) X dX10_crosses_54 rfl (fun v7 hv7 => ?_)
  refine s_iconst (n := 1) (pc2 := 56) X dX10_crosses_55 rfl ?_
  refine s_iadd (pc2 := 57) X dX10_crosses_56 rfl ?_
  refine s_iast (pc2 := 58) X dX10_crosses_57 rfl (w32_in _) ?_
  exact s_ret X dX10_crosses_58
theorem c_X10_crosses (d : Nat) (hd : 3 ≤ d) (G : hG) (l : Launch) (l0 : Nat) (l1 : Int) (l2 : Int) (h1 : inI l1) (h2 : inI l2) : hMet G l yX10_crosses cX10_crosses 3 none d 0 0 [vR G.1 l0, vI l1, vI l2] (m_X10_crosses l0 l1 l2) := by
  refine hMet.of (lv := [(0, vR G.1 l0), (1, vI l1), (2, vI l2)]) (by decide +kernel) (by simp [lg_sl, vR_cat, vI_cat, vL_cat, vS_cat2, vT_cat2]) (by simp [lv_args, vR_cat, vI_cat, vL_cat, vS_cat2, vT_cat2]) (fun C K X => ?_)
  obtain ⟨rfl, rfl, K⟩ := K
  exact z_X10_crosses d hd ⟨rfl, rfl, K⟩ X l0 l1 l2 h1 h2
def m_X10_cross_L25 : hM :=
  hret ((-1))
def m_X10_cross (l0 : Nat) (l1 : Int) (l2 : Int) : hM :=
  hcallV 10 l0 (m_X10_isPerson l0 l1) fun v1 =>
  hif (v1 = 0) (
m_X10_cross_L25) (
hcallV 10 l0 (m_X10_isBridge l0 l2) fun v2 =>
  hif (v2 = 0) (
m_X10_cross_L25) (
hcallV 10 l0 (m_X10_canCross l0 l1 l2) fun v3 =>
  hif (v3 ≠ 0) (
hcallV 10 l0 (m_X10_keepsAct l0) fun _ =>
  hcallV 10 l0 (m_X10_crosses l0 l1 l2) fun _ =>
  hcallV 10 l0 (m_X10_personOf l0 l1 0) fun v4 =>
  hret v4) (
m_X10_cross_L25)))
set_option maxRecDepth 4000 in
theorem z_X10_cross_L25 (d : Nat) (hd : 4 ≤ d) {C : hCx} (K : hCtx C.1 C.2.2.1 d 0 0 "cross" C) (X : hOK C cX10_cross RX10 3 (some .int)) : hSim C (some .int) 0 0 3 25 [] [] 0 0 (m_X10_cross_L25) := by
  obtain ⟨⟨hf, hlo⟩, ⟨hc1, hc2⟩, hf1, hl1⟩ := K_room K (by omega)
  have hcs : 0 ≤ C.2.2.2.2.1.cells ∧ 0 ≤ C.2.2.2.2.1.slots := ⟨Nat.zero_le _, Nat.zero_le _⟩
  unfold m_X10_cross_L25
  refine s_iconst (n := (-1)) (pc2 := 26) X dX10_cross_25 rfl ?_
  exact s_iret X dX10_cross_26 (inI_c (-1) rfl)
set_option maxRecDepth 4000 in
set_option maxHeartbeats 20000000 in
theorem z_X10_cross (d : Nat) (hd : 4 ≤ d) {C : hCx} (K : hCtx C.1 C.2.2.1 d 0 0 "cross" C) (X : hOK C cX10_cross RX10 3 (some .int)) (l0 : Nat) (l1 : Int) (l2 : Int) (h1 : inI l1) (h2 : inI l2) : hSim C (some .int) 0 0 3 0 [(0, vR C.1.1 l0), (1, vI l1), (2, vI l2)] [] 0 0 (m_X10_cross l0 l1 l2) := by
  obtain ⟨⟨hf, hlo⟩, ⟨hc1, hc2⟩, hf1, hl1⟩ := K_room K (by omega)
  have hcs : 0 ≤ C.2.2.2.2.1.cells ∧ 0 ≤ C.2.2.2.2.1.slots := ⟨Nat.zero_le _, Nat.zero_le _⟩
  unfold m_X10_cross
  refine s_aload_n (j := 0) (pc2 := 1) X dX10_cross_0 rfl rfl ?_
  refine s_iload_n (j := 1) (pc2 := 2) X dX10_cross_1 rfl rfl ?_
  refine s_callVZ (d2 := d - 1) (As := [vI l1]) (st := []) (pc2 := 5) X dX10_cross_2 rfl ml_RX10_316 im_X10_isPerson se_X10_isPerson kX10 rfl (c_X10_isPerson (d - 1) (by omega) C.1 C.2.2.1 l0 l1 h1) hy_X10_isPerson rfl rfl hf hlo (st_room (Nat.le_of_ble_eq_true rfl)) hcs (fun v1 hv1 => ?_)
  refine s_ifeq (tgt := 25) X dX10_cross_5 (by decide) rfl hv1 ?_ ?_
  · refine s_sub (lv2 := []) [] rfl ?_
    exact z_X10_cross_L25 d hd K X
  · refine s_aload_n (j := 0) (pc2 := 9) X dX10_cross_8 rfl rfl ?_
    refine s_iload_n (j := 2) (pc2 := 10) X dX10_cross_9 rfl rfl ?_
    refine s_callVZ (d2 := d - 1) (As := [vI l2]) (st := []) (pc2 := 13) X dX10_cross_10 rfl ml_RX10_328 im_X10_isBridge se_X10_isBridge kX10 rfl (c_X10_isBridge (d - 1) (by omega) C.1 C.2.2.1 l0 l2 h2) hy_X10_isBridge rfl rfl hf hlo (st_room (Nat.le_of_ble_eq_true rfl)) hcs (fun v2 hv2 => ?_)
    refine s_ifeq (tgt := 25) X dX10_cross_13 (by decide) rfl hv2 ?_ ?_
    · refine s_sub (lv2 := []) [] rfl ?_
      exact z_X10_cross_L25 d hd K X
    · refine s_aload_n (j := 0) (pc2 := 17) X dX10_cross_16 rfl rfl ?_
      refine s_iload_n (j := 1) (pc2 := 18) X dX10_cross_17 rfl rfl ?_
      refine s_iload_n (j := 2) (pc2 := 19) X dX10_cross_18 rfl rfl ?_
      refine s_callVZ (d2 := d - 1) (As := [vI l1, vI l2]) (st := []) (pc2 := 22) X dX10_cross_19 rfl ml_RX10_339 im_X10_canCross se_X10_canCross kX10 rfl (c_X10_canCross (d - 1) (by omega) C.1 C.2.2.1 l0 l1 l2 h1 h2) hy_X10_canCross rfl rfl hf hlo (st_room (Nat.le_of_ble_eq_true rfl)) hcs (fun v3 hv3 => ?_)
      refine s_ifne (tgt := 27) X dX10_cross_22 (by decide) rfl hv3 ?_ ?_
      · refine s_aload_n (j := 0) (pc2 := 28) X dX10_cross_27 rfl rfl ?_
        refine s_callVV (d2 := d - 1) (As := []) (st := []) (pc2 := 31) X dX10_cross_28 rfl ml_RX10_342 im_X10_keepsAct se_X10_keepsAct kX10 rfl (c_X10_keepsAct (d - 1) (by omega) C.1 C.2.2.1 l0) hy_X10_keepsAct rfl rfl hf hlo (st_room (Nat.le_of_ble_eq_true rfl)) hcs (fun _ => ?_)
        refine s_aload_n (j := 0) (pc2 := 32) X dX10_cross_31 rfl rfl ?_
        refine s_iload_n (j := 1) (pc2 := 33) X dX10_cross_32 rfl rfl ?_
        refine s_iload_n (j := 2) (pc2 := 34) X dX10_cross_33 rfl rfl ?_
        refine s_callVV (d2 := d - 1) (As := [vI l1, vI l2]) (st := []) (pc2 := 37) X dX10_cross_34 rfl ml_RX10_345 im_X10_crosses se_X10_crosses kX10 rfl (c_X10_crosses (d - 1) (by omega) C.1 C.2.2.1 l0 l1 l2 h1 h2) hy_X10_crosses rfl rfl hf hlo (st_room (Nat.le_of_ble_eq_true rfl)) hcs (fun _ => ?_)
        refine s_aload_n (j := 0) (pc2 := 38) X dX10_cross_37 rfl rfl ?_
        refine s_iload_n (j := 1) (pc2 := 39) X dX10_cross_38 rfl rfl ?_
        refine s_iconst (n := 0) (pc2 := 40) X dX10_cross_39 rfl ?_
        refine s_callVI (d2 := d - 1) (As := [vI l1, vI 0]) (st := []) (pc2 := 43) X dX10_cross_40 rfl ml_RX10_307 im_X10_personOf se_X10_personOf kX10 rfl (c_X10_personOf (d - 1) (by omega) C.1 C.2.2.1 l0 l1 0 h1 (inI_c 0 rfl)) hy_X10_personOf rfl rfl hf hlo (st_room (Nat.le_of_ble_eq_true rfl)) hcs (fun v4 hv4 => ?_)
        exact s_iret X dX10_cross_43 hv4
      · refine s_sub (lv2 := []) [] rfl ?_
        exact z_X10_cross_L25 d hd K X
theorem c_X10_cross (d : Nat) (hd : 4 ≤ d) (G : hG) (l : Launch) (l0 : Nat) (l1 : Int) (l2 : Int) (h1 : inI l1) (h2 : inI l2) : hMet G l yX10_cross cX10_cross 3 (some .int) d 0 0 [vR G.1 l0, vI l1, vI l2] (m_X10_cross l0 l1 l2) := by
  refine hMet.of (lv := [(0, vR G.1 l0), (1, vI l1), (2, vI l2)]) (by decide +kernel) (by simp [lg_sl, vR_cat, vI_cat, vL_cat, vS_cat2, vT_cat2]) (by simp [lv_args, vR_cat, vI_cat, vL_cat, vS_cat2, vT_cat2]) (fun C K X => ?_)
  obtain ⟨rfl, rfl, K⟩ := K
  exact z_X10_cross d hd ⟨rfl, rfl, K⟩ X l0 l1 l2 h1 h2
def m_X10_sail_L29 : hM :=
  hret ((-1))
def m_X10_sail (l0 : Nat) (l1 : Int) (l2 : Int) : hM :=
  hcallV 10 l0 (m_X10_isPerson l0 l1) fun v1 =>
  hif (v1 = 0) (
m_X10_sail_L29) (
hif (l2 < 0) (
m_X10_sail_L29) (
hgR 10 l0 20 fun v2 =>
  haI 20 v2 3 fun v3 =>
  hif (l2 ≥ v3) (
m_X10_sail_L29) (
hcallV 10 l0 (m_X10_isFrost l0) fun v4 =>
  hif (v4 = 0) (
hcallV 10 l0 (m_X10_personOf l0 l1 0) fun v5 =>
  hcallV 10 l0 (m_X10_otherEnd l0 ((w32 (112 + ((w32 (2 * l2)))))) v5) fun v6 =>
  hlet v6 fun (w7 : Int) =>
  hif (w7 ≥ 0) (
hcallV 10 l0 (m_X10_keepsAct l0) fun _ =>
  hgR 10 l0 20 fun v8 =>
  hsI 20 v8 ((w32 (10 + ((w32 (3 * l1)))))) w7 <|
  hret w7) (
hret ((-1)))) (
m_X10_sail_L29))))
set_option maxRecDepth 4000 in
theorem z_X10_sail_L29 (d : Nat) (hd : 2 ≤ d) {C : hCx} (K : hCtx C.1 C.2.2.1 d 0 0 "sail" C) (X : hOK C cX10_sail RX10 4 (some .int)) : hSim C (some .int) 0 0 4 29 [] [] 0 0 (m_X10_sail_L29) := by
  obtain ⟨⟨hf, hlo⟩, ⟨hc1, hc2⟩, hf1, hl1⟩ := K_room K (by omega)
  have hcs : 0 ≤ C.2.2.2.2.1.cells ∧ 0 ≤ C.2.2.2.2.1.slots := ⟨Nat.zero_le _, Nat.zero_le _⟩
  unfold m_X10_sail_L29
  refine s_iconst (n := (-1)) (pc2 := 30) X dX10_sail_29 rfl ?_
  exact s_iret X dX10_sail_30 (inI_c (-1) rfl)
set_option maxRecDepth 4000 in
set_option maxHeartbeats 20000000 in
theorem z_X10_sail (d : Nat) (hd : 2 ≤ d) {C : hCx} (K : hCtx C.1 C.2.2.1 d 0 0 "sail" C) (X : hOK C cX10_sail RX10 4 (some .int)) (l0 : Nat) (l1 : Int) (l2 : Int) (h1 : inI l1) (h2 : inI l2) : hSim C (some .int) 0 0 4 0 [(0, vR C.1.1 l0), (1, vI l1), (2, vI l2)] [] 0 0 (m_X10_sail l0 l1 l2) := by
  obtain ⟨⟨hf, hlo⟩, ⟨hc1, hc2⟩, hf1, hl1⟩ := K_room K (by omega)
  have hcs : 0 ≤ C.2.2.2.2.1.cells ∧ 0 ≤ C.2.2.2.2.1.slots := ⟨Nat.zero_le _, Nat.zero_le _⟩
  unfold m_X10_sail
  refine s_aload_n (j := 0) (pc2 := 1) X dX10_sail_0 rfl rfl ?_
  refine s_iload_n (j := 1) (pc2 := 2) X dX10_sail_1 rfl rfl ?_
  refine s_callVZ (d2 := d - 1) (As := [vI l1]) (st := []) (pc2 := 5) X dX10_sail_2 rfl ml_RX10_316 im_X10_isPerson se_X10_isPerson kX10 rfl (c_X10_isPerson (d - 1) (by omega) C.1 C.2.2.1 l0 l1 h1) hy_X10_isPerson rfl rfl hf hlo (st_room (Nat.le_of_ble_eq_true rfl)) hcs (fun v1 hv1 => ?_)
  refine s_ifeq (tgt := 29) X dX10_sail_5 (by decide) rfl hv1 ?_ ?_
  · refine s_sub (lv2 := []) [] rfl ?_
    exact z_X10_sail_L29 d hd K X
  · refine s_iload_n (j := 2) (pc2 := 9) X dX10_sail_8 rfl rfl ?_
    refine s_iflt (tgt := 29) X dX10_sail_9 (by decide) rfl h2 ?_ ?_
    · refine s_sub (lv2 := []) [] rfl ?_
      exact z_X10_sail_L29 d hd K X
    · refine s_iload_n (j := 2) (pc2 := 13) X dX10_sail_12 rfl rfl ?_
      refine s_aload_n (j := 0) (pc2 := 14) X dX10_sail_13 rfl rfl ?_
      refine s_getR (pc2 := 17) X dX10_sail_14 rfl fl_RX10_39 rfl (fun v2 => ?_)
      refine s_iconst (n := 3) (pc2 := 18) X dX10_sail_17 rfl ?_
      refine s_iald (pc2 := 19) X dX10_sail_18 rfl (fun v3 hv3 => ?_)
      refine s_icge (tgt := 29) X dX10_sail_19 (by decide) rfl h2 hv3 ?_ ?_
      · refine s_sub (lv2 := []) [] rfl ?_
        exact z_X10_sail_L29 d hd K X
      · refine s_aload_n (j := 0) (pc2 := 23) X dX10_sail_22 rfl rfl ?_
        refine s_callVZ (d2 := d - 1) (As := []) (st := []) (pc2 := 26) X dX10_sail_23 rfl ml_RX10_348 im_X10_isFrost se_X10_isFrost kX10 rfl (c_X10_isFrost (d - 1) (by omega) C.1 C.2.2.1 l0) hy_X10_isFrost rfl rfl hf hlo (st_room (Nat.le_of_ble_eq_true rfl)) hcs (fun v4 hv4 => ?_)
        refine s_ifeq (tgt := 31) X dX10_sail_26 (by decide) rfl hv4 ?_ ?_
        · refine s_aload_n (j := 0) (pc2 := 32) X dX10_sail_31 rfl rfl ?_
          refine s_bipush (n := 112) (pc2 := 34) X dX10_sail_32 rfl rfl ?_
          refine s_iconst (n := 2) (pc2 := 35) X dX10_sail_34 rfl ?_
          refine s_iload_n (j := 2) (pc2 := 36) X dX10_sail_35 rfl rfl ?_
          refine s_imul (pc2 := 37) X dX10_sail_36 rfl ?_
          refine s_iadd (pc2 := 38) X dX10_sail_37 rfl ?_
          refine s_aload_n (j := 0) (pc2 := 39) X dX10_sail_38 rfl rfl ?_
          refine s_iload_n (j := 1) (pc2 := 40) X dX10_sail_39 rfl rfl ?_
          refine s_iconst (n := 0) (pc2 := 41) X dX10_sail_40 rfl ?_
          refine s_callVI (d2 := d - 1) (As := [vI l1, vI 0]) (st := [vI ((w32 (112 + ((w32 (2 * l2)))))), vR C.1.1 l0]) (pc2 := 44) X dX10_sail_41 rfl ml_RX10_307 im_X10_personOf se_X10_personOf kX10 rfl (c_X10_personOf (d - 1) (by omega) C.1 C.2.2.1 l0 l1 0 h1 (inI_c 0 rfl)) hy_X10_personOf rfl rfl hf hlo (st_room (Nat.le_of_ble_eq_true rfl)) hcs (fun v5 hv5 => ?_)
          refine s_callVI (d2 := d - 1) (As := [vI ((w32 (112 + ((w32 (2 * l2)))))), vI v5]) (st := []) (pc2 := 47) X dX10_sail_44 rfl ml_RX10_301 im_X10_otherEnd se_X10_otherEnd kX10 rfl (c_X10_otherEnd (d - 1) (by omega) C.1 C.2.2.1 l0 ((w32 (112 + ((w32 (2 * l2)))))) v5 (w32_in _) hv5) hy_X10_otherEnd rfl rfl hf hlo (st_room (Nat.le_of_ble_eq_true rfl)) hcs (fun v6 hv6 => ?_)
          refine s_istore_n (pc2 := 48) X dX10_sail_47 rfl (by decide) rfl rfl cat1_I hv6 (fun w7 hw7 => ?_)
          refine s_iload_n (j := 0) (pc2 := 49) X dX10_sail_48 rfl rfl ?_
          refine s_ifge (tgt := 54) X dX10_sail_49 (by decide) rfl hw7 ?_ ?_
          · refine s_aload_n (j := 1) (pc2 := 55) X dX10_sail_54 rfl rfl ?_
            refine s_callVV (d2 := d - 1) (As := []) (st := []) (pc2 := 58) X dX10_sail_55 rfl ml_RX10_342 im_X10_keepsAct se_X10_keepsAct kX10 rfl (c_X10_keepsAct (d - 1) (by omega) C.1 C.2.2.1 l0) hy_X10_keepsAct rfl rfl hf hlo (st_room (Nat.le_of_ble_eq_true rfl)) hcs (fun _ => ?_)
            refine s_aload_n (j := 1) (pc2 := 59) X dX10_sail_58 rfl rfl ?_
            refine s_getR (pc2 := 62) X dX10_sail_59 rfl fl_RX10_39 rfl (fun v8 => ?_)
            refine s_bipush (n := 10) (pc2 := 64) X dX10_sail_62 rfl rfl ?_
            refine s_iconst (n := 3) (pc2 := 65) X dX10_sail_64 rfl ?_
            refine s_iload_n (j := 2) (pc2 := 66) X dX10_sail_65 rfl rfl ?_
            refine s_imul (pc2 := 67) X dX10_sail_66 rfl ?_
            refine s_iadd (pc2 := 68) X dX10_sail_67 rfl ?_
            refine s_iload_n (j := 0) (pc2 := 69) X dX10_sail_68 rfl rfl ?_
            refine s_iast (pc2 := 70) X dX10_sail_69 rfl hw7 ?_
            refine s_iload_n (j := 0) (pc2 := 71) X dX10_sail_70 rfl rfl ?_
            exact s_iret X dX10_sail_71 hw7
          · refine s_iconst (n := (-1)) (pc2 := 53) X dX10_sail_52 rfl ?_
            exact s_iret X dX10_sail_53 (inI_c (-1) rfl)
        · refine s_sub (lv2 := []) [] rfl ?_
          exact z_X10_sail_L29 d hd K X
theorem c_X10_sail (d : Nat) (hd : 2 ≤ d) (G : hG) (l : Launch) (l0 : Nat) (l1 : Int) (l2 : Int) (h1 : inI l1) (h2 : inI l2) : hMet G l yX10_sail cX10_sail 4 (some .int) d 0 0 [vR G.1 l0, vI l1, vI l2] (m_X10_sail l0 l1 l2) := by
  refine hMet.of (lv := [(0, vR G.1 l0), (1, vI l1), (2, vI l2)]) (by decide +kernel) (by simp [lg_sl, vR_cat, vI_cat, vL_cat, vS_cat2, vT_cat2]) (by simp [lv_args, vR_cat, vI_cat, vL_cat, vS_cat2, vT_cat2]) (fun C K X => ?_)
  obtain ⟨rfl, rfl, K⟩ := K
  exact z_X10_sail d hd ⟨rfl, rfl, K⟩ X l0 l1 l2 h1 h2
def m_X10_carry_L29 : hM :=
  hret ((-1))
def m_X10_carry_L55 : hM :=
  hret ((-1))
def m_X10_carry (l0 : Nat) (l1 : Int) (l2 : Int) (l3 : Int) : hM :=
  hcallV 10 l0 (m_X10_isPerson l0 l1) fun v1 =>
  hif (v1 = 0) (
m_X10_carry_L29) (
hcallV 10 l0 (m_X10_isPerson l0 l2) fun v2 =>
  hif (v2 = 0) (
m_X10_carry_L29) (
hcallV 10 l0 (m_X10_isBridge l0 l3) fun v3 =>
  hif (v3 = 0) (
m_X10_carry_L29) (
hif (l1 ≠ l2) (
hcallV 10 l0 (m_X10_personOf l0 l1 0) fun v4 =>
  hcallV 10 l0 (m_X10_personOf l0 l2 0) fun v5 =>
  hif (v4 ≠ v5) (
m_X10_carry_L55) (
hcallV 10 l0 (m_X10_canCross l0 l1 l3) fun v6 =>
  hif (v6 ≠ 0) (
hcallV 10 l0 (m_X10_keepsAct l0) fun _ =>
  hcallV 10 l0 (m_X10_crosses l0 l1 l3) fun _ =>
  hgR 10 l0 20 fun v7 =>
  hcallV 10 l0 (m_X10_personOf l0 l1 0) fun v8 =>
  hsI 20 v7 ((w32 (10 + ((w32 (3 * l2)))))) v8 <|
  hcallV 10 l0 (m_X10_personOf l0 l1 0) fun v9 =>
  hret v9) (
m_X10_carry_L55))) (
m_X10_carry_L29))))
set_option maxRecDepth 4000 in
theorem z_X10_carry_L29 (d : Nat) (hd : 4 ≤ d) {C : hCx} (K : hCtx C.1 C.2.2.1 d 0 0 "carry" C) (X : hOK C cX10_carry RX10 4 (some .int)) : hSim C (some .int) 0 0 4 29 [] [] 0 0 (m_X10_carry_L29) := by
  obtain ⟨⟨hf, hlo⟩, ⟨hc1, hc2⟩, hf1, hl1⟩ := K_room K (by omega)
  have hcs : 0 ≤ C.2.2.2.2.1.cells ∧ 0 ≤ C.2.2.2.2.1.slots := ⟨Nat.zero_le _, Nat.zero_le _⟩
  unfold m_X10_carry_L29
  refine s_iconst (n := (-1)) (pc2 := 30) X dX10_carry_29 rfl ?_
  exact s_iret X dX10_carry_30 (inI_c (-1) rfl)
set_option maxRecDepth 4000 in
theorem z_X10_carry_L55 (d : Nat) (hd : 4 ≤ d) {C : hCx} (K : hCtx C.1 C.2.2.1 d 0 0 "carry" C) (X : hOK C cX10_carry RX10 4 (some .int)) : hSim C (some .int) 0 0 4 55 [] [] 0 0 (m_X10_carry_L55) := by
  obtain ⟨⟨hf, hlo⟩, ⟨hc1, hc2⟩, hf1, hl1⟩ := K_room K (by omega)
  have hcs : 0 ≤ C.2.2.2.2.1.cells ∧ 0 ≤ C.2.2.2.2.1.slots := ⟨Nat.zero_le _, Nat.zero_le _⟩
  unfold m_X10_carry_L55
  refine s_iconst (n := (-1)) (pc2 := 56) X dX10_carry_55 rfl ?_
  exact s_iret X dX10_carry_56 (inI_c (-1) rfl)
set_option maxRecDepth 4000 in
set_option maxHeartbeats 20000000 in
theorem z_X10_carry (d : Nat) (hd : 4 ≤ d) {C : hCx} (K : hCtx C.1 C.2.2.1 d 0 0 "carry" C) (X : hOK C cX10_carry RX10 4 (some .int)) (l0 : Nat) (l1 : Int) (l2 : Int) (l3 : Int) (h1 : inI l1) (h2 : inI l2) (h3 : inI l3) : hSim C (some .int) 0 0 4 0 [(0, vR C.1.1 l0), (1, vI l1), (2, vI l2), (3, vI l3)] [] 0 0 (m_X10_carry l0 l1 l2 l3) := by
  obtain ⟨⟨hf, hlo⟩, ⟨hc1, hc2⟩, hf1, hl1⟩ := K_room K (by omega)
  have hcs : 0 ≤ C.2.2.2.2.1.cells ∧ 0 ≤ C.2.2.2.2.1.slots := ⟨Nat.zero_le _, Nat.zero_le _⟩
  unfold m_X10_carry
  refine s_aload_n (j := 0) (pc2 := 1) X dX10_carry_0 rfl rfl ?_
  refine s_iload_n (j := 1) (pc2 := 2) X dX10_carry_1 rfl rfl ?_
  refine s_callVZ (d2 := d - 1) (As := [vI l1]) (st := []) (pc2 := 5) X dX10_carry_2 rfl ml_RX10_316 im_X10_isPerson se_X10_isPerson kX10 rfl (c_X10_isPerson (d - 1) (by omega) C.1 C.2.2.1 l0 l1 h1) hy_X10_isPerson rfl rfl hf hlo (st_room (Nat.le_of_ble_eq_true rfl)) hcs (fun v1 hv1 => ?_)
  refine s_ifeq (tgt := 29) X dX10_carry_5 (by decide) rfl hv1 ?_ ?_
  · refine s_sub (lv2 := []) [] rfl ?_
    exact z_X10_carry_L29 d hd K X
  · refine s_aload_n (j := 0) (pc2 := 9) X dX10_carry_8 rfl rfl ?_
    refine s_iload_n (j := 2) (pc2 := 10) X dX10_carry_9 rfl rfl ?_
    refine s_callVZ (d2 := d - 1) (As := [vI l2]) (st := []) (pc2 := 13) X dX10_carry_10 rfl ml_RX10_316 im_X10_isPerson se_X10_isPerson kX10 rfl (c_X10_isPerson (d - 1) (by omega) C.1 C.2.2.1 l0 l2 h2) hy_X10_isPerson rfl rfl hf hlo (st_room (Nat.le_of_ble_eq_true rfl)) hcs (fun v2 hv2 => ?_)
    refine s_ifeq (tgt := 29) X dX10_carry_13 (by decide) rfl hv2 ?_ ?_
    · refine s_sub (lv2 := []) [] rfl ?_
      exact z_X10_carry_L29 d hd K X
    · refine s_aload_n (j := 0) (pc2 := 17) X dX10_carry_16 rfl rfl ?_
      refine s_iload_n (j := 3) (pc2 := 18) X dX10_carry_17 rfl rfl ?_
      refine s_callVZ (d2 := d - 1) (As := [vI l3]) (st := []) (pc2 := 21) X dX10_carry_18 rfl ml_RX10_328 im_X10_isBridge se_X10_isBridge kX10 rfl (c_X10_isBridge (d - 1) (by omega) C.1 C.2.2.1 l0 l3 h3) hy_X10_isBridge rfl rfl hf hlo (st_room (Nat.le_of_ble_eq_true rfl)) hcs (fun v3 hv3 => ?_)
      refine s_ifeq (tgt := 29) X dX10_carry_21 (by decide) rfl hv3 ?_ ?_
      · refine s_sub (lv2 := []) [] rfl ?_
        exact z_X10_carry_L29 d hd K X
      · refine s_iload_n (j := 1) (pc2 := 25) X dX10_carry_24 rfl rfl ?_
        refine s_iload_n (j := 2) (pc2 := 26) X dX10_carry_25 rfl rfl ?_
        refine s_icne (tgt := 31) X dX10_carry_26 (by decide) rfl h1 h2 ?_ ?_
        · refine s_aload_n (j := 0) (pc2 := 32) X dX10_carry_31 rfl rfl ?_
          refine s_iload_n (j := 1) (pc2 := 33) X dX10_carry_32 rfl rfl ?_
          refine s_iconst (n := 0) (pc2 := 34) X dX10_carry_33 rfl ?_
          refine s_callVI (d2 := d - 1) (As := [vI l1, vI 0]) (st := []) (pc2 := 37) X dX10_carry_34 rfl ml_RX10_307 im_X10_personOf se_X10_personOf kX10 rfl (c_X10_personOf (d - 1) (by omega) C.1 C.2.2.1 l0 l1 0 h1 (inI_c 0 rfl)) hy_X10_personOf rfl rfl hf hlo (st_room (Nat.le_of_ble_eq_true rfl)) hcs (fun v4 hv4 => ?_)
          refine s_aload_n (j := 0) (pc2 := 38) X dX10_carry_37 rfl rfl ?_
          refine s_iload_n (j := 2) (pc2 := 39) X dX10_carry_38 rfl rfl ?_
          refine s_iconst (n := 0) (pc2 := 40) X dX10_carry_39 rfl ?_
          refine s_callVI (d2 := d - 1) (As := [vI l2, vI 0]) (st := [vI v4]) (pc2 := 43) X dX10_carry_40 rfl ml_RX10_307 im_X10_personOf se_X10_personOf kX10 rfl (c_X10_personOf (d - 1) (by omega) C.1 C.2.2.1 l0 l2 0 h2 (inI_c 0 rfl)) hy_X10_personOf rfl rfl hf hlo (st_room (Nat.le_of_ble_eq_true rfl)) hcs (fun v5 hv5 => ?_)
          refine s_icne (tgt := 55) X dX10_carry_43 (by decide) rfl hv4 hv5 ?_ ?_
          · refine s_sub (lv2 := []) [] rfl ?_
            exact z_X10_carry_L55 d hd K X
          · refine s_aload_n (j := 0) (pc2 := 47) X dX10_carry_46 rfl rfl ?_
            refine s_iload_n (j := 1) (pc2 := 48) X dX10_carry_47 rfl rfl ?_
            refine s_iload_n (j := 3) (pc2 := 49) X dX10_carry_48 rfl rfl ?_
            refine s_callVZ (d2 := d - 1) (As := [vI l1, vI l3]) (st := []) (pc2 := 52) X dX10_carry_49 rfl ml_RX10_339 im_X10_canCross se_X10_canCross kX10 rfl (c_X10_canCross (d - 1) (by omega) C.1 C.2.2.1 l0 l1 l3 h1 h3) hy_X10_canCross rfl rfl hf hlo (st_room (Nat.le_of_ble_eq_true rfl)) hcs (fun v6 hv6 => ?_)
            refine s_ifne (tgt := 57) X dX10_carry_52 (by decide) rfl hv6 ?_ ?_
            · refine s_aload_n (j := 0) (pc2 := 58) X dX10_carry_57 rfl rfl ?_
              refine s_callVV (d2 := d - 1) (As := []) (st := []) (pc2 := 61) X dX10_carry_58 rfl ml_RX10_342 im_X10_keepsAct se_X10_keepsAct kX10 rfl (c_X10_keepsAct (d - 1) (by omega) C.1 C.2.2.1 l0) hy_X10_keepsAct rfl rfl hf hlo (st_room (Nat.le_of_ble_eq_true rfl)) hcs (fun _ => ?_)
              refine s_aload_n (j := 0) (pc2 := 62) X dX10_carry_61 rfl rfl ?_
              refine s_iload_n (j := 1) (pc2 := 63) X dX10_carry_62 rfl rfl ?_
              refine s_iload_n (j := 3) (pc2 := 64) X dX10_carry_63 rfl rfl ?_
              refine s_callVV (d2 := d - 1) (As := [vI l1, vI l3]) (st := []) (pc2 := 67) X dX10_carry_64 rfl ml_RX10_345 im_X10_crosses se_X10_crosses kX10 rfl (c_X10_crosses (d - 1) (by omega) C.1 C.2.2.1 l0 l1 l3 h1 h3) hy_X10_crosses rfl rfl hf hlo (st_room (Nat.le_of_ble_eq_true rfl)) hcs (fun _ => ?_)
              refine s_aload_n (j := 0) (pc2 := 68) X dX10_carry_67 rfl rfl ?_
              refine s_getR (pc2 := 71) X dX10_carry_68 rfl fl_RX10_39 rfl (fun v7 => ?_)
              refine s_bipush (n := 10) (pc2 := 73) X dX10_carry_71 rfl rfl ?_
              refine s_iconst (n := 3) (pc2 := 74) X dX10_carry_73 rfl ?_
              refine s_iload_n (j := 2) (pc2 := 75) X dX10_carry_74 rfl rfl ?_
              refine s_imul (pc2 := 76) X dX10_carry_75 rfl ?_
              refine s_iadd (pc2 := 77) X dX10_carry_76 rfl ?_
              refine s_aload_n (j := 0) (pc2 := 78) X dX10_carry_77 rfl rfl ?_
              refine s_iload_n (j := 1) (pc2 := 79) X dX10_carry_78 rfl rfl ?_
              refine s_iconst (n := 0) (pc2 := 80) X dX10_carry_79 rfl ?_
              refine s_callVI (d2 := d - 1) (As := [vI l1, vI 0]) (st := [vI ((w32 (10 + ((w32 (3 * l2)))))), vR C.1.1 v7]) (pc2 := 83) X dX10_carry_80 rfl ml_RX10_307 im_X10_personOf se_X10_personOf kX10 rfl (c_X10_personOf (d - 1) (by omega) C.1 C.2.2.1 l0 l1 0 h1 (inI_c 0 rfl)) hy_X10_personOf rfl rfl hf hlo (st_room (Nat.le_of_ble_eq_true rfl)) hcs (fun v8 hv8 => ?_)
              refine s_iast (pc2 := 84) X dX10_carry_83 rfl hv8 ?_
              refine s_aload_n (j := 0) (pc2 := 85) X dX10_carry_84 rfl rfl ?_
              refine s_iload_n (j := 1) (pc2 := 86) X dX10_carry_85 rfl rfl ?_
              refine s_iconst (n := 0) (pc2 := 87) X dX10_carry_86 rfl ?_
              refine s_callVI (d2 := d - 1) (As := [vI l1, vI 0]) (st := []) (pc2 := 90) X dX10_carry_87 rfl ml_RX10_307 im_X10_personOf se_X10_personOf kX10 rfl (c_X10_personOf (d - 1) (by omega) C.1 C.2.2.1 l0 l1 0 h1 (inI_c 0 rfl)) hy_X10_personOf rfl rfl hf hlo (st_room (Nat.le_of_ble_eq_true rfl)) hcs (fun v9 hv9 => ?_)
              exact s_iret X dX10_carry_90 hv9
            · refine s_sub (lv2 := []) [] rfl ?_
              exact z_X10_carry_L55 d hd K X
        · refine s_sub (lv2 := []) [] rfl ?_
          exact z_X10_carry_L29 d hd K X
theorem c_X10_carry (d : Nat) (hd : 4 ≤ d) (G : hG) (l : Launch) (l0 : Nat) (l1 : Int) (l2 : Int) (l3 : Int) (h1 : inI l1) (h2 : inI l2) (h3 : inI l3) : hMet G l yX10_carry cX10_carry 4 (some .int) d 0 0 [vR G.1 l0, vI l1, vI l2, vI l3] (m_X10_carry l0 l1 l2 l3) := by
  refine hMet.of (lv := [(0, vR G.1 l0), (1, vI l1), (2, vI l2), (3, vI l3)]) (by decide +kernel) (by simp [lg_sl, vR_cat, vI_cat, vL_cat, vS_cat2, vT_cat2]) (by simp [lv_args, vR_cat, vI_cat, vL_cat, vS_cat2, vT_cat2]) (fun C K X => ?_)
  obtain ⟨rfl, rfl, K⟩ := K
  exact z_X10_carry d hd ⟨rfl, rfl, K⟩ X l0 l1 l2 l3 h1 h2 h3
def m_X10_forgets_L2 : Nat → Nat → Int → Int → hM
  | 0, _, _, _ => hfail
  | n + 1, l0, l1, l2 =>
    hgR 10 l0 20 fun v1 =>
  haI 20 v1 4 fun v2 =>
  hif (l2 ≥ v2) (
hret 0) (
hgR 10 l0 20 fun v3 =>
  hsI 20 v3 ((w32 (((w32 (22 + ((w32 (9 * l2)))))) + l1))) 0 <|
  hgR 10 l0 20 fun v4 =>
  hsI 20 v4 ((w32 (((w32 (58 + ((w32 (9 * l2)))))) + l1))) 0 <|
  hlet (w32 (l2 + 1)) fun (w5 : Int) =>
  m_X10_forgets_L2 n l0 l1 w5)
def m_X10_forgets (l0 : Nat) (l1 : Int) : hM :=
  hlet (0 : Int) fun (w1 : Int) =>
  m_X10_forgets_L2 1000000000 l0 l1 w1
set_option maxRecDepth 4000 in
theorem z_X10_forgets_L2 (d : Nat) (hd : 1 ≤ d) {C : hCx} (K : hCtx C.1 C.2.2.1 d 0 0 "forgets" C) (X : hOK C cX10_forgets RX10 3 none) : ∀ (n : Nat) (l0 : Nat) (l1 : Int) (l2 : Int) (h1 : inI l1) (h2 : inI l2), hSim C none 0 0 3 2 [(0, vR C.1.1 l0), (1, vI l1), (2, vI l2)] [] 0 0 (m_X10_forgets_L2 n l0 l1 l2) := by
  obtain ⟨⟨hf, hlo⟩, ⟨hc1, hc2⟩, hf1, hl1⟩ := K_room K (by omega)
  have hcs : 0 ≤ C.2.2.2.2.1.cells ∧ 0 ≤ C.2.2.2.2.1.slots := ⟨Nat.zero_le _, Nat.zero_le _⟩
  intro n
  induction n with
  | zero => intros; exact s_none (fun _ => rfl)
  | succ n ih =>
    intro l0 l1 l2 h1 h2
    unfold m_X10_forgets_L2
    refine s_iload_n (j := 2) (pc2 := 3) X dX10_forgets_2 rfl rfl ?_
    refine s_aload_n (j := 0) (pc2 := 4) X dX10_forgets_3 rfl rfl ?_
    refine s_getR (pc2 := 7) X dX10_forgets_4 rfl fl_RX10_39 rfl (fun v1 => ?_)
    refine s_iconst (n := 4) (pc2 := 8) X dX10_forgets_7 rfl ?_
    refine s_iald (pc2 := 9) X dX10_forgets_8 rfl (fun v2 hv2 => ?_)
    refine s_icge (tgt := 48) X dX10_forgets_9 (by decide) rfl h2 hv2 ?_ ?_
    · exact s_ret X dX10_forgets_48
    · refine s_aload_n (j := 0) (pc2 := 13) X dX10_forgets_12 rfl rfl ?_
      refine s_getR (pc2 := 16) X dX10_forgets_13 rfl fl_RX10_39 rfl (fun v3 => ?_)
      refine s_bipush (n := 22) (pc2 := 18) X dX10_forgets_16 rfl rfl ?_
      refine s_bipush (n := 9) (pc2 := 20) X dX10_forgets_18 rfl rfl ?_
      refine s_iload_n (j := 2) (pc2 := 21) X dX10_forgets_20 rfl rfl ?_
      refine s_imul (pc2 := 22) X dX10_forgets_21 rfl ?_
      refine s_iadd (pc2 := 23) X dX10_forgets_22 rfl ?_
      refine s_iload_n (j := 1) (pc2 := 24) X dX10_forgets_23 rfl rfl ?_
      refine s_iadd (pc2 := 25) X dX10_forgets_24 rfl ?_
      refine s_iconst (n := 0) (pc2 := 26) X dX10_forgets_25 rfl ?_
      refine s_iast (pc2 := 27) X dX10_forgets_26 rfl (inI_c 0 rfl) ?_
      refine s_aload_n (j := 0) (pc2 := 28) X dX10_forgets_27 rfl rfl ?_
      refine s_getR (pc2 := 31) X dX10_forgets_28 rfl fl_RX10_39 rfl (fun v4 => ?_)
      refine s_bipush (n := 58) (pc2 := 33) X dX10_forgets_31 rfl rfl ?_
      refine s_bipush (n := 9) (pc2 := 35) X dX10_forgets_33 rfl rfl ?_
      refine s_iload_n (j := 2) (pc2 := 36) X dX10_forgets_35 rfl rfl ?_
      refine s_imul (pc2 := 37) X dX10_forgets_36 rfl ?_
      refine s_iadd (pc2 := 38) X dX10_forgets_37 rfl ?_
      refine s_iload_n (j := 1) (pc2 := 39) X dX10_forgets_38 rfl rfl ?_
      refine s_iadd (pc2 := 40) X dX10_forgets_39 rfl ?_
      refine s_iconst (n := 0) (pc2 := 41) X dX10_forgets_40 rfl ?_
      refine s_iast (pc2 := 42) X dX10_forgets_41 rfl (inI_c 0 rfl) ?_
      refine s_iinc (j := 2) (pc2 := 45) X dX10_forgets_42 rfl (by decide) rfl rfl rfl cat1_I (fun w5 hw5 => ?_)
      refine s_goto (pc2 := 2) X dX10_forgets_45 (by decide) ?_
      refine s_sub (lv2 := [(0, vR C.1.1 l0), (1, vI l1), (2, vI w5)]) [1, 2, 0] rfl ?_
      exact ih l0 l1 w5 h1 hw5
set_option maxRecDepth 4000 in
set_option maxHeartbeats 20000000 in
theorem z_X10_forgets (d : Nat) (hd : 1 ≤ d) {C : hCx} (K : hCtx C.1 C.2.2.1 d 0 0 "forgets" C) (X : hOK C cX10_forgets RX10 3 none) (l0 : Nat) (l1 : Int) (h1 : inI l1) : hSim C none 0 0 3 0 [(0, vR C.1.1 l0), (1, vI l1)] [] 0 0 (m_X10_forgets l0 l1) := by
  obtain ⟨⟨hf, hlo⟩, ⟨hc1, hc2⟩, hf1, hl1⟩ := K_room K (by omega)
  have hcs : 0 ≤ C.2.2.2.2.1.cells ∧ 0 ≤ C.2.2.2.2.1.slots := ⟨Nat.zero_le _, Nat.zero_le _⟩
  unfold m_X10_forgets
  refine s_iconst (n := 0) (pc2 := 1) X dX10_forgets_0 rfl ?_
  refine s_istore_n (pc2 := 2) X dX10_forgets_1 rfl (by decide) rfl rfl cat1_I (inI_c 0 rfl) (fun w1 hw1 => ?_)
  refine s_sub (lv2 := [(0, vR C.1.1 l0), (1, vI l1), (2, vI w1)]) [1, 2, 0] rfl ?_
  exact z_X10_forgets_L2 d hd K X 1000000000 l0 l1 w1 h1 hw1
theorem c_X10_forgets (d : Nat) (hd : 1 ≤ d) (G : hG) (l : Launch) (l0 : Nat) (l1 : Int) (h1 : inI l1) : hMet G l yX10_forgets cX10_forgets 3 none d 0 0 [vR G.1 l0, vI l1] (m_X10_forgets l0 l1) := by
  refine hMet.of (lv := [(0, vR G.1 l0), (1, vI l1)]) (by decide +kernel) (by simp [lg_sl, vR_cat, vI_cat, vL_cat, vS_cat2, vT_cat2]) (by simp [lv_args, vR_cat, vI_cat, vL_cat, vS_cat2, vT_cat2]) (fun C K X => ?_)
  obtain ⟨rfl, rfl, K⟩ := K
  exact z_X10_forgets d hd ⟨rfl, rfl, K⟩ X l0 l1 h1
def m_X10_rebuild_L16 : hM :=
  hret ((-1))
def m_X10_rebuild (l0 : Nat) (l1 : Int) : hM :=
  hcallV 10 l0 (m_X10_isBridge l0 l1) fun v1 =>
  hif (v1 = 0) (
m_X10_rebuild_L16) (
hcallV 10 l0 (m_X10_crossedByAll l0 l1) fun v2 =>
  hif (v2 ≠ 0) (
hcallV 10 l0 (m_X10_keepsAct l0) fun _ =>
  hcallV 10 l0 (m_X10_crossedByAll l0 l1) fun v3 =>
  hlet v3 fun (w4 : Int) =>
  hcallV 10 l0 (m_X10_forgets l0 l1) fun _ =>
  hret w4) (
m_X10_rebuild_L16))
set_option maxRecDepth 4000 in
theorem z_X10_rebuild_L16 (d : Nat) (hd : 3 ≤ d) {C : hCx} (K : hCtx C.1 C.2.2.1 d 0 0 "rebuild" C) (X : hOK C cX10_rebuild RX10 3 (some .int)) : hSim C (some .int) 0 0 3 16 [] [] 0 0 (m_X10_rebuild_L16) := by
  obtain ⟨⟨hf, hlo⟩, ⟨hc1, hc2⟩, hf1, hl1⟩ := K_room K (by omega)
  have hcs : 0 ≤ C.2.2.2.2.1.cells ∧ 0 ≤ C.2.2.2.2.1.slots := ⟨Nat.zero_le _, Nat.zero_le _⟩
  unfold m_X10_rebuild_L16
  refine s_iconst (n := (-1)) (pc2 := 17) X dX10_rebuild_16 rfl ?_
  exact s_iret X dX10_rebuild_17 (inI_c (-1) rfl)
set_option maxRecDepth 4000 in
set_option maxHeartbeats 20000000 in
theorem z_X10_rebuild (d : Nat) (hd : 3 ≤ d) {C : hCx} (K : hCtx C.1 C.2.2.1 d 0 0 "rebuild" C) (X : hOK C cX10_rebuild RX10 3 (some .int)) (l0 : Nat) (l1 : Int) (h1 : inI l1) : hSim C (some .int) 0 0 3 0 [(0, vR C.1.1 l0), (1, vI l1)] [] 0 0 (m_X10_rebuild l0 l1) := by
  obtain ⟨⟨hf, hlo⟩, ⟨hc1, hc2⟩, hf1, hl1⟩ := K_room K (by omega)
  have hcs : 0 ≤ C.2.2.2.2.1.cells ∧ 0 ≤ C.2.2.2.2.1.slots := ⟨Nat.zero_le _, Nat.zero_le _⟩
  unfold m_X10_rebuild
  refine s_aload_n (j := 0) (pc2 := 1) X dX10_rebuild_0 rfl rfl ?_
  refine s_iload_n (j := 1) (pc2 := 2) X dX10_rebuild_1 rfl rfl ?_
  refine s_callVZ (d2 := d - 1) (As := [vI l1]) (st := []) (pc2 := 5) X dX10_rebuild_2 rfl ml_RX10_328 im_X10_isBridge se_X10_isBridge kX10 rfl (c_X10_isBridge (d - 1) (by omega) C.1 C.2.2.1 l0 l1 h1) hy_X10_isBridge rfl rfl hf hlo (st_room (Nat.le_of_ble_eq_true rfl)) hcs (fun v1 hv1 => ?_)
  refine s_ifeq (tgt := 16) X dX10_rebuild_5 (by decide) rfl hv1 ?_ ?_
  · refine s_sub (lv2 := []) [] rfl ?_
    exact z_X10_rebuild_L16 d hd K X
  · refine s_aload_n (j := 0) (pc2 := 9) X dX10_rebuild_8 rfl rfl ?_
    refine s_iload_n (j := 1) (pc2 := 10) X dX10_rebuild_9 rfl rfl ?_
    refine s_callVI (d2 := d - 1) (As := [vI l1]) (st := []) (pc2 := 13) X dX10_rebuild_10 rfl ml_RX10_333 im_X10_crossedByAll se_X10_crossedByAll kX10 rfl (c_X10_crossedByAll (d - 1) (by omega) C.1 C.2.2.1 l0 l1 h1) hy_X10_crossedByAll rfl rfl hf hlo (st_room (Nat.le_of_ble_eq_true rfl)) hcs (fun v2 hv2 => ?_)
    refine s_ifne (tgt := 18) X dX10_rebuild_13 (by decide) rfl hv2 ?_ ?_
    · refine s_aload_n (j := 0) (pc2 := 19) X dX10_rebuild_18 rfl rfl ?_
      refine s_callVV (d2 := d - 1) (As := []) (st := []) (pc2 := 22) X dX10_rebuild_19 rfl ml_RX10_342 im_X10_keepsAct se_X10_keepsAct kX10 rfl (c_X10_keepsAct (d - 1) (by omega) C.1 C.2.2.1 l0) hy_X10_keepsAct rfl rfl hf hlo (st_room (Nat.le_of_ble_eq_true rfl)) hcs (fun _ => ?_)
      refine s_aload_n (j := 0) (pc2 := 23) X dX10_rebuild_22 rfl rfl ?_
      refine s_iload_n (j := 1) (pc2 := 24) X dX10_rebuild_23 rfl rfl ?_
      refine s_callVI (d2 := d - 1) (As := [vI l1]) (st := []) (pc2 := 27) X dX10_rebuild_24 rfl ml_RX10_333 im_X10_crossedByAll se_X10_crossedByAll kX10 rfl (c_X10_crossedByAll (d - 1) (by omega) C.1 C.2.2.1 l0 l1 h1) hy_X10_crossedByAll rfl rfl hf hlo (st_room (Nat.le_of_ble_eq_true rfl)) hcs (fun v3 hv3 => ?_)
      refine s_istore_n (pc2 := 28) X dX10_rebuild_27 rfl (by decide) rfl rfl cat1_I hv3 (fun w4 hw4 => ?_)
      refine s_aload_n (j := 1) (pc2 := 29) X dX10_rebuild_28 rfl rfl ?_
      refine s_iload_n (j := 2) (pc2 := 30) X dX10_rebuild_29 rfl rfl ?_
      refine s_callVV (d2 := d - 1) (As := [vI l1]) (st := []) (pc2 := 33) X dX10_rebuild_30 rfl ml_RX10_351 im_X10_forgets se_X10_forgets kX10 rfl (c_X10_forgets (d - 1) (by omega) C.1 C.2.2.1 l0 l1 h1) hy_X10_forgets rfl rfl hf hlo (st_room (Nat.le_of_ble_eq_true rfl)) hcs (fun _ => ?_)
      refine s_iload_n (j := 0) (pc2 := 34) X dX10_rebuild_33 rfl rfl ?_
      exact s_iret X dX10_rebuild_34 hw4
    · refine s_sub (lv2 := []) [] rfl ?_
      exact z_X10_rebuild_L16 d hd K X
theorem c_X10_rebuild (d : Nat) (hd : 3 ≤ d) (G : hG) (l : Launch) (l0 : Nat) (l1 : Int) (h1 : inI l1) : hMet G l yX10_rebuild cX10_rebuild 3 (some .int) d 0 0 [vR G.1 l0, vI l1] (m_X10_rebuild l0 l1) := by
  refine hMet.of (lv := [(0, vR G.1 l0), (1, vI l1)]) (by decide +kernel) (by simp [lg_sl, vR_cat, vI_cat, vL_cat, vS_cat2, vT_cat2]) (by simp [lv_args, vR_cat, vI_cat, vL_cat, vS_cat2, vT_cat2]) (fun C K X => ?_)
  obtain ⟨rfl, rfl, K⟩ := K
  exact z_X10_rebuild d hd ⟨rfl, rfl, K⟩ X l0 l1 h1
def m_X10_payAt_L79 (k6 : Nat → Int → Int → Int → Int → Int → hM) (l0 : Nat) (l1 : Int) (l2 : Int) (l3 : Int) (l5 : Int) (s0 : Int) (s1 : Int) : hM :=
  hlet ((w32 (s0 + s1))) fun (w1 : Int) =>
  hlet (w32 (l5 + 1)) fun (w2 : Int) =>
  k6 l0 l1 l2 l3 w1 w2
def m_X10_payAt_L78 (k6 : Nat → Int → Int → Int → Int → Int → hM) (l0 : Nat) (l1 : Int) (l2 : Int) (l3 : Int) (l5 : Int) (s0 : Int) : hM :=
  m_X10_payAt_L79 k6 l0 l1 l2 l3 l5 s0 0
def m_X10_payAt_L6 : Nat → Nat → Int → Int → Int → Int → Int → hM
  | 0, _, _, _, _, _, _ => hfail
  | n + 1, l0, l1, l2, l3, l4, l5 =>
    hgR 10 l0 20 fun v1 =>
  haI 20 v1 5 fun v2 =>
  hif (l5 ≥ v2) (
hret l4) (
hlet ((w32 (128 + ((w32 (4 * l5)))))) fun (w3 : Int) =>
  hgR 10 l0 20 fun v4 =>
  haI 20 v4 w3 fun v5 =>
  hif (v5 ≠ l1) (
m_X10_payAt_L78 (m_X10_payAt_L6 n) l0 l1 l2 l3 l5 l4) (
hgR 10 l0 20 fun v6 =>
  haI 20 v6 ((w32 (w3 + 1))) fun v7 =>
  hif (v7 ≠ l2) (
m_X10_payAt_L78 (m_X10_payAt_L6 n) l0 l1 l2 l3 l5 l4) (
hgR 10 l0 20 fun v8 =>
  haI 20 v8 ((w32 (w3 + 2))) fun v9 =>
  hif (v9 ≠ l3) (
m_X10_payAt_L78 (m_X10_payAt_L6 n) l0 l1 l2 l3 l5 l4) (
hgR 10 l0 20 fun v10 =>
  haI 20 v10 ((w32 (w3 + 3))) fun v11 =>
  m_X10_payAt_L79 (m_X10_payAt_L6 n) l0 l1 l2 l3 l5 l4 v11))))
def m_X10_payAt (l0 : Nat) (l1 : Int) (l2 : Int) (l3 : Int) : hM :=
  hlet (0 : Int) fun (w1 : Int) =>
  hlet (0 : Int) fun (w2 : Int) =>
  m_X10_payAt_L6 1000000000 l0 l1 l2 l3 w1 w2
set_option maxRecDepth 4000 in
theorem z_X10_payAt_L79 (d : Nat) (hd : 1 ≤ d) {C : hCx} (K : hCtx C.1 C.2.2.1 d 0 0 "payAt" C) (X : hOK C cX10_payAt RX10 7 (some .int)) (k6 : Nat → Int → Int → Int → Int → Int → hM) (hk6 : ∀ (l0 : Nat) (l1 : Int) (l2 : Int) (l3 : Int) (l4 : Int) (l5 : Int), inI l1 → inI l2 → inI l3 → inI l4 → inI l5 → hSim C (some .int) 0 0 7 6 [(0, vR C.1.1 l0), (1, vI l1), (2, vI l2), (3, vI l3), (4, vI l4), (5, vI l5)] [] 0 0 (k6 l0 l1 l2 l3 l4 l5)) (l0 : Nat) (l1 : Int) (l2 : Int) (l3 : Int) (l5 : Int) (s0 : Int) (s1 : Int) (h1 : inI l1) (h2 : inI l2) (h3 : inI l3) (h5 : inI l5) (g0 : inI s0) (g1 : inI s1) : hSim C (some .int) 0 0 7 79 [(0, vR C.1.1 l0), (1, vI l1), (2, vI l2), (3, vI l3), (5, vI l5)] [vI s1, vI s0] 0 0 (m_X10_payAt_L79 k6 l0 l1 l2 l3 l5 s0 s1) := by
  obtain ⟨⟨hf, hlo⟩, ⟨hc1, hc2⟩, hf1, hl1⟩ := K_room K (by omega)
  have hcs : 0 ≤ C.2.2.2.2.1.cells ∧ 0 ≤ C.2.2.2.2.1.slots := ⟨Nat.zero_le _, Nat.zero_le _⟩
  unfold m_X10_payAt_L79
  refine s_iadd (pc2 := 80) X dX10_payAt_79 rfl ?_
  refine s_istore (pc2 := 82) X dX10_payAt_80 rfl (by decide) rfl rfl cat1_I (w32_in _) (fun w1 hw1 => ?_)
  refine s_iinc (j := 5) (pc2 := 85) X dX10_payAt_82 rfl (by decide) rfl rfl rfl cat1_I (fun w2 hw2 => ?_)
  refine s_goto (pc2 := 6) X dX10_payAt_85 (by decide) ?_
  refine s_sub (lv2 := [(0, vR C.1.1 l0), (1, vI l1), (2, vI l2), (3, vI l3), (4, vI w1), (5, vI w2)]) [2, 3, 4, 5, 1, 0] rfl ?_
  exact hk6 l0 l1 l2 l3 w1 w2 h1 h2 h3 hw1 hw2
set_option maxRecDepth 4000 in
theorem z_X10_payAt_L78 (d : Nat) (hd : 1 ≤ d) {C : hCx} (K : hCtx C.1 C.2.2.1 d 0 0 "payAt" C) (X : hOK C cX10_payAt RX10 7 (some .int)) (k6 : Nat → Int → Int → Int → Int → Int → hM) (hk6 : ∀ (l0 : Nat) (l1 : Int) (l2 : Int) (l3 : Int) (l4 : Int) (l5 : Int), inI l1 → inI l2 → inI l3 → inI l4 → inI l5 → hSim C (some .int) 0 0 7 6 [(0, vR C.1.1 l0), (1, vI l1), (2, vI l2), (3, vI l3), (4, vI l4), (5, vI l5)] [] 0 0 (k6 l0 l1 l2 l3 l4 l5)) (l0 : Nat) (l1 : Int) (l2 : Int) (l3 : Int) (l5 : Int) (s0 : Int) (h1 : inI l1) (h2 : inI l2) (h3 : inI l3) (h5 : inI l5) (g0 : inI s0) : hSim C (some .int) 0 0 7 78 [(0, vR C.1.1 l0), (1, vI l1), (2, vI l2), (3, vI l3), (5, vI l5)] [vI s0] 0 0 (m_X10_payAt_L78 k6 l0 l1 l2 l3 l5 s0) := by
  obtain ⟨⟨hf, hlo⟩, ⟨hc1, hc2⟩, hf1, hl1⟩ := K_room K (by omega)
  have hcs : 0 ≤ C.2.2.2.2.1.cells ∧ 0 ≤ C.2.2.2.2.1.slots := ⟨Nat.zero_le _, Nat.zero_le _⟩
  unfold m_X10_payAt_L78
  refine s_iconst (n := 0) (pc2 := 79) X dX10_payAt_78 rfl ?_
  exact z_X10_payAt_L79 d hd K X k6 hk6 l0 l1 l2 l3 l5 s0 0 h1 h2 h3 h5 g0 (inI_c 0 rfl)
set_option maxRecDepth 4000 in
theorem z_X10_payAt_L6 (d : Nat) (hd : 1 ≤ d) {C : hCx} (K : hCtx C.1 C.2.2.1 d 0 0 "payAt" C) (X : hOK C cX10_payAt RX10 7 (some .int)) : ∀ (n : Nat) (l0 : Nat) (l1 : Int) (l2 : Int) (l3 : Int) (l4 : Int) (l5 : Int) (h1 : inI l1) (h2 : inI l2) (h3 : inI l3) (h4 : inI l4) (h5 : inI l5), hSim C (some .int) 0 0 7 6 [(0, vR C.1.1 l0), (1, vI l1), (2, vI l2), (3, vI l3), (4, vI l4), (5, vI l5)] [] 0 0 (m_X10_payAt_L6 n l0 l1 l2 l3 l4 l5) := by
  obtain ⟨⟨hf, hlo⟩, ⟨hc1, hc2⟩, hf1, hl1⟩ := K_room K (by omega)
  have hcs : 0 ≤ C.2.2.2.2.1.cells ∧ 0 ≤ C.2.2.2.2.1.slots := ⟨Nat.zero_le _, Nat.zero_le _⟩
  intro n
  induction n with
  | zero => intros; exact s_none (fun _ => rfl)
  | succ n ih =>
    intro l0 l1 l2 l3 l4 l5 h1 h2 h3 h4 h5
    unfold m_X10_payAt_L6
    refine s_iload (j := 5) (pc2 := 8) X dX10_payAt_6 rfl rfl ?_
    refine s_aload_n (j := 0) (pc2 := 9) X dX10_payAt_8 rfl rfl ?_
    refine s_getR (pc2 := 12) X dX10_payAt_9 rfl fl_RX10_39 rfl (fun v1 => ?_)
    refine s_iconst (n := 5) (pc2 := 13) X dX10_payAt_12 rfl ?_
    refine s_iald (pc2 := 14) X dX10_payAt_13 rfl (fun v2 hv2 => ?_)
    refine s_icge (tgt := 88) X dX10_payAt_14 (by decide) rfl h5 hv2 ?_ ?_
    · refine s_iload (j := 4) (pc2 := 90) X dX10_payAt_88 rfl rfl ?_
      exact s_iret X dX10_payAt_90 h4
    · refine s_sipush (n := 128) (pc2 := 20) X dX10_payAt_17 rfl rfl ?_
      refine s_iconst (n := 4) (pc2 := 21) X dX10_payAt_20 rfl ?_
      refine s_iload (j := 5) (pc2 := 23) X dX10_payAt_21 rfl rfl ?_
      refine s_imul (pc2 := 24) X dX10_payAt_23 rfl ?_
      refine s_iadd (pc2 := 25) X dX10_payAt_24 rfl ?_
      refine s_istore (pc2 := 27) X dX10_payAt_25 rfl (by decide) rfl rfl cat1_I (w32_in _) (fun w3 hw3 => ?_)
      refine s_iload (j := 5) (pc2 := 29) X dX10_payAt_27 rfl rfl ?_
      refine s_aload_n (j := 1) (pc2 := 30) X dX10_payAt_29 rfl rfl ?_
      refine s_getR (pc2 := 33) X dX10_payAt_30 rfl fl_RX10_39 rfl (fun v4 => ?_)
      refine s_iload (j := 0) (pc2 := 35) X dX10_payAt_33 rfl rfl ?_
      refine s_iald (pc2 := 36) X dX10_payAt_35 rfl (fun v5 hv5 => ?_)
      refine s_iload_n (j := 2) (pc2 := 37) X dX10_payAt_36 rfl rfl ?_
      refine s_icne (tgt := 78) X dX10_payAt_37 (by decide) rfl hv5 h1 ?_ ?_
      · refine s_sub (lv2 := [(0, vR C.1.1 l0), (1, vI l1), (2, vI l2), (3, vI l3), (5, vI l5)]) [1, 2, 3, 4, 6] rfl ?_
        exact z_X10_payAt_L78 d hd K X (m_X10_payAt_L6 n) ih l0 l1 l2 l3 l5 l4 h1 h2 h3 h5 h4
      · refine s_aload_n (j := 1) (pc2 := 41) X dX10_payAt_40 rfl rfl ?_
        refine s_getR (pc2 := 44) X dX10_payAt_41 rfl fl_RX10_39 rfl (fun v6 => ?_)
        refine s_iload (j := 0) (pc2 := 46) X dX10_payAt_44 rfl rfl ?_
        refine s_iconst (n := 1) (pc2 := 47) X dX10_payAt_46 rfl ?_
        refine s_iadd (pc2 := 48) X dX10_payAt_47 rfl ?_
        refine s_iald (pc2 := 49) X dX10_payAt_48 rfl (fun v7 hv7 => ?_)
        refine s_iload_n (j := 3) (pc2 := 50) X dX10_payAt_49 rfl rfl ?_
        refine s_icne (tgt := 78) X dX10_payAt_50 (by decide) rfl hv7 h2 ?_ ?_
        · refine s_sub (lv2 := [(0, vR C.1.1 l0), (1, vI l1), (2, vI l2), (3, vI l3), (5, vI l5)]) [1, 2, 3, 4, 6] rfl ?_
          exact z_X10_payAt_L78 d hd K X (m_X10_payAt_L6 n) ih l0 l1 l2 l3 l5 l4 h1 h2 h3 h5 h4
        · refine s_aload_n (j := 1) (pc2 := 54) X dX10_payAt_53 rfl rfl ?_
          refine s_getR (pc2 := 57) X dX10_payAt_54 rfl fl_RX10_39 rfl (fun v8 => ?_)
          refine s_iload (j := 0) (pc2 := 59) X dX10_payAt_57 rfl rfl ?_
          refine s_iconst (n := 2) (pc2 := 60) X dX10_payAt_59 rfl ?_
          refine s_iadd (pc2 := 61) X dX10_payAt_60 rfl ?_
          refine s_iald (pc2 := 62) X dX10_payAt_61 rfl (fun v9 hv9 => ?_)
          refine s_iload_n (j := 4) (pc2 := 63) X dX10_payAt_62 rfl rfl ?_
          refine s_icne (tgt := 78) X dX10_payAt_63 (by decide) rfl hv9 h3 ?_ ?_
          · refine s_sub (lv2 := [(0, vR C.1.1 l0), (1, vI l1), (2, vI l2), (3, vI l3), (5, vI l5)]) [1, 2, 3, 4, 6] rfl ?_
            exact z_X10_payAt_L78 d hd K X (m_X10_payAt_L6 n) ih l0 l1 l2 l3 l5 l4 h1 h2 h3 h5 h4
          · refine s_aload_n (j := 1) (pc2 := 67) X dX10_payAt_66 rfl rfl ?_
            refine s_getR (pc2 := 70) X dX10_payAt_67 rfl fl_RX10_39 rfl (fun v10 => ?_)
            refine s_iload (j := 0) (pc2 := 72) X dX10_payAt_70 rfl rfl ?_
            refine s_iconst (n := 3) (pc2 := 73) X dX10_payAt_72 rfl ?_
            refine s_iadd (pc2 := 74) X dX10_payAt_73 rfl ?_
            refine s_iald (pc2 := 75) X dX10_payAt_74 rfl (fun v11 hv11 => ?_)
            refine s_goto (pc2 := 79) X dX10_payAt_75 (by decide) ?_
            refine s_sub (lv2 := [(0, vR C.1.1 l0), (1, vI l1), (2, vI l2), (3, vI l3), (5, vI l5)]) [1, 2, 3, 4, 6] rfl ?_
            exact z_X10_payAt_L79 d hd K X (m_X10_payAt_L6 n) ih l0 l1 l2 l3 l5 l4 v11 h1 h2 h3 h5 h4 hv11
set_option maxRecDepth 4000 in
set_option maxHeartbeats 20000000 in
theorem z_X10_payAt (d : Nat) (hd : 1 ≤ d) {C : hCx} (K : hCtx C.1 C.2.2.1 d 0 0 "payAt" C) (X : hOK C cX10_payAt RX10 7 (some .int)) (l0 : Nat) (l1 : Int) (l2 : Int) (l3 : Int) (h1 : inI l1) (h2 : inI l2) (h3 : inI l3) : hSim C (some .int) 0 0 7 0 [(0, vR C.1.1 l0), (1, vI l1), (2, vI l2), (3, vI l3)] [] 0 0 (m_X10_payAt l0 l1 l2 l3) := by
  obtain ⟨⟨hf, hlo⟩, ⟨hc1, hc2⟩, hf1, hl1⟩ := K_room K (by omega)
  have hcs : 0 ≤ C.2.2.2.2.1.cells ∧ 0 ≤ C.2.2.2.2.1.slots := ⟨Nat.zero_le _, Nat.zero_le _⟩
  unfold m_X10_payAt
  refine s_iconst (n := 0) (pc2 := 1) X dX10_payAt_0 rfl ?_
  refine s_istore (pc2 := 3) X dX10_payAt_1 rfl (by decide) rfl rfl cat1_I (inI_c 0 rfl) (fun w1 hw1 => ?_)
  refine s_iconst (n := 0) (pc2 := 4) X dX10_payAt_3 rfl ?_
  refine s_istore (pc2 := 6) X dX10_payAt_4 rfl (by decide) rfl rfl cat1_I (inI_c 0 rfl) (fun w2 hw2 => ?_)
  refine s_sub (lv2 := [(0, vR C.1.1 l0), (1, vI l1), (2, vI l2), (3, vI l3), (4, vI w1), (5, vI w2)]) [2, 3, 4, 5, 1, 0] rfl ?_
  exact z_X10_payAt_L6 d hd K X 1000000000 l0 l1 l2 l3 w1 w2 h1 h2 h3 hw1 hw2
theorem c_X10_payAt (d : Nat) (hd : 1 ≤ d) (G : hG) (l : Launch) (l0 : Nat) (l1 : Int) (l2 : Int) (l3 : Int) (h1 : inI l1) (h2 : inI l2) (h3 : inI l3) : hMet G l yX10_payAt cX10_payAt 7 (some .int) d 0 0 [vR G.1 l0, vI l1, vI l2, vI l3] (m_X10_payAt l0 l1 l2 l3) := by
  refine hMet.of (lv := [(0, vR G.1 l0), (1, vI l1), (2, vI l2), (3, vI l3)]) (by decide +kernel) (by simp [lg_sl, vR_cat, vI_cat, vL_cat, vS_cat2, vT_cat2]) (by simp [lv_args, vR_cat, vI_cat, vL_cat, vS_cat2, vT_cat2]) (fun C K X => ?_)
  obtain ⟨rfl, rfl, K⟩ := K
  exact z_X10_payAt d hd ⟨rfl, rfl, K⟩ X l0 l1 l2 l3 h1 h2 h3
def m_X10_passes_L4 : Nat → Nat → Int → Int → hM
  | 0, _, _, _ => hfail
  | n + 1, l0, l1, l2 =>
    hgR 10 l0 20 fun v1 =>
  haI 20 v1 4 fun v2 =>
  hif (l2 ≥ v2) (
hgR 10 l0 20 fun v3 =>
  haI 20 v3 6 fun v4 =>
  hsI 20 v3 6 ((w32 (v4 + 1))) <|
  hret l1) (
hcallV 10 l0 (m_X10_personOf l0 l2 0) fun v5 =>
  hgR 10 l0 20 fun v6 =>
  haI 20 v6 6 fun v7 =>
  hcallV 10 l0 (m_X10_payAt l0 l2 v5 v7) fun v8 =>
  hlet v8 fun (w9 : Int) =>
  hgR 10 l0 20 fun v10 =>
  haI 20 v10 ((w32 (((w32 (10 + ((w32 (3 * l2)))))) + 2))) fun v11 =>
  hsI 20 v10 ((w32 (((w32 (10 + ((w32 (3 * l2)))))) + 2))) ((w32 (v11 + w9))) <|
  hlet ((w32 (l1 + w9))) fun (w12 : Int) =>
  hlet (w32 (l2 + 1)) fun (w13 : Int) =>
  m_X10_passes_L4 n l0 w12 w13)
def m_X10_passes (l0 : Nat) : hM :=
  hlet (0 : Int) fun (w1 : Int) =>
  hlet (0 : Int) fun (w2 : Int) =>
  m_X10_passes_L4 1000000000 l0 w1 w2
set_option maxRecDepth 4000 in
theorem z_X10_passes_L4 (d : Nat) (hd : 2 ≤ d) {C : hCx} (K : hCtx C.1 C.2.2.1 d 0 0 "passes" C) (X : hOK C cX10_passes RX10 4 (some .int)) : ∀ (n : Nat) (l0 : Nat) (l1 : Int) (l2 : Int) (h1 : inI l1) (h2 : inI l2), hSim C (some .int) 0 0 4 4 [(0, vR C.1.1 l0), (1, vI l1), (2, vI l2)] [] 0 0 (m_X10_passes_L4 n l0 l1 l2) := by
  obtain ⟨⟨hf, hlo⟩, ⟨hc1, hc2⟩, hf1, hl1⟩ := K_room K (by omega)
  have hcs : 0 ≤ C.2.2.2.2.1.cells ∧ 0 ≤ C.2.2.2.2.1.slots := ⟨Nat.zero_le _, Nat.zero_le _⟩
  intro n
  induction n with
  | zero => intros; exact s_none (fun _ => rfl)
  | succ n ih =>
    intro l0 l1 l2 h1 h2
    unfold m_X10_passes_L4
    refine s_iload_n (j := 2) (pc2 := 5) X dX10_passes_4 rfl rfl ?_
    refine s_aload_n (j := 0) (pc2 := 6) X dX10_passes_5 rfl rfl ?_
    refine s_getR (pc2 := 9) X dX10_passes_6 rfl fl_RX10_39 rfl (fun v1 => ?_)
    refine s_iconst (n := 4) (pc2 := 10) X dX10_passes_9 rfl ?_
    refine s_iald (pc2 := 11) X dX10_passes_10 rfl (fun v2 hv2 => ?_)
    refine s_icge (tgt := 60) X dX10_passes_11 (by decide) rfl h2 hv2 ?_ ?_
    · refine s_aload_n (j := 0) (pc2 := 61) X dX10_passes_60 rfl rfl ?_
      refine s_getR (pc2 := 64) X dX10_passes_61 rfl fl_RX10_39 rfl (fun v3 => ?_)
      refine s_bipush (n := 6) (pc2 := 66) X dX10_passes_64 rfl rfl ?_
      refine s_dup2 (pc2 := 67) X dX10_passes_66 rfl rfl (vR_cat _ _) ?_
      refine s_iald (pc2 := 68) X dX10_passes_67 rfl (fun v4 hv4 => ?_)
      refine s_iconst (n := 1) (pc2 := 69) X dX10_passes_68 rfl ?_
      refine s_iadd (pc2 := 70) X dX10_passes_69 rfl ?_
      refine s_iast (pc2 := 71) X dX10_passes_70 rfl (w32_in _) ?_
      refine s_iload_n (j := 1) (pc2 := 72) X dX10_passes_71 rfl rfl ?_
      exact s_iret X dX10_passes_72 h1
    · refine s_aload_n (j := 0) (pc2 := 15) X dX10_passes_14 rfl rfl ?_
      refine s_iload_n (j := 2) (pc2 := 16) X dX10_passes_15 rfl rfl ?_
      refine s_aload_n (j := 0) (pc2 := 17) X dX10_passes_16 rfl rfl ?_
      refine s_iload_n (j := 2) (pc2 := 18) X dX10_passes_17 rfl rfl ?_
      refine s_iconst (n := 0) (pc2 := 19) X dX10_passes_18 rfl ?_
      refine s_callVI (d2 := d - 1) (As := [vI l2, vI 0]) (st := [vI l2, vR C.1.1 l0]) (pc2 := 22) X dX10_passes_19 rfl ml_RX10_307 im_X10_personOf se_X10_personOf kX10 rfl (c_X10_personOf (d - 1) (by omega) C.1 C.2.2.1 l0 l2 0 h2 (inI_c 0 rfl)) hy_X10_personOf rfl rfl hf hlo (st_room (Nat.le_of_ble_eq_true rfl)) hcs (fun v5 hv5 => ?_)
      refine s_aload_n (j := 0) (pc2 := 23) X dX10_passes_22 rfl rfl ?_
      refine s_getR (pc2 := 26) X dX10_passes_23 rfl fl_RX10_39 rfl (fun v6 => ?_)
      refine s_bipush (n := 6) (pc2 := 28) X dX10_passes_26 rfl rfl ?_
      refine s_iald (pc2 := 29) X dX10_passes_28 rfl (fun v7 hv7 => ?_)
      refine s_callVI (d2 := d - 1) (As := [vI l2, vI v5, vI v7]) (st := []) (pc2 := 32) X dX10_passes_29 rfl ml_RX10_354 im_X10_payAt se_X10_payAt kX10 rfl (c_X10_payAt (d - 1) (by omega) C.1 C.2.2.1 l0 l2 v5 v7 h2 hv5 hv7) hy_X10_payAt rfl rfl hf hlo (st_room (Nat.le_of_ble_eq_true rfl)) hcs (fun v8 hv8 => ?_)
      refine s_istore_n (pc2 := 33) X dX10_passes_32 rfl (by decide) rfl rfl cat1_I hv8 (fun w9 hw9 => ?_)
      refine s_aload_n (j := 1) (pc2 := 34) X dX10_passes_33 rfl rfl ?_
      refine s_getR (pc2 := 37) X dX10_passes_34 rfl fl_RX10_39 rfl (fun v10 => ?_)
      refine s_bipush (n := 10) (pc2 := 39) X dX10_passes_37 rfl rfl ?_
      refine s_iconst (n := 3) (pc2 := 40) X dX10_passes_39 rfl ?_
      refine s_iload_n (j := 3) (pc2 := 41) X dX10_passes_40 rfl rfl ?_
      refine s_imul (pc2 := 42) X dX10_passes_41 rfl ?_
      refine s_iadd (pc2 := 43) X dX10_passes_42 rfl ?_
      refine s_iconst (n := 2) (pc2 := 44) X dX10_passes_43 rfl ?_
      refine s_iadd (pc2 := 45) X dX10_passes_44 rfl ?_
      refine s_dup2 (pc2 := 46) X dX10_passes_45 rfl rfl (vR_cat _ _) ?_
      refine s_iald (pc2 := 47) X dX10_passes_46 rfl (fun v11 hv11 => ?_)
      refine s_iload_n (j := 0) (pc2 := 48) X dX10_passes_47 rfl rfl ?_
      refine s_iadd (pc2 := 49) X dX10_passes_48 rfl ?_
      refine s_iast (pc2 := 50) X dX10_passes_49 rfl (w32_in _) ?_
      refine s_iload_n (j := 2) (pc2 := 51) X dX10_passes_50 rfl rfl ?_
      refine s_iload_n (j := 0) (pc2 := 52) X dX10_passes_51 rfl rfl ?_
      refine s_iadd (pc2 := 53) X dX10_passes_52 rfl ?_
      refine s_istore_n (pc2 := 54) X dX10_passes_53 rfl (by decide) rfl rfl cat1_R (w32_in _) (fun w12 hw12 => ?_)
      refine s_iinc (j := 3) (pc2 := 57) X dX10_passes_54 rfl (by decide) rfl rfl rfl cat1_I (fun w13 hw13 => ?_)
      refine s_goto (pc2 := 4) X dX10_passes_57 (by decide) ?_
      refine s_sub (lv2 := [(0, vR C.1.1 l0), (1, vI w12), (2, vI w13)]) [3, 1, 0] rfl ?_
      exact ih l0 w12 w13 hw12 hw13
set_option maxRecDepth 4000 in
set_option maxHeartbeats 20000000 in
theorem z_X10_passes (d : Nat) (hd : 2 ≤ d) {C : hCx} (K : hCtx C.1 C.2.2.1 d 0 0 "passes" C) (X : hOK C cX10_passes RX10 4 (some .int)) (l0 : Nat) : hSim C (some .int) 0 0 4 0 [(0, vR C.1.1 l0)] [] 0 0 (m_X10_passes l0) := by
  obtain ⟨⟨hf, hlo⟩, ⟨hc1, hc2⟩, hf1, hl1⟩ := K_room K (by omega)
  have hcs : 0 ≤ C.2.2.2.2.1.cells ∧ 0 ≤ C.2.2.2.2.1.slots := ⟨Nat.zero_le _, Nat.zero_le _⟩
  unfold m_X10_passes
  refine s_iconst (n := 0) (pc2 := 1) X dX10_passes_0 rfl ?_
  refine s_istore_n (pc2 := 2) X dX10_passes_1 rfl (by decide) rfl rfl cat1_R (inI_c 0 rfl) (fun w1 hw1 => ?_)
  refine s_iconst (n := 0) (pc2 := 3) X dX10_passes_2 rfl ?_
  refine s_istore_n (pc2 := 4) X dX10_passes_3 rfl (by decide) rfl rfl cat1_I (inI_c 0 rfl) (fun w2 hw2 => ?_)
  refine s_sub (lv2 := [(0, vR C.1.1 l0), (1, vI w1), (2, vI w2)]) [2, 1, 0] rfl ?_
  exact z_X10_passes_L4 d hd K X 1000000000 l0 w1 w2 hw1 hw2
theorem c_X10_passes (d : Nat) (hd : 2 ≤ d) (G : hG) (l : Launch) (l0 : Nat) : hMet G l yX10_passes cX10_passes 4 (some .int) d 0 0 [vR G.1 l0] (m_X10_passes l0) := by
  refine hMet.of (lv := [(0, vR G.1 l0)]) (by decide +kernel) (by simp [lg_sl, vR_cat, vI_cat, vL_cat, vS_cat2, vT_cat2]) (by simp [lv_args, vR_cat, vI_cat, vL_cat, vS_cat2, vT_cat2]) (fun C K X => ?_)
  obtain ⟨rfl, rfl, K⟩ := K
  exact z_X10_passes d hd ⟨rfl, rfl, K⟩ X l0
def m_X10_day_L20 : hM :=
  hret ((-1))
def m_X10_day (l0 : Nat) : hM :=
  hcallV 10 l0 (m_X10_isTown l0) fun v1 =>
  hif (v1 = 0) (
m_X10_day_L20) (
hgR 10 l0 20 fun v2 =>
  haI 20 v2 6 fun v3 =>
  hif (v3 ≠ 999) (
hcallV 10 l0 (m_X10_keepsAct l0) fun _ =>
  hcallV 10 l0 (m_X10_passes l0) fun v4 =>
  hret v4) (
m_X10_day_L20))
set_option maxRecDepth 4000 in
theorem z_X10_day_L20 (d : Nat) (hd : 3 ≤ d) {C : hCx} (K : hCtx C.1 C.2.2.1 d 0 0 "day" C) (X : hOK C cX10_day RX10 1 (some .int)) : hSim C (some .int) 0 0 1 20 [] [] 0 0 (m_X10_day_L20) := by
  obtain ⟨⟨hf, hlo⟩, ⟨hc1, hc2⟩, hf1, hl1⟩ := K_room K (by omega)
  have hcs : 0 ≤ C.2.2.2.2.1.cells ∧ 0 ≤ C.2.2.2.2.1.slots := ⟨Nat.zero_le _, Nat.zero_le _⟩
  unfold m_X10_day_L20
  refine s_iconst (n := (-1)) (pc2 := 21) X dX10_day_20 rfl ?_
  exact s_iret X dX10_day_21 (inI_c (-1) rfl)
set_option maxRecDepth 4000 in
set_option maxHeartbeats 20000000 in
theorem z_X10_day (d : Nat) (hd : 3 ≤ d) {C : hCx} (K : hCtx C.1 C.2.2.1 d 0 0 "day" C) (X : hOK C cX10_day RX10 1 (some .int)) (l0 : Nat) : hSim C (some .int) 0 0 1 0 [(0, vR C.1.1 l0)] [] 0 0 (m_X10_day l0) := by
  obtain ⟨⟨hf, hlo⟩, ⟨hc1, hc2⟩, hf1, hl1⟩ := K_room K (by omega)
  have hcs : 0 ≤ C.2.2.2.2.1.cells ∧ 0 ≤ C.2.2.2.2.1.slots := ⟨Nat.zero_le _, Nat.zero_le _⟩
  unfold m_X10_day
  refine s_aload_n (j := 0) (pc2 := 1) X dX10_day_0 rfl rfl ?_
  refine s_callVZ (d2 := d - 1) (As := []) (st := []) (pc2 := 4) X dX10_day_1 rfl ml_RX10_358 im_X10_isTown se_X10_isTown kX10 rfl (c_X10_isTown (d - 1) (by omega) C.1 C.2.2.1 l0) hy_X10_isTown rfl rfl hf hlo (st_room (Nat.le_of_ble_eq_true rfl)) hcs (fun v1 hv1 => ?_)
  refine s_ifeq (tgt := 20) X dX10_day_4 (by decide) rfl hv1 ?_ ?_
  · refine s_sub (lv2 := []) [] rfl ?_
    exact z_X10_day_L20 d hd K X
  · refine s_aload_n (j := 0) (pc2 := 8) X dX10_day_7 rfl rfl ?_
    refine s_getR (pc2 := 11) X dX10_day_8 rfl fl_RX10_39 rfl (fun v2 => ?_)
    refine s_bipush (n := 6) (pc2 := 13) X dX10_day_11 rfl rfl ?_
    refine s_iald (pc2 := 14) X dX10_day_13 rfl (fun v3 hv3 => ?_)
    refine s_sipush (n := 999) (pc2 := 17) X dX10_day_14 rfl rfl ?_
    refine s_icne (tgt := 22) X dX10_day_17 (by decide) rfl hv3 (inI_c 999 rfl) ?_ ?_
    · refine s_aload_n (j := 0) (pc2 := 23) X dX10_day_22 rfl rfl ?_
      refine s_callVV (d2 := d - 1) (As := []) (st := []) (pc2 := 26) X dX10_day_23 rfl ml_RX10_342 im_X10_keepsAct se_X10_keepsAct kX10 rfl (c_X10_keepsAct (d - 1) (by omega) C.1 C.2.2.1 l0) hy_X10_keepsAct rfl rfl hf hlo (st_room (Nat.le_of_ble_eq_true rfl)) hcs (fun _ => ?_)
      refine s_aload_n (j := 0) (pc2 := 27) X dX10_day_26 rfl rfl ?_
      refine s_callVI (d2 := d - 1) (As := []) (st := []) (pc2 := 30) X dX10_day_27 rfl ml_RX10_361 im_X10_passes se_X10_passes kX10 rfl (c_X10_passes (d - 1) (by omega) C.1 C.2.2.1 l0) hy_X10_passes rfl rfl hf hlo (st_room (Nat.le_of_ble_eq_true rfl)) hcs (fun v4 hv4 => ?_)
      exact s_iret X dX10_day_30 hv4
    · refine s_sub (lv2 := []) [] rfl ?_
      exact z_X10_day_L20 d hd K X
theorem c_X10_day (d : Nat) (hd : 3 ≤ d) (G : hG) (l : Launch) (l0 : Nat) : hMet G l yX10_day cX10_day 1 (some .int) d 0 0 [vR G.1 l0] (m_X10_day l0) := by
  refine hMet.of (lv := [(0, vR G.1 l0)]) (by decide +kernel) (by simp [lg_sl, vR_cat, vI_cat, vL_cat, vS_cat2, vT_cat2]) (by simp [lv_args, vR_cat, vI_cat, vL_cat, vS_cat2, vT_cat2]) (fun C K X => ?_)
  obtain ⟨rfl, rfl, K⟩ := K
  exact z_X10_day d hd ⟨rfl, rfl, K⟩ X l0
def m_X10_words_L292 (l0 : Nat) (l7 : Int) (s0 : Nat) (s1 : Int) (s2 : Int) : hM :=
  hsI 21 s0 s1 s2 <|
  hgR 10 l0 19 fun v1 =>
  hsI 21 v1 11 l7 <|
  hret 0
def m_X10_words_L271 (l0 : Nat) (l7 : Int) (s0 : Nat) (s1 : Int) : hM :=
  m_X10_words_L292 l0 l7 s0 s1 99
def m_X10_words_L241 (l0 : Nat) (l3 : Int) (l4 : Int) (l7 : Int) (s0 : Nat) (s1 : Int) (s2 : Int) : hM :=
  hsI 21 s0 s1 s2 <|
  hgR 10 l0 19 fun v1 =>
  hgR 10 l0 23 fun v2 =>
  haI 20 v2 l3 fun v3 =>
  hif (v3 = 99) (
m_X10_words_L271 l0 l7 v1 10) (
hgR 10 l0 23 fun v4 =>
  haI 20 v4 l4 fun v5 =>
  hif (v5 ≠ 99) (
hgR 10 l0 23 fun v6 =>
  haI 20 v6 l3 fun v7 =>
  hgR 10 l0 23 fun v8 =>
  haI 20 v8 l4 fun v9 =>
  m_X10_words_L292 l0 l7 v1 10 ((w32 (v7 - v9)))) (
m_X10_words_L271 l0 l7 v1 10))
def m_X10_words_L201 (l0 : Nat) (l3 : Int) (l4 : Int) (l5 : Int) (l7 : Int) (s0 : Nat) (s1 : Int) (s2 : Int) : hM :=
  hsI 21 s0 s1 s2 <|
  hgR 10 l0 19 fun v1 =>
  hif (l5 ≥ 0) (
hgR 10 l0 20 fun v2 =>
  haI 20 v2 ((w32 (((w32 (128 + ((w32 (4 * l5)))))) + 2))) fun v3 =>
  hgR 10 l0 20 fun v4 =>
  haI 20 v4 6 fun v5 =>
  m_X10_words_L241 l0 l3 l4 l7 v1 9 ((w32 (v3 - v5)))) (
m_X10_words_L241 l0 l3 l4 l7 v1 9 0)
def m_X10_words_L70 (k35 : Nat → Int → Int → Int → Int → Int → Int → Int → Int → hM) (l0 : Nat) (l1 : Int) (l2 : Int) (l3 : Int) (l4 : Int) (l5 : Int) (l6 : Int) (l8 : Int) (s0 : Int) (s1 : Int) : hM :=
  hlet ((w32 (s0 + s1))) fun (w1 : Int) =>
  hlet (w32 (l8 + 1)) fun (w2 : Int) =>
  k35 l0 l1 l2 l3 l4 l5 l6 w1 w2
def m_X10_words_L69 (k35 : Nat → Int → Int → Int → Int → Int → Int → Int → Int → hM) (l0 : Nat) (l1 : Int) (l2 : Int) (l3 : Int) (l4 : Int) (l5 : Int) (l6 : Int) (l8 : Int) (s0 : Int) : hM :=
  m_X10_words_L70 k35 l0 l1 l2 l3 l4 l5 l6 l8 s0 0
def m_X10_words_L35 : Nat → Nat → Int → Int → Int → Int → Int → Int → Int → Int → hM
  | 0, _, _, _, _, _, _, _, _, _ => hfail
  | n + 1, l0, l1, l2, l3, l4, l5, l6, l7, l8 =>
    hgR 10 l0 20 fun v1 =>
  haI 20 v1 4 fun v2 =>
  hif (l8 ≥ v2) (
hcallV 10 l0 (m_X10_fillsWays l0 ((-1)) l6) fun _ =>
  hgR 10 l0 19 fun v3 =>
  hsI 21 v3 0 l1 <|
  hgR 10 l0 19 fun v4 =>
  hsI 21 v4 1 l2 <|
  hgR 10 l0 19 fun v5 =>
  hsI 21 v5 2 l3 <|
  hgR 10 l0 19 fun v6 =>
  hsI 21 v6 3 l4 <|
  hgR 10 l0 19 fun v7 =>
  hcallV 10 l0 (m_X10_personOf l0 l1 1) fun v8 =>
  hsI 21 v7 4 v8 <|
  hgR 10 l0 19 fun v9 =>
  hcallV 10 l0 (m_X10_leftOf l0 l1 l2) fun v10 =>
  hsI 21 v9 5 v10 <|
  hgR 10 l0 19 fun v11 =>
  hgR 10 l0 20 fun v12 =>
  haI 20 v12 6 fun v13 =>
  hsI 21 v11 6 v13 <|
  hgR 10 l0 19 fun v14 =>
  hsI 21 v14 7 l6 <|
  hgR 10 l0 19 fun v15 =>
  hif (l5 ≥ 0) (
hgR 10 l0 20 fun v16 =>
  haI 20 v16 ((w32 (((w32 (128 + ((w32 (4 * l5)))))) + 3))) fun v17 =>
  m_X10_words_L201 l0 l3 l4 l5 l7 v15 8 v17) (
m_X10_words_L201 l0 l3 l4 l5 l7 v15 8 0)) (
hif (l8 = l1) (
m_X10_words_L69 (m_X10_words_L35 n) l0 l1 l2 l3 l4 l5 l6 l8 l7) (
hcallV 10 l0 (m_X10_personOf l0 l8 0) fun v18 =>
  hif (v18 ≠ l3) (
m_X10_words_L69 (m_X10_words_L35 n) l0 l1 l2 l3 l4 l5 l6 l8 l7) (
m_X10_words_L70 (m_X10_words_L35 n) l0 l1 l2 l3 l4 l5 l6 l8 l7 1)))
def m_X10_words (l0 : Nat) (l1 : Int) (l2 : Int) : hM :=
  hcallV 10 l0 (m_X10_personOf l0 l1 0) fun v1 =>
  hlet v1 fun (w2 : Int) =>
  hcallV 10 l0 (m_X10_over l0 l2 w2) fun v3 =>
  hlet v3 fun (w4 : Int) =>
  hcallV 10 l0 (m_X10_nextWant l0 l1) fun v5 =>
  hlet v5 fun (w6 : Int) =>
  hcallV 10 l0 (m_X10_goalOf l0 l1) fun v7 =>
  hlet v7 fun (w8 : Int) =>
  hlet (0 : Int) fun (w9 : Int) =>
  hlet (0 : Int) fun (w10 : Int) =>
  m_X10_words_L35 1000000000 l0 l1 l2 w2 w4 w6 w8 w9 w10
set_option maxRecDepth 4000 in
theorem z_X10_words_L292 (d : Nat) (hd : 4 ≤ d) {C : hCx} (K : hCtx C.1 C.2.2.1 d 0 0 "words" C) (X : hOK C cX10_words RX10 9 none) (l0 : Nat) (l7 : Int) (s0 : Nat) (s1 : Int) (s2 : Int) (h7 : inI l7) (g1 : inI s1) (g2 : inL s2) : hSim C none 0 0 9 292 [(0, vR C.1.1 l0), (7, vI l7)] [vL s2, vI s1, vR C.1.1 s0] 0 0 (m_X10_words_L292 l0 l7 s0 s1 s2) := by
  obtain ⟨⟨hf, hlo⟩, ⟨hc1, hc2⟩, hf1, hl1⟩ := K_room K (by omega)
  have hcs : 0 ≤ C.2.2.2.2.1.cells ∧ 0 ≤ C.2.2.2.2.1.slots := ⟨Nat.zero_le _, Nat.zero_le _⟩
  unfold m_X10_words_L292
  refine s_last (pc2 := 293) X dX10_words_292 rfl g2 ?_
  refine s_aload_n (j := 0) (pc2 := 294) X dX10_words_293 rfl rfl ?_
  refine s_getR (pc2 := 297) X dX10_words_294 rfl fl_RX10_36 rfl (fun v1 => ?_)
  refine s_bipush (n := 11) (pc2 := 299) X dX10_words_297 rfl rfl ?_
  refine s_iload (j := 1) (pc2 := 301) X dX10_words_299 rfl rfl ?_
  refine s_i2l (pc2 := 302) X dX10_words_301 rfl h7 ?_
  refine s_last (pc2 := 303) X dX10_words_302 rfl (inL_of h7) ?_
  exact s_ret X dX10_words_303
set_option maxRecDepth 4000 in
theorem z_X10_words_L271 (d : Nat) (hd : 4 ≤ d) {C : hCx} (K : hCtx C.1 C.2.2.1 d 0 0 "words" C) (X : hOK C cX10_words RX10 9 none) (l0 : Nat) (l7 : Int) (s0 : Nat) (s1 : Int) (h7 : inI l7) (g1 : inI s1) : hSim C none 0 0 9 271 [(0, vR C.1.1 l0), (7, vI l7)] [vI s1, vR C.1.1 s0] 0 0 (m_X10_words_L271 l0 l7 s0 s1) := by
  obtain ⟨⟨hf, hlo⟩, ⟨hc1, hc2⟩, hf1, hl1⟩ := K_room K (by omega)
  have hcs : 0 ≤ C.2.2.2.2.1.cells ∧ 0 ≤ C.2.2.2.2.1.slots := ⟨Nat.zero_le _, Nat.zero_le _⟩
  unfold m_X10_words_L271
  refine s_ldc2 (z := 99) (pc2 := 274) X dX10_words_271 rfl kc_RX10_364 ?_
  refine s_goto (pc2 := 292) X dX10_words_274 (by decide) ?_
  exact z_X10_words_L292 d hd K X l0 l7 s0 s1 99 h7 g1 (inL_c 99 rfl)
set_option maxRecDepth 4000 in
theorem z_X10_words_L241 (d : Nat) (hd : 4 ≤ d) {C : hCx} (K : hCtx C.1 C.2.2.1 d 0 0 "words" C) (X : hOK C cX10_words RX10 9 none) (l0 : Nat) (l3 : Int) (l4 : Int) (l7 : Int) (s0 : Nat) (s1 : Int) (s2 : Int) (h3 : inI l3) (h4 : inI l4) (h7 : inI l7) (g1 : inI s1) (g2 : inL s2) : hSim C none 0 0 9 241 [(0, vR C.1.1 l0), (3, vI l3), (4, vI l4), (7, vI l7)] [vL s2, vI s1, vR C.1.1 s0] 0 0 (m_X10_words_L241 l0 l3 l4 l7 s0 s1 s2) := by
  obtain ⟨⟨hf, hlo⟩, ⟨hc1, hc2⟩, hf1, hl1⟩ := K_room K (by omega)
  have hcs : 0 ≤ C.2.2.2.2.1.cells ∧ 0 ≤ C.2.2.2.2.1.slots := ⟨Nat.zero_le _, Nat.zero_le _⟩
  unfold m_X10_words_L241
  refine s_last (pc2 := 242) X dX10_words_241 rfl g2 ?_
  refine s_aload_n (j := 0) (pc2 := 243) X dX10_words_242 rfl rfl ?_
  refine s_getR (pc2 := 246) X dX10_words_243 rfl fl_RX10_36 rfl (fun v1 => ?_)
  refine s_bipush (n := 10) (pc2 := 248) X dX10_words_246 rfl rfl ?_
  refine s_aload_n (j := 0) (pc2 := 249) X dX10_words_248 rfl rfl ?_
  refine s_getR (pc2 := 252) X dX10_words_249 rfl fl_RX10_45 rfl (fun v2 => ?_)
  refine s_iload_n (j := 1) (pc2 := 253) X dX10_words_252 rfl rfl ?_
  refine s_iald (pc2 := 254) X dX10_words_253 rfl (fun v3 hv3 => ?_)
  refine s_bipush (n := 99) (pc2 := 256) X dX10_words_254 rfl rfl ?_
  refine s_iceq (tgt := 271) X dX10_words_256 (by decide) rfl hv3 (inI_c 99 rfl) ?_ ?_
  · refine s_sub (lv2 := [(0, vR C.1.1 l0), (7, vI l7)]) [0, 3] rfl ?_
    exact z_X10_words_L271 d hd K X l0 l7 v1 10 h7 (inI_c 10 rfl)
  · refine s_aload_n (j := 0) (pc2 := 260) X dX10_words_259 rfl rfl ?_
    refine s_getR (pc2 := 263) X dX10_words_260 rfl fl_RX10_45 rfl (fun v4 => ?_)
    refine s_iload (j := 2) (pc2 := 265) X dX10_words_263 rfl rfl ?_
    refine s_iald (pc2 := 266) X dX10_words_265 rfl (fun v5 hv5 => ?_)
    refine s_bipush (n := 99) (pc2 := 268) X dX10_words_266 rfl rfl ?_
    refine s_icne (tgt := 277) X dX10_words_268 (by decide) rfl hv5 (inI_c 99 rfl) ?_ ?_
    · refine s_aload_n (j := 0) (pc2 := 278) X dX10_words_277 rfl rfl ?_
      refine s_getR (pc2 := 281) X dX10_words_278 rfl fl_RX10_45 rfl (fun v6 => ?_)
      refine s_iload_n (j := 1) (pc2 := 282) X dX10_words_281 rfl rfl ?_
      refine s_iald (pc2 := 283) X dX10_words_282 rfl (fun v7 hv7 => ?_)
      refine s_aload_n (j := 0) (pc2 := 284) X dX10_words_283 rfl rfl ?_
      refine s_getR (pc2 := 287) X dX10_words_284 rfl fl_RX10_45 rfl (fun v8 => ?_)
      refine s_iload (j := 2) (pc2 := 289) X dX10_words_287 rfl rfl ?_
      refine s_iald (pc2 := 290) X dX10_words_289 rfl (fun v9 hv9 => ?_)
      refine s_isub (pc2 := 291) X dX10_words_290 rfl ?_
      refine s_i2l (pc2 := 292) X dX10_words_291 rfl (w32_in _) ?_
      refine s_sub (lv2 := [(0, vR C.1.1 l0), (7, vI l7)]) [0, 3] rfl ?_
      exact z_X10_words_L292 d hd K X l0 l7 v1 10 ((w32 (v7 - v9))) h7 (inI_c 10 rfl) (inL_of (w32_in _))
    · refine s_sub (lv2 := [(0, vR C.1.1 l0), (7, vI l7)]) [0, 3] rfl ?_
      exact z_X10_words_L271 d hd K X l0 l7 v1 10 h7 (inI_c 10 rfl)
set_option maxRecDepth 4000 in
theorem z_X10_words_L201 (d : Nat) (hd : 4 ≤ d) {C : hCx} (K : hCtx C.1 C.2.2.1 d 0 0 "words" C) (X : hOK C cX10_words RX10 9 none) (l0 : Nat) (l3 : Int) (l4 : Int) (l5 : Int) (l7 : Int) (s0 : Nat) (s1 : Int) (s2 : Int) (h3 : inI l3) (h4 : inI l4) (h5 : inI l5) (h7 : inI l7) (g1 : inI s1) (g2 : inL s2) : hSim C none 0 0 9 201 [(0, vR C.1.1 l0), (3, vI l3), (4, vI l4), (5, vI l5), (7, vI l7)] [vL s2, vI s1, vR C.1.1 s0] 0 0 (m_X10_words_L201 l0 l3 l4 l5 l7 s0 s1 s2) := by
  obtain ⟨⟨hf, hlo⟩, ⟨hc1, hc2⟩, hf1, hl1⟩ := K_room K (by omega)
  have hcs : 0 ≤ C.2.2.2.2.1.cells ∧ 0 ≤ C.2.2.2.2.1.slots := ⟨Nat.zero_le _, Nat.zero_le _⟩
  unfold m_X10_words_L201
  refine s_last (pc2 := 202) X dX10_words_201 rfl g2 ?_
  refine s_aload_n (j := 0) (pc2 := 203) X dX10_words_202 rfl rfl ?_
  refine s_getR (pc2 := 206) X dX10_words_203 rfl fl_RX10_36 rfl (fun v1 => ?_)
  refine s_bipush (n := 9) (pc2 := 208) X dX10_words_206 rfl rfl ?_
  refine s_iload (j := 3) (pc2 := 210) X dX10_words_208 rfl rfl ?_
  refine s_ifge (tgt := 217) X dX10_words_210 (by decide) rfl h5 ?_ ?_
  · refine s_aload_n (j := 0) (pc2 := 218) X dX10_words_217 rfl rfl ?_
    refine s_getR (pc2 := 221) X dX10_words_218 rfl fl_RX10_39 rfl (fun v2 => ?_)
    refine s_sipush (n := 128) (pc2 := 224) X dX10_words_221 rfl rfl ?_
    refine s_iconst (n := 4) (pc2 := 225) X dX10_words_224 rfl ?_
    refine s_iload (j := 3) (pc2 := 227) X dX10_words_225 rfl rfl ?_
    refine s_imul (pc2 := 228) X dX10_words_227 rfl ?_
    refine s_iadd (pc2 := 229) X dX10_words_228 rfl ?_
    refine s_iconst (n := 2) (pc2 := 230) X dX10_words_229 rfl ?_
    refine s_iadd (pc2 := 231) X dX10_words_230 rfl ?_
    refine s_iald (pc2 := 232) X dX10_words_231 rfl (fun v3 hv3 => ?_)
    refine s_aload_n (j := 0) (pc2 := 233) X dX10_words_232 rfl rfl ?_
    refine s_getR (pc2 := 236) X dX10_words_233 rfl fl_RX10_39 rfl (fun v4 => ?_)
    refine s_bipush (n := 6) (pc2 := 238) X dX10_words_236 rfl rfl ?_
    refine s_iald (pc2 := 239) X dX10_words_238 rfl (fun v5 hv5 => ?_)
    refine s_isub (pc2 := 240) X dX10_words_239 rfl ?_
    refine s_i2l (pc2 := 241) X dX10_words_240 rfl (w32_in _) ?_
    refine s_sub (lv2 := [(0, vR C.1.1 l0), (3, vI l3), (4, vI l4), (7, vI l7)]) [0, 1, 2, 4] rfl ?_
    exact z_X10_words_L241 d hd K X l0 l3 l4 l7 v1 9 ((w32 (v3 - v5))) h3 h4 h7 (inI_c 9 rfl) (inL_of (w32_in _))
  · refine s_lconst (z := 0) (pc2 := 214) X dX10_words_213 rfl rfl ?_
    refine s_goto (pc2 := 241) X dX10_words_214 (by decide) ?_
    refine s_sub (lv2 := [(0, vR C.1.1 l0), (3, vI l3), (4, vI l4), (7, vI l7)]) [0, 1, 2, 4] rfl ?_
    exact z_X10_words_L241 d hd K X l0 l3 l4 l7 v1 9 0 h3 h4 h7 (inI_c 9 rfl) (inL_c 0 rfl)
set_option maxRecDepth 4000 in
theorem z_X10_words_L70 (d : Nat) (hd : 4 ≤ d) {C : hCx} (K : hCtx C.1 C.2.2.1 d 0 0 "words" C) (X : hOK C cX10_words RX10 9 none) (k35 : Nat → Int → Int → Int → Int → Int → Int → Int → Int → hM) (hk35 : ∀ (l0 : Nat) (l1 : Int) (l2 : Int) (l3 : Int) (l4 : Int) (l5 : Int) (l6 : Int) (l7 : Int) (l8 : Int), inI l1 → inI l2 → inI l3 → inI l4 → inI l5 → inI l6 → inI l7 → inI l8 → hSim C none 0 0 9 35 [(0, vR C.1.1 l0), (1, vI l1), (2, vI l2), (3, vI l3), (4, vI l4), (5, vI l5), (6, vI l6), (7, vI l7), (8, vI l8)] [] 0 0 (k35 l0 l1 l2 l3 l4 l5 l6 l7 l8)) (l0 : Nat) (l1 : Int) (l2 : Int) (l3 : Int) (l4 : Int) (l5 : Int) (l6 : Int) (l8 : Int) (s0 : Int) (s1 : Int) (h1 : inI l1) (h2 : inI l2) (h3 : inI l3) (h4 : inI l4) (h5 : inI l5) (h6 : inI l6) (h8 : inI l8) (g0 : inI s0) (g1 : inI s1) : hSim C none 0 0 9 70 [(0, vR C.1.1 l0), (1, vI l1), (2, vI l2), (3, vI l3), (4, vI l4), (5, vI l5), (6, vI l6), (8, vI l8)] [vI s1, vI s0] 0 0 (m_X10_words_L70 k35 l0 l1 l2 l3 l4 l5 l6 l8 s0 s1) := by
  obtain ⟨⟨hf, hlo⟩, ⟨hc1, hc2⟩, hf1, hl1⟩ := K_room K (by omega)
  have hcs : 0 ≤ C.2.2.2.2.1.cells ∧ 0 ≤ C.2.2.2.2.1.slots := ⟨Nat.zero_le _, Nat.zero_le _⟩
  unfold m_X10_words_L70
  refine s_iadd (pc2 := 71) X dX10_words_70 rfl ?_
  refine s_istore (pc2 := 73) X dX10_words_71 rfl (by decide) rfl rfl cat1_I (w32_in _) (fun w1 hw1 => ?_)
  refine s_iinc (j := 8) (pc2 := 76) X dX10_words_73 rfl (by decide) rfl rfl rfl cat1_I (fun w2 hw2 => ?_)
  refine s_goto (pc2 := 35) X dX10_words_76 (by decide) ?_
  refine s_sub (lv2 := [(0, vR C.1.1 l0), (1, vI l1), (2, vI l2), (3, vI l3), (4, vI l4), (5, vI l5), (6, vI l6), (7, vI w1), (8, vI w2)]) [2, 3, 4, 5, 6, 7, 8, 1, 0] rfl ?_
  exact hk35 l0 l1 l2 l3 l4 l5 l6 w1 w2 h1 h2 h3 h4 h5 h6 hw1 hw2
set_option maxRecDepth 4000 in
theorem z_X10_words_L69 (d : Nat) (hd : 4 ≤ d) {C : hCx} (K : hCtx C.1 C.2.2.1 d 0 0 "words" C) (X : hOK C cX10_words RX10 9 none) (k35 : Nat → Int → Int → Int → Int → Int → Int → Int → Int → hM) (hk35 : ∀ (l0 : Nat) (l1 : Int) (l2 : Int) (l3 : Int) (l4 : Int) (l5 : Int) (l6 : Int) (l7 : Int) (l8 : Int), inI l1 → inI l2 → inI l3 → inI l4 → inI l5 → inI l6 → inI l7 → inI l8 → hSim C none 0 0 9 35 [(0, vR C.1.1 l0), (1, vI l1), (2, vI l2), (3, vI l3), (4, vI l4), (5, vI l5), (6, vI l6), (7, vI l7), (8, vI l8)] [] 0 0 (k35 l0 l1 l2 l3 l4 l5 l6 l7 l8)) (l0 : Nat) (l1 : Int) (l2 : Int) (l3 : Int) (l4 : Int) (l5 : Int) (l6 : Int) (l8 : Int) (s0 : Int) (h1 : inI l1) (h2 : inI l2) (h3 : inI l3) (h4 : inI l4) (h5 : inI l5) (h6 : inI l6) (h8 : inI l8) (g0 : inI s0) : hSim C none 0 0 9 69 [(0, vR C.1.1 l0), (1, vI l1), (2, vI l2), (3, vI l3), (4, vI l4), (5, vI l5), (6, vI l6), (8, vI l8)] [vI s0] 0 0 (m_X10_words_L69 k35 l0 l1 l2 l3 l4 l5 l6 l8 s0) := by
  obtain ⟨⟨hf, hlo⟩, ⟨hc1, hc2⟩, hf1, hl1⟩ := K_room K (by omega)
  have hcs : 0 ≤ C.2.2.2.2.1.cells ∧ 0 ≤ C.2.2.2.2.1.slots := ⟨Nat.zero_le _, Nat.zero_le _⟩
  unfold m_X10_words_L69
  refine s_iconst (n := 0) (pc2 := 70) X dX10_words_69 rfl ?_
  exact z_X10_words_L70 d hd K X k35 hk35 l0 l1 l2 l3 l4 l5 l6 l8 s0 0 h1 h2 h3 h4 h5 h6 h8 g0 (inI_c 0 rfl)
set_option maxRecDepth 4000 in
theorem z_X10_words_L35 (d : Nat) (hd : 4 ≤ d) {C : hCx} (K : hCtx C.1 C.2.2.1 d 0 0 "words" C) (X : hOK C cX10_words RX10 9 none) : ∀ (n : Nat) (l0 : Nat) (l1 : Int) (l2 : Int) (l3 : Int) (l4 : Int) (l5 : Int) (l6 : Int) (l7 : Int) (l8 : Int) (h1 : inI l1) (h2 : inI l2) (h3 : inI l3) (h4 : inI l4) (h5 : inI l5) (h6 : inI l6) (h7 : inI l7) (h8 : inI l8), hSim C none 0 0 9 35 [(0, vR C.1.1 l0), (1, vI l1), (2, vI l2), (3, vI l3), (4, vI l4), (5, vI l5), (6, vI l6), (7, vI l7), (8, vI l8)] [] 0 0 (m_X10_words_L35 n l0 l1 l2 l3 l4 l5 l6 l7 l8) := by
  obtain ⟨⟨hf, hlo⟩, ⟨hc1, hc2⟩, hf1, hl1⟩ := K_room K (by omega)
  have hcs : 0 ≤ C.2.2.2.2.1.cells ∧ 0 ≤ C.2.2.2.2.1.slots := ⟨Nat.zero_le _, Nat.zero_le _⟩
  intro n
  induction n with
  | zero => intros; exact s_none (fun _ => rfl)
  | succ n ih =>
    intro l0 l1 l2 l3 l4 l5 l6 l7 l8 h1 h2 h3 h4 h5 h6 h7 h8
    unfold m_X10_words_L35
    refine s_iload (j := 8) (pc2 := 37) X dX10_words_35 rfl rfl ?_
    refine s_aload_n (j := 0) (pc2 := 38) X dX10_words_37 rfl rfl ?_
    refine s_getR (pc2 := 41) X dX10_words_38 rfl fl_RX10_39 rfl (fun v1 => ?_)
    refine s_iconst (n := 4) (pc2 := 42) X dX10_words_41 rfl ?_
    refine s_iald (pc2 := 43) X dX10_words_42 rfl (fun v2 hv2 => ?_)
    refine s_icge (tgt := 79) X dX10_words_43 (by decide) rfl h8 hv2 ?_ ?_
    · refine s_aload_n (j := 0) (pc2 := 80) X dX10_words_79 rfl rfl ?_
      refine s_iconst (n := (-1)) (pc2 := 81) X dX10_words_80 rfl ?_
      refine s_iload (j := 6) (pc2 := 83) X dX10_words_81 rfl rfl ?_
      refine s_callVV (d2 := d - 1) (As := [vI ((-1)), vI l6]) (st := []) (pc2 := 86) X dX10_words_83 rfl ml_RX10_310 im_X10_fillsWays se_X10_fillsWays kX10 rfl (c_X10_fillsWays (d - 1) (by omega) C.1 C.2.2.1 l0 ((-1)) l6 (inI_c (-1) rfl) h6) hy_X10_fillsWays rfl rfl hf hlo (st_room (Nat.le_of_ble_eq_true rfl)) hcs (fun _ => ?_)
      refine s_aload_n (j := 0) (pc2 := 87) X dX10_words_86 rfl rfl ?_
      refine s_getR (pc2 := 90) X dX10_words_87 rfl fl_RX10_36 rfl (fun v3 => ?_)
      refine s_iconst (n := 0) (pc2 := 91) X dX10_words_90 rfl ?_
      refine s_iload_n (j := 1) (pc2 := 92) X dX10_words_91 rfl rfl ?_
      refine s_i2l (pc2 := 93) X dX10_words_92 rfl h1 ?_
      refine s_last (pc2 := 94) X dX10_words_93 rfl (inL_of h1) ?_
      refine s_aload_n (j := 0) (pc2 := 95) X dX10_words_94 rfl rfl ?_
      refine s_getR (pc2 := 98) X dX10_words_95 rfl fl_RX10_36 rfl (fun v4 => ?_)
      refine s_iconst (n := 1) (pc2 := 99) X dX10_words_98 rfl ?_
      refine s_iload_n (j := 2) (pc2 := 100) X dX10_words_99 rfl rfl ?_
      refine s_i2l (pc2 := 101) X dX10_words_100 rfl h2 ?_
      refine s_last (pc2 := 102) X dX10_words_101 rfl (inL_of h2) ?_
      refine s_aload_n (j := 0) (pc2 := 103) X dX10_words_102 rfl rfl ?_
      refine s_getR (pc2 := 106) X dX10_words_103 rfl fl_RX10_36 rfl (fun v5 => ?_)
      refine s_iconst (n := 2) (pc2 := 107) X dX10_words_106 rfl ?_
      refine s_iload_n (j := 3) (pc2 := 108) X dX10_words_107 rfl rfl ?_
      refine s_i2l (pc2 := 109) X dX10_words_108 rfl h3 ?_
      refine s_last (pc2 := 110) X dX10_words_109 rfl (inL_of h3) ?_
      refine s_aload_n (j := 0) (pc2 := 111) X dX10_words_110 rfl rfl ?_
      refine s_getR (pc2 := 114) X dX10_words_111 rfl fl_RX10_36 rfl (fun v6 => ?_)
      refine s_iconst (n := 3) (pc2 := 115) X dX10_words_114 rfl ?_
      refine s_iload (j := 4) (pc2 := 117) X dX10_words_115 rfl rfl ?_
      refine s_i2l (pc2 := 118) X dX10_words_117 rfl h4 ?_
      refine s_last (pc2 := 119) X dX10_words_118 rfl (inL_of h4) ?_
      refine s_aload_n (j := 0) (pc2 := 120) X dX10_words_119 rfl rfl ?_
      refine s_getR (pc2 := 123) X dX10_words_120 rfl fl_RX10_36 rfl (fun v7 => ?_)
      refine s_iconst (n := 4) (pc2 := 124) X dX10_words_123 rfl ?_
      refine s_aload_n (j := 0) (pc2 := 125) X dX10_words_124 rfl rfl ?_
      refine s_iload_n (j := 1) (pc2 := 126) X dX10_words_125 rfl rfl ?_
      refine s_iconst (n := 1) (pc2 := 127) X dX10_words_126 rfl ?_
      refine s_callVI (d2 := d - 1) (As := [vI l1, vI 1]) (st := [vI 4, vR C.1.1 v7]) (pc2 := 130) X dX10_words_127 rfl ml_RX10_307 im_X10_personOf se_X10_personOf kX10 rfl (c_X10_personOf (d - 1) (by omega) C.1 C.2.2.1 l0 l1 1 h1 (inI_c 1 rfl)) hy_X10_personOf rfl rfl hf hlo (st_room (Nat.le_of_ble_eq_true rfl)) hcs (fun v8 hv8 => ?_)
      refine s_i2l (pc2 := 131) X dX10_words_130 rfl hv8 ?_
      refine s_last (pc2 := 132) X dX10_words_131 rfl (inL_of hv8) ?_
      refine s_aload_n (j := 0) (pc2 := 133) X dX10_words_132 rfl rfl ?_
      refine s_getR (pc2 := 136) X dX10_words_133 rfl fl_RX10_36 rfl (fun v9 => ?_)
      refine s_iconst (n := 5) (pc2 := 137) X dX10_words_136 rfl ?_
      refine s_aload_n (j := 0) (pc2 := 138) X dX10_words_137 rfl rfl ?_
      refine s_iload_n (j := 1) (pc2 := 139) X dX10_words_138 rfl rfl ?_
      refine s_iload_n (j := 2) (pc2 := 140) X dX10_words_139 rfl rfl ?_
      refine s_callVI (d2 := d - 1) (As := [vI l1, vI l2]) (st := [vI 5, vR C.1.1 v9]) (pc2 := 143) X dX10_words_140 rfl ml_RX10_304 im_X10_leftOf se_X10_leftOf kX10 rfl (c_X10_leftOf (d - 1) (by omega) C.1 C.2.2.1 l0 l1 l2 h1 h2) hy_X10_leftOf rfl rfl hf hlo (st_room (Nat.le_of_ble_eq_true rfl)) hcs (fun v10 hv10 => ?_)
      refine s_i2l (pc2 := 144) X dX10_words_143 rfl hv10 ?_
      refine s_last (pc2 := 145) X dX10_words_144 rfl (inL_of hv10) ?_
      refine s_aload_n (j := 0) (pc2 := 146) X dX10_words_145 rfl rfl ?_
      refine s_getR (pc2 := 149) X dX10_words_146 rfl fl_RX10_36 rfl (fun v11 => ?_)
      refine s_bipush (n := 6) (pc2 := 151) X dX10_words_149 rfl rfl ?_
      refine s_aload_n (j := 0) (pc2 := 152) X dX10_words_151 rfl rfl ?_
      refine s_getR (pc2 := 155) X dX10_words_152 rfl fl_RX10_39 rfl (fun v12 => ?_)
      refine s_bipush (n := 6) (pc2 := 157) X dX10_words_155 rfl rfl ?_
      refine s_iald (pc2 := 158) X dX10_words_157 rfl (fun v13 hv13 => ?_)
      refine s_i2l (pc2 := 159) X dX10_words_158 rfl hv13 ?_
      refine s_last (pc2 := 160) X dX10_words_159 rfl (inL_of hv13) ?_
      refine s_aload_n (j := 0) (pc2 := 161) X dX10_words_160 rfl rfl ?_
      refine s_getR (pc2 := 164) X dX10_words_161 rfl fl_RX10_36 rfl (fun v14 => ?_)
      refine s_bipush (n := 7) (pc2 := 166) X dX10_words_164 rfl rfl ?_
      refine s_iload (j := 6) (pc2 := 168) X dX10_words_166 rfl rfl ?_
      refine s_i2l (pc2 := 169) X dX10_words_168 rfl h6 ?_
      refine s_last (pc2 := 170) X dX10_words_169 rfl (inL_of h6) ?_
      refine s_aload_n (j := 0) (pc2 := 171) X dX10_words_170 rfl rfl ?_
      refine s_getR (pc2 := 174) X dX10_words_171 rfl fl_RX10_36 rfl (fun v15 => ?_)
      refine s_bipush (n := 8) (pc2 := 176) X dX10_words_174 rfl rfl ?_
      refine s_iload (j := 5) (pc2 := 178) X dX10_words_176 rfl rfl ?_
      refine s_ifge (tgt := 185) X dX10_words_178 (by decide) rfl h5 ?_ ?_
      · refine s_aload_n (j := 0) (pc2 := 186) X dX10_words_185 rfl rfl ?_
        refine s_getR (pc2 := 189) X dX10_words_186 rfl fl_RX10_39 rfl (fun v16 => ?_)
        refine s_sipush (n := 128) (pc2 := 192) X dX10_words_189 rfl rfl ?_
        refine s_iconst (n := 4) (pc2 := 193) X dX10_words_192 rfl ?_
        refine s_iload (j := 5) (pc2 := 195) X dX10_words_193 rfl rfl ?_
        refine s_imul (pc2 := 196) X dX10_words_195 rfl ?_
        refine s_iadd (pc2 := 197) X dX10_words_196 rfl ?_
        refine s_iconst (n := 3) (pc2 := 198) X dX10_words_197 rfl ?_
        refine s_iadd (pc2 := 199) X dX10_words_198 rfl ?_
        refine s_iald (pc2 := 200) X dX10_words_199 rfl (fun v17 hv17 => ?_)
        refine s_i2l (pc2 := 201) X dX10_words_200 rfl hv17 ?_
        refine s_sub (lv2 := [(0, vR C.1.1 l0), (3, vI l3), (4, vI l4), (5, vI l5), (7, vI l7)]) [0, 3, 4, 5, 7] rfl ?_
        exact z_X10_words_L201 d hd K X l0 l3 l4 l5 l7 v15 8 v17 h3 h4 h5 h7 (inI_c 8 rfl) (inL_of hv17)
      · refine s_lconst (z := 0) (pc2 := 182) X dX10_words_181 rfl rfl ?_
        refine s_goto (pc2 := 201) X dX10_words_182 (by decide) ?_
        refine s_sub (lv2 := [(0, vR C.1.1 l0), (3, vI l3), (4, vI l4), (5, vI l5), (7, vI l7)]) [0, 3, 4, 5, 7] rfl ?_
        exact z_X10_words_L201 d hd K X l0 l3 l4 l5 l7 v15 8 0 h3 h4 h5 h7 (inI_c 8 rfl) (inL_c 0 rfl)
    · refine s_iload (j := 7) (pc2 := 48) X dX10_words_46 rfl rfl ?_
      refine s_iload (j := 8) (pc2 := 50) X dX10_words_48 rfl rfl ?_
      refine s_iload_n (j := 1) (pc2 := 51) X dX10_words_50 rfl rfl ?_
      refine s_iceq (tgt := 69) X dX10_words_51 (by decide) rfl h8 h1 ?_ ?_
      · refine s_sub (lv2 := [(0, vR C.1.1 l0), (1, vI l1), (2, vI l2), (3, vI l3), (4, vI l4), (5, vI l5), (6, vI l6), (8, vI l8)]) [0, 1, 2, 3, 4, 5, 6, 8] rfl ?_
        exact z_X10_words_L69 d hd K X (m_X10_words_L35 n) ih l0 l1 l2 l3 l4 l5 l6 l8 l7 h1 h2 h3 h4 h5 h6 h8 h7
      · refine s_aload_n (j := 0) (pc2 := 55) X dX10_words_54 rfl rfl ?_
        refine s_iload (j := 8) (pc2 := 57) X dX10_words_55 rfl rfl ?_
        refine s_iconst (n := 0) (pc2 := 58) X dX10_words_57 rfl ?_
        refine s_callVI (d2 := d - 1) (As := [vI l8, vI 0]) (st := [vI l7]) (pc2 := 61) X dX10_words_58 rfl ml_RX10_307 im_X10_personOf se_X10_personOf kX10 rfl (c_X10_personOf (d - 1) (by omega) C.1 C.2.2.1 l0 l8 0 h8 (inI_c 0 rfl)) hy_X10_personOf rfl rfl hf hlo (st_room (Nat.le_of_ble_eq_true rfl)) hcs (fun v18 hv18 => ?_)
        refine s_iload_n (j := 3) (pc2 := 62) X dX10_words_61 rfl rfl ?_
        refine s_icne (tgt := 69) X dX10_words_62 (by decide) rfl hv18 h3 ?_ ?_
        · refine s_sub (lv2 := [(0, vR C.1.1 l0), (1, vI l1), (2, vI l2), (3, vI l3), (4, vI l4), (5, vI l5), (6, vI l6), (8, vI l8)]) [0, 1, 2, 3, 4, 5, 6, 8] rfl ?_
          exact z_X10_words_L69 d hd K X (m_X10_words_L35 n) ih l0 l1 l2 l3 l4 l5 l6 l8 l7 h1 h2 h3 h4 h5 h6 h8 h7
        · refine s_iconst (n := 1) (pc2 := 66) X dX10_words_65 rfl ?_
          refine s_goto (pc2 := 70) X dX10_words_66 (by decide) ?_
          refine s_sub (lv2 := [(0, vR C.1.1 l0), (1, vI l1), (2, vI l2), (3, vI l3), (4, vI l4), (5, vI l5), (6, vI l6), (8, vI l8)]) [0, 1, 2, 3, 4, 5, 6, 8] rfl ?_
          exact z_X10_words_L70 d hd K X (m_X10_words_L35 n) ih l0 l1 l2 l3 l4 l5 l6 l8 l7 1 h1 h2 h3 h4 h5 h6 h8 h7 (inI_c 1 rfl)
set_option maxRecDepth 4000 in
set_option maxHeartbeats 20000000 in
theorem z_X10_words (d : Nat) (hd : 4 ≤ d) {C : hCx} (K : hCtx C.1 C.2.2.1 d 0 0 "words" C) (X : hOK C cX10_words RX10 9 none) (l0 : Nat) (l1 : Int) (l2 : Int) (h1 : inI l1) (h2 : inI l2) : hSim C none 0 0 9 0 [(0, vR C.1.1 l0), (1, vI l1), (2, vI l2)] [] 0 0 (m_X10_words l0 l1 l2) := by
  obtain ⟨⟨hf, hlo⟩, ⟨hc1, hc2⟩, hf1, hl1⟩ := K_room K (by omega)
  have hcs : 0 ≤ C.2.2.2.2.1.cells ∧ 0 ≤ C.2.2.2.2.1.slots := ⟨Nat.zero_le _, Nat.zero_le _⟩
  unfold m_X10_words
  refine s_aload_n (j := 0) (pc2 := 1) X dX10_words_0 rfl rfl ?_
  refine s_iload_n (j := 1) (pc2 := 2) X dX10_words_1 rfl rfl ?_
  refine s_iconst (n := 0) (pc2 := 3) X dX10_words_2 rfl ?_
  refine s_callVI (d2 := d - 1) (As := [vI l1, vI 0]) (st := []) (pc2 := 6) X dX10_words_3 rfl ml_RX10_307 im_X10_personOf se_X10_personOf kX10 rfl (c_X10_personOf (d - 1) (by omega) C.1 C.2.2.1 l0 l1 0 h1 (inI_c 0 rfl)) hy_X10_personOf rfl rfl hf hlo (st_room (Nat.le_of_ble_eq_true rfl)) hcs (fun v1 hv1 => ?_)
  refine s_istore_n (pc2 := 7) X dX10_words_6 rfl (by decide) rfl rfl cat1_I hv1 (fun w2 hw2 => ?_)
  refine s_aload_n (j := 1) (pc2 := 8) X dX10_words_7 rfl rfl ?_
  refine s_iload_n (j := 3) (pc2 := 9) X dX10_words_8 rfl rfl ?_
  refine s_iload_n (j := 0) (pc2 := 10) X dX10_words_9 rfl rfl ?_
  refine s_callVI (d2 := d - 1) (As := [vI l2, vI w2]) (st := []) (pc2 := 13) X dX10_words_10 rfl ml_RX10_336 im_X10_over se_X10_over kX10 rfl (c_X10_over (d - 1) (by omega) C.1 C.2.2.1 l0 l2 w2 h2 hw2) hy_X10_over rfl rfl hf hlo (st_room (Nat.le_of_ble_eq_true rfl)) hcs (fun v3 hv3 => ?_)
  refine s_istore (pc2 := 15) X dX10_words_13 rfl (by decide) rfl rfl cat1_I hv3 (fun w4 hw4 => ?_)
  refine s_aload_n (j := 2) (pc2 := 16) X dX10_words_15 rfl rfl ?_
  refine s_iload_n (j := 3) (pc2 := 17) X dX10_words_16 rfl rfl ?_
  refine s_callVI (d2 := d - 1) (As := [vI l1]) (st := []) (pc2 := 20) X dX10_words_17 rfl ml_RX10_313 im_X10_nextWant se_X10_nextWant kX10 rfl (c_X10_nextWant (d - 1) (by omega) C.1 C.2.2.1 l0 l1 h1) hy_X10_nextWant rfl rfl hf hlo (st_room (Nat.le_of_ble_eq_true rfl)) hcs (fun v5 hv5 => ?_)
  refine s_istore (pc2 := 22) X dX10_words_20 rfl (by decide) rfl rfl cat1_I hv5 (fun w6 hw6 => ?_)
  refine s_aload_n (j := 3) (pc2 := 23) X dX10_words_22 rfl rfl ?_
  refine s_iload_n (j := 4) (pc2 := 24) X dX10_words_23 rfl rfl ?_
  refine s_callVI (d2 := d - 1) (As := [vI l1]) (st := []) (pc2 := 27) X dX10_words_24 rfl ml_RX10_325 im_X10_goalOf se_X10_goalOf kX10 rfl (c_X10_goalOf (d - 1) (by omega) C.1 C.2.2.1 l0 l1 h1) hy_X10_goalOf rfl rfl hf hlo (st_room (Nat.le_of_ble_eq_true rfl)) hcs (fun v7 hv7 => ?_)
  refine s_istore (pc2 := 29) X dX10_words_27 rfl (by decide) rfl rfl cat1_I hv7 (fun w8 hw8 => ?_)
  refine s_iconst (n := 0) (pc2 := 30) X dX10_words_29 rfl ?_
  refine s_istore (pc2 := 32) X dX10_words_30 rfl (by decide) rfl rfl cat1_I (inI_c 0 rfl) (fun w9 hw9 => ?_)
  refine s_iconst (n := 0) (pc2 := 33) X dX10_words_32 rfl ?_
  refine s_istore (pc2 := 35) X dX10_words_33 rfl (by decide) rfl rfl cat1_I (inI_c 0 rfl) (fun w10 hw10 => ?_)
  refine s_sub (lv2 := [(0, vR C.1.1 l0), (1, vI l1), (2, vI l2), (3, vI w2), (4, vI w4), (5, vI w6), (6, vI w8), (7, vI w9), (8, vI w10)]) [6, 7, 8, 5, 4, 3, 2, 1, 0] rfl ?_
  exact z_X10_words_L35 d hd K X 1000000000 l0 l1 l2 w2 w4 w6 w8 w9 w10 h1 h2 hw2 hw4 hw6 hw8 hw9 hw10
theorem c_X10_words (d : Nat) (hd : 4 ≤ d) (G : hG) (l : Launch) (l0 : Nat) (l1 : Int) (l2 : Int) (h1 : inI l1) (h2 : inI l2) : hMet G l yX10_words cX10_words 9 none d 0 0 [vR G.1 l0, vI l1, vI l2] (m_X10_words l0 l1 l2) := by
  refine hMet.of (lv := [(0, vR G.1 l0), (1, vI l1), (2, vI l2)]) (by decide +kernel) (by simp [lg_sl, vR_cat, vI_cat, vL_cat, vS_cat2, vT_cat2]) (by simp [lv_args, vR_cat, vI_cat, vL_cat, vS_cat2, vT_cat2]) (fun C K X => ?_)
  obtain ⟨rfl, rfl, K⟩ := K
  exact z_X10_words d hd ⟨rfl, rfl, K⟩ X l0 l1 l2 h1 h2
def m_X10_summedBy_L58 (l0 : Nat) (l1 : Int) (l3 : Int) : hM :=
  hgR 10 l0 5 fun v1 =>
  haI 20 v1 l3 fun v2 =>
  hgR 10 l0 5 fun v3 =>
  haI 20 v3 ((w32 (l3 + 1))) fun v4 =>
  hcallV 10 l0 (m_X10_reckons l0 l1 v2 v4) fun v5 =>
  hret v5
def m_X10_summedBy_L2 : Nat → Nat → Int → Int → hM
  | 0, _, _, _ => hfail
  | n + 1, l0, l1, l2 =>
    hgR 10 l0 6 fun v1 =>
  haI 20 v1 l1 fun v2 =>
  hif (l2 ≥ v2) (
hret 0) (
hlet ((w32 (((w32 (48 * l1))) + ((w32 (4 * l2)))))) fun (w3 : Int) =>
  hgR 10 l0 5 fun v4 =>
  haI 20 v4 ((w32 (w3 + 2))) fun v5 =>
  hif (v5 < 0) (
m_X10_summedBy_L58 l0 l1 w3) (
hgR 10 l0 5 fun v6 =>
  haI 20 v6 ((w32 (w3 + 2))) fun v7 =>
  hgR 10 l0 5 fun v8 =>
  haI 20 v8 ((w32 (w3 + 3))) fun v9 =>
  hcallV 10 l0 (m_X10_reckons l0 l1 v7 v9) fun v10 =>
  hif (((lcmpZ v10 1)) ≠ 0) (
hlet (w32 (l2 + 1)) fun (w11 : Int) =>
  m_X10_summedBy_L2 n l0 l1 w11) (
m_X10_summedBy_L58 l0 l1 w3)))
def m_X10_summedBy (l0 : Nat) (l1 : Int) : hM :=
  hlet (0 : Int) fun (w1 : Int) =>
  m_X10_summedBy_L2 1000000000 l0 l1 w1
set_option maxRecDepth 4000 in
theorem z_X10_summedBy_L58 (d : Nat) (hd : 3 ≤ d) {C : hCx} (K : hCtx C.1 C.2.2.1 d 0 0 "summedBy" C) (X : hOK C cX10_summedBy RX10 4 (some .long)) (l0 : Nat) (l1 : Int) (l3 : Int) (h1 : inI l1) (h3 : inI l3) : hSim C (some .long) 0 0 4 58 [(0, vR C.1.1 l0), (1, vI l1), (3, vI l3)] [] 0 0 (m_X10_summedBy_L58 l0 l1 l3) := by
  obtain ⟨⟨hf, hlo⟩, ⟨hc1, hc2⟩, hf1, hl1⟩ := K_room K (by omega)
  have hcs : 0 ≤ C.2.2.2.2.1.cells ∧ 0 ≤ C.2.2.2.2.1.slots := ⟨Nat.zero_le _, Nat.zero_le _⟩
  unfold m_X10_summedBy_L58
  refine s_aload_n (j := 0) (pc2 := 59) X dX10_summedBy_58 rfl rfl ?_
  refine s_iload_n (j := 1) (pc2 := 60) X dX10_summedBy_59 rfl rfl ?_
  refine s_aload_n (j := 0) (pc2 := 61) X dX10_summedBy_60 rfl rfl ?_
  refine s_getR (pc2 := 64) X dX10_summedBy_61 rfl fl_RX10_20 rfl (fun v1 => ?_)
  refine s_iload_n (j := 2) (pc2 := 65) X dX10_summedBy_64 rfl rfl ?_
  refine s_iald (pc2 := 66) X dX10_summedBy_65 rfl (fun v2 hv2 => ?_)
  refine s_aload_n (j := 0) (pc2 := 67) X dX10_summedBy_66 rfl rfl ?_
  refine s_getR (pc2 := 70) X dX10_summedBy_67 rfl fl_RX10_20 rfl (fun v3 => ?_)
  refine s_iload_n (j := 2) (pc2 := 71) X dX10_summedBy_70 rfl rfl ?_
  refine s_iconst (n := 1) (pc2 := 72) X dX10_summedBy_71 rfl ?_
  refine s_iadd (pc2 := 73) X dX10_summedBy_72 rfl ?_
  refine s_iald (pc2 := 74) X dX10_summedBy_73 rfl (fun v4 hv4 => ?_)
  refine s_callVL (d2 := d - 1) (As := [vI l1, vI v2, vI v4]) (st := []) (pc2 := 77) X dX10_summedBy_74 rfl ml_RX10_366 im_X10_reckons se_X10_reckons kX10 rfl (c_X10_reckons (d - 1) (by omega) C.1 C.2.2.1 l0 l1 v2 v4 h1 hv2 hv4) hy_X10_reckons rfl rfl hf hlo (st_room (Nat.le_of_ble_eq_true rfl)) hcs (fun v5 hv5 => ?_)
  exact s_lret X dX10_summedBy_77 hv5
set_option maxRecDepth 4000 in
theorem z_X10_summedBy_L2 (d : Nat) (hd : 3 ≤ d) {C : hCx} (K : hCtx C.1 C.2.2.1 d 0 0 "summedBy" C) (X : hOK C cX10_summedBy RX10 4 (some .long)) : ∀ (n : Nat) (l0 : Nat) (l1 : Int) (l2 : Int) (h1 : inI l1) (h2 : inI l2), hSim C (some .long) 0 0 4 2 [(0, vR C.1.1 l0), (1, vI l1), (2, vI l2)] [] 0 0 (m_X10_summedBy_L2 n l0 l1 l2) := by
  obtain ⟨⟨hf, hlo⟩, ⟨hc1, hc2⟩, hf1, hl1⟩ := K_room K (by omega)
  have hcs : 0 ≤ C.2.2.2.2.1.cells ∧ 0 ≤ C.2.2.2.2.1.slots := ⟨Nat.zero_le _, Nat.zero_le _⟩
  intro n
  induction n with
  | zero => intros; exact s_none (fun _ => rfl)
  | succ n ih =>
    intro l0 l1 l2 h1 h2
    unfold m_X10_summedBy_L2
    refine s_iload_n (j := 2) (pc2 := 3) X dX10_summedBy_2 rfl rfl ?_
    refine s_aload_n (j := 0) (pc2 := 4) X dX10_summedBy_3 rfl rfl ?_
    refine s_getR (pc2 := 7) X dX10_summedBy_4 rfl fl_RX10_23 rfl (fun v1 => ?_)
    refine s_iload_n (j := 1) (pc2 := 8) X dX10_summedBy_7 rfl rfl ?_
    refine s_iald (pc2 := 9) X dX10_summedBy_8 rfl (fun v2 hv2 => ?_)
    refine s_icge (tgt := 84) X dX10_summedBy_9 (by decide) rfl h2 hv2 ?_ ?_
    · refine s_lconst (z := 0) (pc2 := 85) X dX10_summedBy_84 rfl rfl ?_
      exact s_lret X dX10_summedBy_85 (inL_c 0 rfl)
    · refine s_bipush (n := 48) (pc2 := 14) X dX10_summedBy_12 rfl rfl ?_
      refine s_iload_n (j := 1) (pc2 := 15) X dX10_summedBy_14 rfl rfl ?_
      refine s_imul (pc2 := 16) X dX10_summedBy_15 rfl ?_
      refine s_iconst (n := 4) (pc2 := 17) X dX10_summedBy_16 rfl ?_
      refine s_iload_n (j := 2) (pc2 := 18) X dX10_summedBy_17 rfl rfl ?_
      refine s_imul (pc2 := 19) X dX10_summedBy_18 rfl ?_
      refine s_iadd (pc2 := 20) X dX10_summedBy_19 rfl ?_
      refine s_istore_n (pc2 := 21) X dX10_summedBy_20 rfl (by decide) rfl rfl cat1_I (w32_in _) (fun w3 hw3 => ?_)
      refine s_aload_n (j := 1) (pc2 := 22) X dX10_summedBy_21 rfl rfl ?_
      refine s_getR (pc2 := 25) X dX10_summedBy_22 rfl fl_RX10_20 rfl (fun v4 => ?_)
      refine s_iload_n (j := 0) (pc2 := 26) X dX10_summedBy_25 rfl rfl ?_
      refine s_iconst (n := 2) (pc2 := 27) X dX10_summedBy_26 rfl ?_
      refine s_iadd (pc2 := 28) X dX10_summedBy_27 rfl ?_
      refine s_iald (pc2 := 29) X dX10_summedBy_28 rfl (fun v5 hv5 => ?_)
      refine s_iflt (tgt := 58) X dX10_summedBy_29 (by decide) rfl hv5 ?_ ?_
      · refine s_sub (lv2 := [(0, vR C.1.1 l0), (1, vI l1), (3, vI w3)]) [1, 2, 0] rfl ?_
        exact z_X10_summedBy_L58 d hd K X l0 l1 w3 h1 hw3
      · refine s_aload_n (j := 1) (pc2 := 33) X dX10_summedBy_32 rfl rfl ?_
        refine s_iload_n (j := 2) (pc2 := 34) X dX10_summedBy_33 rfl rfl ?_
        refine s_aload_n (j := 1) (pc2 := 35) X dX10_summedBy_34 rfl rfl ?_
        refine s_getR (pc2 := 38) X dX10_summedBy_35 rfl fl_RX10_20 rfl (fun v6 => ?_)
        refine s_iload_n (j := 0) (pc2 := 39) X dX10_summedBy_38 rfl rfl ?_
        refine s_iconst (n := 2) (pc2 := 40) X dX10_summedBy_39 rfl ?_
        refine s_iadd (pc2 := 41) X dX10_summedBy_40 rfl ?_
        refine s_iald (pc2 := 42) X dX10_summedBy_41 rfl (fun v7 hv7 => ?_)
        refine s_aload_n (j := 1) (pc2 := 43) X dX10_summedBy_42 rfl rfl ?_
        refine s_getR (pc2 := 46) X dX10_summedBy_43 rfl fl_RX10_20 rfl (fun v8 => ?_)
        refine s_iload_n (j := 0) (pc2 := 47) X dX10_summedBy_46 rfl rfl ?_
        refine s_iconst (n := 3) (pc2 := 48) X dX10_summedBy_47 rfl ?_
        refine s_iadd (pc2 := 49) X dX10_summedBy_48 rfl ?_
        refine s_iald (pc2 := 50) X dX10_summedBy_49 rfl (fun v9 hv9 => ?_)
        refine s_callVL (d2 := d - 1) (As := [vI l1, vI v7, vI v9]) (st := []) (pc2 := 53) X dX10_summedBy_50 rfl ml_RX10_366 im_X10_reckons se_X10_reckons kX10 rfl (c_X10_reckons (d - 1) (by omega) C.1 C.2.2.1 l0 l1 v7 v9 h1 hv7 hv9) hy_X10_reckons rfl rfl hf hlo (st_room (Nat.le_of_ble_eq_true rfl)) hcs (fun v10 hv10 => ?_)
        refine s_lconst (z := 1) (pc2 := 54) X dX10_summedBy_53 rfl rfl ?_
        refine s_lcmp (pc2 := 55) X dX10_summedBy_54 rfl hv10 (inL_c 1 rfl) ?_
        refine s_ifne (tgt := 78) X dX10_summedBy_55 (by decide) rfl (lcmpZ_in _ _) ?_ ?_
        · refine s_iinc (j := 3) (pc2 := 81) X dX10_summedBy_78 rfl (by decide) rfl rfl rfl cat1_I (fun w11 hw11 => ?_)
          refine s_goto (pc2 := 2) X dX10_summedBy_81 (by decide) ?_
          refine s_sub (lv2 := [(0, vR C.1.1 l0), (1, vI l1), (2, vI w11)]) [2, 3, 0] rfl ?_
          exact ih l0 l1 w11 h1 hw11
        · refine s_sub (lv2 := [(0, vR C.1.1 l0), (1, vI l1), (3, vI w3)]) [1, 2, 0] rfl ?_
          exact z_X10_summedBy_L58 d hd K X l0 l1 w3 h1 hw3
set_option maxRecDepth 4000 in
set_option maxHeartbeats 20000000 in
theorem z_X10_summedBy (d : Nat) (hd : 3 ≤ d) {C : hCx} (K : hCtx C.1 C.2.2.1 d 0 0 "summedBy" C) (X : hOK C cX10_summedBy RX10 4 (some .long)) (l0 : Nat) (l1 : Int) (h1 : inI l1) : hSim C (some .long) 0 0 4 0 [(0, vR C.1.1 l0), (1, vI l1)] [] 0 0 (m_X10_summedBy l0 l1) := by
  obtain ⟨⟨hf, hlo⟩, ⟨hc1, hc2⟩, hf1, hl1⟩ := K_room K (by omega)
  have hcs : 0 ≤ C.2.2.2.2.1.cells ∧ 0 ≤ C.2.2.2.2.1.slots := ⟨Nat.zero_le _, Nat.zero_le _⟩
  unfold m_X10_summedBy
  refine s_iconst (n := 0) (pc2 := 1) X dX10_summedBy_0 rfl ?_
  refine s_istore_n (pc2 := 2) X dX10_summedBy_1 rfl (by decide) rfl rfl cat1_I (inI_c 0 rfl) (fun w1 hw1 => ?_)
  refine s_sub (lv2 := [(0, vR C.1.1 l0), (1, vI l1), (2, vI w1)]) [1, 2, 0] rfl ?_
  exact z_X10_summedBy_L2 d hd K X 1000000000 l0 l1 w1 h1 hw1
theorem c_X10_summedBy (d : Nat) (hd : 3 ≤ d) (G : hG) (l : Launch) (l0 : Nat) (l1 : Int) (h1 : inI l1) : hMet G l yX10_summedBy cX10_summedBy 4 (some .long) d 0 0 [vR G.1 l0, vI l1] (m_X10_summedBy l0 l1) := by
  refine hMet.of (lv := [(0, vR G.1 l0), (1, vI l1)]) (by decide +kernel) (by simp [lg_sl, vR_cat, vI_cat, vL_cat, vS_cat2, vT_cat2]) (by simp [lv_args, vR_cat, vI_cat, vL_cat, vS_cat2, vT_cat2]) (fun C K X => ?_)
  obtain ⟨rfl, rfl, K⟩ := K
  exact z_X10_summedBy d hd ⟨rfl, rfl, K⟩ X l0 l1 h1
def m_X10_bridgeBy_L64 (k8 : Nat → Int → Int → Int → Int → Int → hM) (l0 : Nat) (l1 : Int) (l2 : Int) (l3 : Int) (l4 : Int) (l6 : Int) : hM :=
  hlet (w32 (l6 + 1)) fun (w1 : Int) =>
  k8 l0 l1 l2 l3 l4 w1
def m_X10_bridgeBy_L8 : Nat → Nat → Int → Int → Int → Int → Int → hM
  | 0, _, _, _, _, _, _ => hfail
  | n + 1, l0, l1, l2, l3, l4, l6 =>
    hgR 10 l0 20 fun v1 =>
  haI 20 v1 2 fun v2 =>
  hif (l6 ≥ v2) (
hret l3) (
hcallV 10 l0 (m_X10_canCross l0 l2 l6) fun v3 =>
  hif (v3 ≠ 0) (
hcallV 10 l0 (m_X10_words l0 l2 l6) fun _ =>
  hcallV 10 l0 (m_X10_summedBy l0 l1) fun v4 =>
  hlet v4 fun (w5 : Int) =>
  hif (((lcmpZ w5 l4)) > 0) (
hlet l6 fun (w6 : Int) =>
  hlet w5 fun (w7 : Int) =>
  m_X10_bridgeBy_L64 (m_X10_bridgeBy_L8 n) l0 l1 l2 w6 w7 l6) (
m_X10_bridgeBy_L64 (m_X10_bridgeBy_L8 n) l0 l1 l2 l3 l4 l6)) (
m_X10_bridgeBy_L64 (m_X10_bridgeBy_L8 n) l0 l1 l2 l3 l4 l6))
def m_X10_bridgeBy (l0 : Nat) (l1 : Int) (l2 : Int) : hM :=
  hlet ((-1) : Int) fun (w1 : Int) =>
  hlet (0 : Int) fun (w2 : Int) =>
  hlet (0 : Int) fun (w3 : Int) =>
  m_X10_bridgeBy_L8 1000000000 l0 l1 l2 w1 w2 w3
set_option maxRecDepth 4000 in
theorem z_X10_bridgeBy_L64 (d : Nat) (hd : 5 ≤ d) {C : hCx} (K : hCtx C.1 C.2.2.1 d 0 0 "bridgeBy" C) (X : hOK C cX10_bridgeBy RX10 9 (some .int)) (k8 : Nat → Int → Int → Int → Int → Int → hM) (hk8 : ∀ (l0 : Nat) (l1 : Int) (l2 : Int) (l3 : Int) (l4 : Int) (l6 : Int), inI l1 → inI l2 → inI l3 → inL l4 → inI l6 → hSim C (some .int) 0 0 9 8 [(0, vR C.1.1 l0), (1, vI l1), (2, vI l2), (3, vI l3), (4, vL l4), (6, vI l6)] [] 0 0 (k8 l0 l1 l2 l3 l4 l6)) (l0 : Nat) (l1 : Int) (l2 : Int) (l3 : Int) (l4 : Int) (l6 : Int) (h1 : inI l1) (h2 : inI l2) (h3 : inI l3) (h4 : inL l4) (h6 : inI l6) : hSim C (some .int) 0 0 9 64 [(0, vR C.1.1 l0), (1, vI l1), (2, vI l2), (3, vI l3), (4, vL l4), (6, vI l6)] [] 0 0 (m_X10_bridgeBy_L64 k8 l0 l1 l2 l3 l4 l6) := by
  obtain ⟨⟨hf, hlo⟩, ⟨hc1, hc2⟩, hf1, hl1⟩ := K_room K (by omega)
  have hcs : 0 ≤ C.2.2.2.2.1.cells ∧ 0 ≤ C.2.2.2.2.1.slots := ⟨Nat.zero_le _, Nat.zero_le _⟩
  unfold m_X10_bridgeBy_L64
  refine s_iinc (j := 5) (pc2 := 67) X dX10_bridgeBy_64 rfl (by decide) rfl rfl rfl cat1_N (fun w1 hw1 => ?_)
  refine s_goto (pc2 := 8) X dX10_bridgeBy_67 (by decide) ?_
  refine s_sub (lv2 := [(0, vR C.1.1 l0), (1, vI l1), (2, vI l2), (3, vI l3), (4, vL l4), (6, vI w1)]) [1, 2, 3, 4, 5, 0] rfl ?_
  exact hk8 l0 l1 l2 l3 l4 w1 h1 h2 h3 h4 hw1
set_option maxRecDepth 4000 in
theorem z_X10_bridgeBy_L8 (d : Nat) (hd : 5 ≤ d) {C : hCx} (K : hCtx C.1 C.2.2.1 d 0 0 "bridgeBy" C) (X : hOK C cX10_bridgeBy RX10 9 (some .int)) : ∀ (n : Nat) (l0 : Nat) (l1 : Int) (l2 : Int) (l3 : Int) (l4 : Int) (l6 : Int) (h1 : inI l1) (h2 : inI l2) (h3 : inI l3) (h4 : inL l4) (h6 : inI l6), hSim C (some .int) 0 0 9 8 [(0, vR C.1.1 l0), (1, vI l1), (2, vI l2), (3, vI l3), (4, vL l4), (6, vI l6)] [] 0 0 (m_X10_bridgeBy_L8 n l0 l1 l2 l3 l4 l6) := by
  obtain ⟨⟨hf, hlo⟩, ⟨hc1, hc2⟩, hf1, hl1⟩ := K_room K (by omega)
  have hcs : 0 ≤ C.2.2.2.2.1.cells ∧ 0 ≤ C.2.2.2.2.1.slots := ⟨Nat.zero_le _, Nat.zero_le _⟩
  intro n
  induction n with
  | zero => intros; exact s_none (fun _ => rfl)
  | succ n ih =>
    intro l0 l1 l2 l3 l4 l6 h1 h2 h3 h4 h6
    unfold m_X10_bridgeBy_L8
    refine s_iload (j := 5) (pc2 := 10) X dX10_bridgeBy_8 rfl rfl ?_
    refine s_aload_n (j := 0) (pc2 := 11) X dX10_bridgeBy_10 rfl rfl ?_
    refine s_getR (pc2 := 14) X dX10_bridgeBy_11 rfl fl_RX10_39 rfl (fun v1 => ?_)
    refine s_iconst (n := 2) (pc2 := 15) X dX10_bridgeBy_14 rfl ?_
    refine s_iald (pc2 := 16) X dX10_bridgeBy_15 rfl (fun v2 hv2 => ?_)
    refine s_icge (tgt := 70) X dX10_bridgeBy_16 (by decide) rfl h6 hv2 ?_ ?_
    · refine s_iload_n (j := 3) (pc2 := 71) X dX10_bridgeBy_70 rfl rfl ?_
      exact s_iret X dX10_bridgeBy_71 h3
    · refine s_aload_n (j := 0) (pc2 := 20) X dX10_bridgeBy_19 rfl rfl ?_
      refine s_iload_n (j := 2) (pc2 := 21) X dX10_bridgeBy_20 rfl rfl ?_
      refine s_iload (j := 5) (pc2 := 23) X dX10_bridgeBy_21 rfl rfl ?_
      refine s_callVZ (d2 := d - 1) (As := [vI l2, vI l6]) (st := []) (pc2 := 26) X dX10_bridgeBy_23 rfl ml_RX10_339 im_X10_canCross se_X10_canCross kX10 rfl (c_X10_canCross (d - 1) (by omega) C.1 C.2.2.1 l0 l2 l6 h2 h6) hy_X10_canCross rfl rfl hf hlo (st_room (Nat.le_of_ble_eq_true rfl)) hcs (fun v3 hv3 => ?_)
      refine s_ifne (tgt := 32) X dX10_bridgeBy_26 (by decide) rfl hv3 ?_ ?_
      · refine s_aload_n (j := 0) (pc2 := 33) X dX10_bridgeBy_32 rfl rfl ?_
        refine s_iload_n (j := 2) (pc2 := 34) X dX10_bridgeBy_33 rfl rfl ?_
        refine s_iload (j := 5) (pc2 := 36) X dX10_bridgeBy_34 rfl rfl ?_
        refine s_callVV (d2 := d - 1) (As := [vI l2, vI l6]) (st := []) (pc2 := 39) X dX10_bridgeBy_36 rfl ml_RX10_370 im_X10_words se_X10_words kX10 rfl (c_X10_words (d - 1) (by omega) C.1 C.2.2.1 l0 l2 l6 h2 h6) hy_X10_words rfl rfl hf hlo (st_room (Nat.le_of_ble_eq_true rfl)) hcs (fun _ => ?_)
        refine s_aload_n (j := 0) (pc2 := 40) X dX10_bridgeBy_39 rfl rfl ?_
        refine s_iload_n (j := 1) (pc2 := 41) X dX10_bridgeBy_40 rfl rfl ?_
        refine s_callVL (d2 := d - 1) (As := [vI l1]) (st := []) (pc2 := 44) X dX10_bridgeBy_41 rfl ml_RX10_373 im_X10_summedBy se_X10_summedBy kX10 rfl (c_X10_summedBy (d - 1) (by omega) C.1 C.2.2.1 l0 l1 h1) hy_X10_summedBy rfl rfl hf hlo (st_room (Nat.le_of_ble_eq_true rfl)) hcs (fun v4 hv4 => ?_)
        refine s_lstore (pc2 := 46) X dX10_bridgeBy_44 rfl (by decide) rfl rfl cat1_I hv4 (fun w5 hw5 => ?_)
        refine s_lload (j := 0) (pc2 := 48) X dX10_bridgeBy_46 rfl rfl ?_
        refine s_lload (j := 5) (pc2 := 50) X dX10_bridgeBy_48 rfl rfl ?_
        refine s_lcmp (pc2 := 51) X dX10_bridgeBy_50 rfl hw5 h4 ?_
        refine s_ifgt (tgt := 57) X dX10_bridgeBy_51 (by decide) rfl (lcmpZ_in _ _) ?_ ?_
        · refine s_iload (j := 6) (pc2 := 59) X dX10_bridgeBy_57 rfl rfl ?_
          refine s_istore_n (pc2 := 60) X dX10_bridgeBy_59 rfl (by decide) rfl rfl cat1_I h6 (fun w6 hw6 => ?_)
          refine s_lload (j := 1) (pc2 := 62) X dX10_bridgeBy_60 rfl rfl ?_
          refine s_lstore (pc2 := 64) X dX10_bridgeBy_62 rfl (by decide) rfl rfl cat1_I hw5 (fun w7 hw7 => ?_)
          refine s_sub (lv2 := [(0, vR C.1.1 l0), (1, vI l1), (2, vI l2), (3, vI w6), (4, vL w7), (6, vI l6)]) [3, 4, 5, 1, 0, 6] rfl ?_
          exact z_X10_bridgeBy_L64 d hd K X (m_X10_bridgeBy_L8 n) ih l0 l1 l2 w6 w7 l6 h1 h2 hw6 hw7 h6
        · refine s_goto (pc2 := 64) X dX10_bridgeBy_54 (by decide) ?_
          refine s_sub (lv2 := [(0, vR C.1.1 l0), (1, vI l1), (2, vI l2), (3, vI l3), (4, vL l4), (6, vI l6)]) [1, 2, 3, 4, 5, 6] rfl ?_
          exact z_X10_bridgeBy_L64 d hd K X (m_X10_bridgeBy_L8 n) ih l0 l1 l2 l3 l4 l6 h1 h2 h3 h4 h6
      · refine s_goto (pc2 := 64) X dX10_bridgeBy_29 (by decide) ?_
        exact z_X10_bridgeBy_L64 d hd K X (m_X10_bridgeBy_L8 n) ih l0 l1 l2 l3 l4 l6 h1 h2 h3 h4 h6
set_option maxRecDepth 4000 in
set_option maxHeartbeats 20000000 in
theorem z_X10_bridgeBy (d : Nat) (hd : 5 ≤ d) {C : hCx} (K : hCtx C.1 C.2.2.1 d 0 0 "bridgeBy" C) (X : hOK C cX10_bridgeBy RX10 9 (some .int)) (l0 : Nat) (l1 : Int) (l2 : Int) (h1 : inI l1) (h2 : inI l2) : hSim C (some .int) 0 0 9 0 [(0, vR C.1.1 l0), (1, vI l1), (2, vI l2)] [] 0 0 (m_X10_bridgeBy l0 l1 l2) := by
  obtain ⟨⟨hf, hlo⟩, ⟨hc1, hc2⟩, hf1, hl1⟩ := K_room K (by omega)
  have hcs : 0 ≤ C.2.2.2.2.1.cells ∧ 0 ≤ C.2.2.2.2.1.slots := ⟨Nat.zero_le _, Nat.zero_le _⟩
  unfold m_X10_bridgeBy
  refine s_iconst (n := (-1)) (pc2 := 1) X dX10_bridgeBy_0 rfl ?_
  refine s_istore_n (pc2 := 2) X dX10_bridgeBy_1 rfl (by decide) rfl rfl cat1_I (inI_c (-1) rfl) (fun w1 hw1 => ?_)
  refine s_lconst (z := 0) (pc2 := 3) X dX10_bridgeBy_2 rfl rfl ?_
  refine s_lstore (pc2 := 5) X dX10_bridgeBy_3 rfl (by decide) rfl rfl cat1_I (inL_c 0 rfl) (fun w2 hw2 => ?_)
  refine s_iconst (n := 0) (pc2 := 6) X dX10_bridgeBy_5 rfl ?_
  refine s_istore (pc2 := 8) X dX10_bridgeBy_6 rfl (by decide) rfl rfl cat1_N (inI_c 0 rfl) (fun w3 hw3 => ?_)
  refine s_sub (lv2 := [(0, vR C.1.1 l0), (1, vI l1), (2, vI l2), (3, vI w1), (4, vL w2), (6, vI w3)]) [3, 4, 5, 2, 1, 0] rfl ?_
  exact z_X10_bridgeBy_L8 d hd K X 1000000000 l0 l1 l2 w1 w2 w3 h1 h2 hw1 hw2 hw3
theorem c_X10_bridgeBy (d : Nat) (hd : 5 ≤ d) (G : hG) (l : Launch) (l0 : Nat) (l1 : Int) (l2 : Int) (h1 : inI l1) (h2 : inI l2) : hMet G l yX10_bridgeBy cX10_bridgeBy 9 (some .int) d 0 0 [vR G.1 l0, vI l1, vI l2] (m_X10_bridgeBy l0 l1 l2) := by
  refine hMet.of (lv := [(0, vR G.1 l0), (1, vI l1), (2, vI l2)]) (by decide +kernel) (by simp [lg_sl, vR_cat, vI_cat, vL_cat, vS_cat2, vT_cat2]) (by simp [lv_args, vR_cat, vI_cat, vL_cat, vS_cat2, vT_cat2]) (fun C K X => ?_)
  obtain ⟨rfl, rfl, K⟩ := K
  exact z_X10_bridgeBy d hd ⟨rfl, rfl, K⟩ X l0 l1 l2 h1 h2
def m_X10_run_L42 : hM :=
  hret ((-1))
def m_X10_run_L96 (k54 : Nat → Int → Int → Int → Int → hM) (k63 : Nat → Int → Int → Int → Int → Int → hM) (l0 : Nat) (l1 : Int) (l2 : Int) (l3 : Int) (l4 : Int) (l5 : Int) : hM :=
  hlet (w32 (l5 + 1)) fun (w1 : Int) =>
  k63 l0 l1 l2 l3 l4 w1
def m_X10_run_L63 (k54 : Nat → Int → Int → Int → Int → hM) : Nat → Nat → Int → Int → Int → Int → Int → hM
  | 0, _, _, _, _, _, _ => hfail
  | n + 1, l0, l1, l2, l3, l4, l5 =>
    hgR 10 l0 20 fun v1 =>
  haI 20 v1 4 fun v2 =>
  hif (l5 ≥ v2) (
hcallV 10 l0 (m_X10_passes l0) fun v3 =>
  hlet ((w32 (l3 + v3))) fun (w4 : Int) =>
  hlet (w32 (l4 + 1)) fun (w5 : Int) =>
  k54 l0 l1 l2 w4 w5) (
hcallV 10 l0 (m_X10_bridgeBy l0 l1 l5) fun v6 =>
  hlet v6 fun (w7 : Int) =>
  hif (w7 < 0) (
m_X10_run_L96 k54 (m_X10_run_L63 k54 n) l0 l1 l2 l3 l4 l5) (
hcallV 10 l0 (m_X10_crosses l0 l5 w7) fun _ =>
  m_X10_run_L96 k54 (m_X10_run_L63 k54 n) l0 l1 l2 l3 l4 l5))
def m_X10_run_L54 : Nat → Nat → Int → Int → Int → Int → hM
  | 0, _, _, _, _, _ => hfail
  | n + 1, l0, l1, l2, l3, l4 =>
    hif (l4 ≥ l2) (
hret l3) (
hlet (0 : Int) fun (w1 : Int) =>
  m_X10_run_L63 (m_X10_run_L54 n) 1000000000 l0 l1 l2 l3 l4 w1)
def m_X10_run (l0 : Nat) (l1 : Int) (l2 : Int) : hM :=
  hcallV 10 l0 (m_X10_isTown l0) fun v1 =>
  hif (v1 = 0) (
m_X10_run_L42) (
hcallV 10 l0 (m_X10_isRule l0 l1) fun v2 =>
  hif (v2 = 0) (
m_X10_run_L42) (
hcall (m_X10_in l2 1 60) fun v3 =>
  hif (v3 = 0) (
m_X10_run_L42) (
hgR 10 l0 20 fun v4 =>
  haI 20 v4 6 fun v5 =>
  hif (((w32 (v5 + l2))) ≤ 999) (
hpI 10 l0 25 0 <|
  hlet (0 : Int) fun (w6 : Int) =>
  hlet (0 : Int) fun (w7 : Int) =>
  m_X10_run_L54 1000000000 l0 l1 l2 w6 w7) (
m_X10_run_L42))))
set_option maxRecDepth 4000 in
theorem z_X10_run_L42 (d : Nat) (hd : 6 ≤ d) {C : hCx} (K : hCtx C.1 C.2.2.1 d 0 0 "run" C) (X : hOK C cX10_run RX10 7 (some .int)) : hSim C (some .int) 0 0 7 42 [] [] 0 0 (m_X10_run_L42) := by
  obtain ⟨⟨hf, hlo⟩, ⟨hc1, hc2⟩, hf1, hl1⟩ := K_room K (by omega)
  have hcs : 0 ≤ C.2.2.2.2.1.cells ∧ 0 ≤ C.2.2.2.2.1.slots := ⟨Nat.zero_le _, Nat.zero_le _⟩
  unfold m_X10_run_L42
  refine s_iconst (n := (-1)) (pc2 := 43) X dX10_run_42 rfl ?_
  exact s_iret X dX10_run_43 (inI_c (-1) rfl)
set_option maxRecDepth 4000 in
theorem z_X10_run_L96 (d : Nat) (hd : 6 ≤ d) {C : hCx} (K : hCtx C.1 C.2.2.1 d 0 0 "run" C) (X : hOK C cX10_run RX10 7 (some .int)) (k54 : Nat → Int → Int → Int → Int → hM) (hk54 : ∀ (l0 : Nat) (l1 : Int) (l2 : Int) (l3 : Int) (l4 : Int), inI l1 → inI l2 → inI l3 → inI l4 → hSim C (some .int) 0 0 7 54 [(0, vR C.1.1 l0), (1, vI l1), (2, vI l2), (3, vI l3), (4, vI l4)] [] 0 0 (k54 l0 l1 l2 l3 l4)) (k63 : Nat → Int → Int → Int → Int → Int → hM) (hk63 : ∀ (l0 : Nat) (l1 : Int) (l2 : Int) (l3 : Int) (l4 : Int) (l5 : Int), inI l1 → inI l2 → inI l3 → inI l4 → inI l5 → hSim C (some .int) 0 0 7 63 [(0, vR C.1.1 l0), (1, vI l1), (2, vI l2), (3, vI l3), (4, vI l4), (5, vI l5)] [] 0 0 (k63 l0 l1 l2 l3 l4 l5)) (l0 : Nat) (l1 : Int) (l2 : Int) (l3 : Int) (l4 : Int) (l5 : Int) (h1 : inI l1) (h2 : inI l2) (h3 : inI l3) (h4 : inI l4) (h5 : inI l5) : hSim C (some .int) 0 0 7 96 [(0, vR C.1.1 l0), (1, vI l1), (2, vI l2), (3, vI l3), (4, vI l4), (5, vI l5)] [] 0 0 (m_X10_run_L96 k54 k63 l0 l1 l2 l3 l4 l5) := by
  obtain ⟨⟨hf, hlo⟩, ⟨hc1, hc2⟩, hf1, hl1⟩ := K_room K (by omega)
  have hcs : 0 ≤ C.2.2.2.2.1.cells ∧ 0 ≤ C.2.2.2.2.1.slots := ⟨Nat.zero_le _, Nat.zero_le _⟩
  unfold m_X10_run_L96
  refine s_iinc (j := 5) (pc2 := 99) X dX10_run_96 rfl (by decide) rfl rfl rfl cat1_I (fun w1 hw1 => ?_)
  refine s_goto (pc2 := 63) X dX10_run_99 (by decide) ?_
  refine s_sub (lv2 := [(0, vR C.1.1 l0), (1, vI l1), (2, vI l2), (3, vI l3), (4, vI l4), (5, vI w1)]) [1, 2, 3, 4, 5, 0] rfl ?_
  exact hk63 l0 l1 l2 l3 l4 w1 h1 h2 h3 h4 hw1
set_option maxRecDepth 4000 in
theorem z_X10_run_L63 (d : Nat) (hd : 6 ≤ d) {C : hCx} (K : hCtx C.1 C.2.2.1 d 0 0 "run" C) (X : hOK C cX10_run RX10 7 (some .int)) (k54 : Nat → Int → Int → Int → Int → hM) (hk54 : ∀ (l0 : Nat) (l1 : Int) (l2 : Int) (l3 : Int) (l4 : Int), inI l1 → inI l2 → inI l3 → inI l4 → hSim C (some .int) 0 0 7 54 [(0, vR C.1.1 l0), (1, vI l1), (2, vI l2), (3, vI l3), (4, vI l4)] [] 0 0 (k54 l0 l1 l2 l3 l4)) : ∀ (n : Nat) (l0 : Nat) (l1 : Int) (l2 : Int) (l3 : Int) (l4 : Int) (l5 : Int) (h1 : inI l1) (h2 : inI l2) (h3 : inI l3) (h4 : inI l4) (h5 : inI l5), hSim C (some .int) 0 0 7 63 [(0, vR C.1.1 l0), (1, vI l1), (2, vI l2), (3, vI l3), (4, vI l4), (5, vI l5)] [] 0 0 (m_X10_run_L63 k54 n l0 l1 l2 l3 l4 l5) := by
  obtain ⟨⟨hf, hlo⟩, ⟨hc1, hc2⟩, hf1, hl1⟩ := K_room K (by omega)
  have hcs : 0 ≤ C.2.2.2.2.1.cells ∧ 0 ≤ C.2.2.2.2.1.slots := ⟨Nat.zero_le _, Nat.zero_le _⟩
  intro n
  induction n with
  | zero => intros; exact s_none (fun _ => rfl)
  | succ n ih =>
    intro l0 l1 l2 l3 l4 l5 h1 h2 h3 h4 h5
    unfold m_X10_run_L63
    refine s_iload (j := 5) (pc2 := 65) X dX10_run_63 rfl rfl ?_
    refine s_aload_n (j := 0) (pc2 := 66) X dX10_run_65 rfl rfl ?_
    refine s_getR (pc2 := 69) X dX10_run_66 rfl fl_RX10_39 rfl (fun v1 => ?_)
    refine s_iconst (n := 4) (pc2 := 70) X dX10_run_69 rfl ?_
    refine s_iald (pc2 := 71) X dX10_run_70 rfl (fun v2 hv2 => ?_)
    refine s_icge (tgt := 102) X dX10_run_71 (by decide) rfl h5 hv2 ?_ ?_
    · refine s_iload_n (j := 3) (pc2 := 103) X dX10_run_102 rfl rfl ?_
      refine s_aload_n (j := 0) (pc2 := 104) X dX10_run_103 rfl rfl ?_
      refine s_callVI (d2 := d - 1) (As := []) (st := [vI l3]) (pc2 := 107) X dX10_run_104 rfl ml_RX10_361 im_X10_passes se_X10_passes kX10 rfl (c_X10_passes (d - 1) (by omega) C.1 C.2.2.1 l0) hy_X10_passes rfl rfl hf hlo (st_room (Nat.le_of_ble_eq_true rfl)) hcs (fun v3 hv3 => ?_)
      refine s_iadd (pc2 := 108) X dX10_run_107 rfl ?_
      refine s_istore_n (pc2 := 109) X dX10_run_108 rfl (by decide) rfl rfl cat1_I (w32_in _) (fun w4 hw4 => ?_)
      refine s_iinc (j := 4) (pc2 := 112) X dX10_run_109 rfl (by decide) rfl rfl rfl cat1_I (fun w5 hw5 => ?_)
      refine s_goto (pc2 := 54) X dX10_run_112 (by decide) ?_
      refine s_sub (lv2 := [(0, vR C.1.1 l0), (1, vI l1), (2, vI l2), (3, vI w4), (4, vI w5)]) [2, 3, 4, 1, 0] rfl ?_
      exact hk54 l0 l1 l2 w4 w5 h1 h2 hw4 hw5
    · refine s_aload_n (j := 0) (pc2 := 75) X dX10_run_74 rfl rfl ?_
      refine s_iload_n (j := 1) (pc2 := 76) X dX10_run_75 rfl rfl ?_
      refine s_iload (j := 5) (pc2 := 78) X dX10_run_76 rfl rfl ?_
      refine s_callVI (d2 := d - 1) (As := [vI l1, vI l5]) (st := []) (pc2 := 81) X dX10_run_78 rfl ml_RX10_382 im_X10_bridgeBy se_X10_bridgeBy kX10 rfl (c_X10_bridgeBy (d - 1) (by omega) C.1 C.2.2.1 l0 l1 l5 h1 h5) hy_X10_bridgeBy rfl rfl hf hlo (st_room (Nat.le_of_ble_eq_true rfl)) hcs (fun v6 hv6 => ?_)
      refine s_istore (pc2 := 83) X dX10_run_81 rfl (by decide) rfl rfl cat1_I hv6 (fun w7 hw7 => ?_)
      refine s_iload (j := 0) (pc2 := 85) X dX10_run_83 rfl rfl ?_
      refine s_iflt (tgt := 96) X dX10_run_85 (by decide) rfl hw7 ?_ ?_
      · refine s_sub (lv2 := [(0, vR C.1.1 l0), (1, vI l1), (2, vI l2), (3, vI l3), (4, vI l4), (5, vI l5)]) [1, 2, 3, 4, 5, 6] rfl ?_
        exact z_X10_run_L96 d hd K X k54 hk54 (m_X10_run_L63 k54 n) ih l0 l1 l2 l3 l4 l5 h1 h2 h3 h4 h5
      · refine s_aload_n (j := 1) (pc2 := 89) X dX10_run_88 rfl rfl ?_
        refine s_iload (j := 6) (pc2 := 91) X dX10_run_89 rfl rfl ?_
        refine s_iload (j := 0) (pc2 := 93) X dX10_run_91 rfl rfl ?_
        refine s_callVV (d2 := d - 1) (As := [vI l5, vI w7]) (st := []) (pc2 := 96) X dX10_run_93 rfl ml_RX10_345 im_X10_crosses se_X10_crosses kX10 rfl (c_X10_crosses (d - 1) (by omega) C.1 C.2.2.1 l0 l5 w7 h5 hw7) hy_X10_crosses rfl rfl hf hlo (st_room (Nat.le_of_ble_eq_true rfl)) hcs (fun _ => ?_)
        refine s_sub (lv2 := [(0, vR C.1.1 l0), (1, vI l1), (2, vI l2), (3, vI l3), (4, vI l4), (5, vI l5)]) [1, 2, 3, 4, 5, 6] rfl ?_
        exact z_X10_run_L96 d hd K X k54 hk54 (m_X10_run_L63 k54 n) ih l0 l1 l2 l3 l4 l5 h1 h2 h3 h4 h5
set_option maxRecDepth 4000 in
theorem z_X10_run_L54 (d : Nat) (hd : 6 ≤ d) {C : hCx} (K : hCtx C.1 C.2.2.1 d 0 0 "run" C) (X : hOK C cX10_run RX10 7 (some .int)) : ∀ (n : Nat) (l0 : Nat) (l1 : Int) (l2 : Int) (l3 : Int) (l4 : Int) (h1 : inI l1) (h2 : inI l2) (h3 : inI l3) (h4 : inI l4), hSim C (some .int) 0 0 7 54 [(0, vR C.1.1 l0), (1, vI l1), (2, vI l2), (3, vI l3), (4, vI l4)] [] 0 0 (m_X10_run_L54 n l0 l1 l2 l3 l4) := by
  obtain ⟨⟨hf, hlo⟩, ⟨hc1, hc2⟩, hf1, hl1⟩ := K_room K (by omega)
  have hcs : 0 ≤ C.2.2.2.2.1.cells ∧ 0 ≤ C.2.2.2.2.1.slots := ⟨Nat.zero_le _, Nat.zero_le _⟩
  intro n
  induction n with
  | zero => intros; exact s_none (fun _ => rfl)
  | succ n ih =>
    intro l0 l1 l2 l3 l4 h1 h2 h3 h4
    unfold m_X10_run_L54
    refine s_iload (j := 4) (pc2 := 56) X dX10_run_54 rfl rfl ?_
    refine s_iload_n (j := 2) (pc2 := 57) X dX10_run_56 rfl rfl ?_
    refine s_icge (tgt := 115) X dX10_run_57 (by decide) rfl h4 h2 ?_ ?_
    · refine s_iload_n (j := 3) (pc2 := 116) X dX10_run_115 rfl rfl ?_
      exact s_iret X dX10_run_116 h3
    · refine s_iconst (n := 0) (pc2 := 61) X dX10_run_60 rfl ?_
      refine s_istore (pc2 := 63) X dX10_run_61 rfl (by decide) rfl rfl cat1_I (inI_c 0 rfl) (fun w1 hw1 => ?_)
      refine s_sub (lv2 := [(0, vR C.1.1 l0), (1, vI l1), (2, vI l2), (3, vI l3), (4, vI l4), (5, vI w1)]) [1, 2, 3, 4, 5, 0] rfl ?_
      exact z_X10_run_L63 d hd K X (m_X10_run_L54 n) ih 1000000000 l0 l1 l2 l3 l4 w1 h1 h2 h3 h4 hw1
set_option maxRecDepth 4000 in
set_option maxHeartbeats 20000000 in
theorem z_X10_run (d : Nat) (hd : 6 ≤ d) {C : hCx} (K : hCtx C.1 C.2.2.1 d 0 0 "run" C) (X : hOK C cX10_run RX10 7 (some .int)) (l0 : Nat) (l1 : Int) (l2 : Int) (h1 : inI l1) (h2 : inI l2) : hSim C (some .int) 0 0 7 0 [(0, vR C.1.1 l0), (1, vI l1), (2, vI l2)] [] 0 0 (m_X10_run l0 l1 l2) := by
  obtain ⟨⟨hf, hlo⟩, ⟨hc1, hc2⟩, hf1, hl1⟩ := K_room K (by omega)
  have hcs : 0 ≤ C.2.2.2.2.1.cells ∧ 0 ≤ C.2.2.2.2.1.slots := ⟨Nat.zero_le _, Nat.zero_le _⟩
  unfold m_X10_run
  refine s_aload_n (j := 0) (pc2 := 1) X dX10_run_0 rfl rfl ?_
  refine s_callVZ (d2 := d - 1) (As := []) (st := []) (pc2 := 4) X dX10_run_1 rfl ml_RX10_358 im_X10_isTown se_X10_isTown kX10 rfl (c_X10_isTown (d - 1) (by omega) C.1 C.2.2.1 l0) hy_X10_isTown rfl rfl hf hlo (st_room (Nat.le_of_ble_eq_true rfl)) hcs (fun v1 hv1 => ?_)
  refine s_ifeq (tgt := 42) X dX10_run_4 (by decide) rfl hv1 ?_ ?_
  · refine s_sub (lv2 := []) [] rfl ?_
    exact z_X10_run_L42 d hd K X
  · refine s_aload_n (j := 0) (pc2 := 8) X dX10_run_7 rfl rfl ?_
    refine s_iload_n (j := 1) (pc2 := 9) X dX10_run_8 rfl rfl ?_
    refine s_callVZ (d2 := d - 1) (As := [vI l1]) (st := []) (pc2 := 12) X dX10_run_9 rfl ml_RX10_377 im_X10_isRule se_X10_isRule kX10 rfl (c_X10_isRule (d - 1) (by omega) C.1 C.2.2.1 l0 l1 h1) hy_X10_isRule rfl rfl hf hlo (st_room (Nat.le_of_ble_eq_true rfl)) hcs (fun v2 hv2 => ?_)
    refine s_ifeq (tgt := 42) X dX10_run_12 (by decide) rfl hv2 ?_ ?_
    · refine s_sub (lv2 := []) [] rfl ?_
      exact z_X10_run_L42 d hd K X
    · refine s_iload_n (j := 2) (pc2 := 16) X dX10_run_15 rfl rfl ?_
      refine s_i2l (pc2 := 17) X dX10_run_16 rfl h2 ?_
      refine s_lconst (z := 1) (pc2 := 18) X dX10_run_17 rfl rfl ?_
      refine s_ldc2 (z := 60) (pc2 := 21) X dX10_run_18 rfl kc_RX10_380 ?_
      refine s_callSZ (d2 := d - 1) (As := [vL l2, vL 1, vL 60]) (st := []) (pc2 := 24) X dX10_run_21 rfl ml_RX10_118 sm_X10_in (c_X10_in (d - 1) (by omega) C.1 C.2.2.1 l2 1 60 (inL_of h2) (inL_c 1 rfl) (inL_c 60 rfl)) hy_X10_in rfl rfl hf hlo (st_room (Nat.le_of_ble_eq_true rfl)) hcs (fun v3 hv3 => ?_)
      refine s_ifeq (tgt := 42) X dX10_run_24 (by decide) rfl hv3 ?_ ?_
      · refine s_sub (lv2 := []) [] rfl ?_
        exact z_X10_run_L42 d hd K X
      · refine s_aload_n (j := 0) (pc2 := 28) X dX10_run_27 rfl rfl ?_
        refine s_getR (pc2 := 31) X dX10_run_28 rfl fl_RX10_39 rfl (fun v4 => ?_)
        refine s_bipush (n := 6) (pc2 := 33) X dX10_run_31 rfl rfl ?_
        refine s_iald (pc2 := 34) X dX10_run_33 rfl (fun v5 hv5 => ?_)
        refine s_iload_n (j := 2) (pc2 := 35) X dX10_run_34 rfl rfl ?_
        refine s_iadd (pc2 := 36) X dX10_run_35 rfl ?_
        refine s_sipush (n := 999) (pc2 := 39) X dX10_run_36 rfl rfl ?_
        refine s_icle (tgt := 44) X dX10_run_39 (by decide) rfl (w32_in _) (inI_c 999 rfl) ?_ ?_
        · refine s_aload_n (j := 0) (pc2 := 45) X dX10_run_44 rfl rfl ?_
          refine s_iconst (n := 0) (pc2 := 46) X dX10_run_45 rfl ?_
          refine s_putI (pc2 := 49) X dX10_run_46 rfl fl_RX10_279 (Or.inl rfl) rfl (inI_c 0 rfl) ?_
          refine s_iconst (n := 0) (pc2 := 50) X dX10_run_49 rfl ?_
          refine s_istore_n (pc2 := 51) X dX10_run_50 rfl (by decide) rfl rfl cat1_I (inI_c 0 rfl) (fun w6 hw6 => ?_)
          refine s_iconst (n := 0) (pc2 := 52) X dX10_run_51 rfl ?_
          refine s_istore (pc2 := 54) X dX10_run_52 rfl (by decide) rfl rfl cat1_I (inI_c 0 rfl) (fun w7 hw7 => ?_)
          refine s_sub (lv2 := [(0, vR C.1.1 l0), (1, vI l1), (2, vI l2), (3, vI w6), (4, vI w7)]) [2, 3, 4, 1, 0] rfl ?_
          exact z_X10_run_L54 d hd K X 1000000000 l0 l1 l2 w6 w7 h1 h2 hw6 hw7
        · refine s_sub (lv2 := []) [] rfl ?_
          exact z_X10_run_L42 d hd K X
theorem c_X10_run (d : Nat) (hd : 6 ≤ d) (G : hG) (l : Launch) (l0 : Nat) (l1 : Int) (l2 : Int) (h1 : inI l1) (h2 : inI l2) : hMet G l yX10_run cX10_run 7 (some .int) d 0 0 [vR G.1 l0, vI l1, vI l2] (m_X10_run l0 l1 l2) := by
  refine hMet.of (lv := [(0, vR G.1 l0), (1, vI l1), (2, vI l2)]) (by decide +kernel) (by simp [lg_sl, vR_cat, vI_cat, vL_cat, vS_cat2, vT_cat2]) (by simp [lv_args, vR_cat, vI_cat, vL_cat, vS_cat2, vT_cat2]) (fun C K X => ?_)
  obtain ⟨rfl, rfl, K⟩ := K
  exact z_X10_run d hd ⟨rfl, rfl, K⟩ X l0 l1 l2 h1 h2
def m_X10_way_L26 : hM :=
  hret ((-3))
def m_X10_way_L116 : hM :=
  hret ((-1))
def m_X10_way_L110 (k57 : Nat → Int → Int → Int → hM) (l0 : Nat) (l1 : Int) (l4 : Int) (l5 : Int) : hM :=
  hlet (w32 (l5 + 1)) fun (w1 : Int) =>
  k57 l0 l1 l4 w1
def m_X10_way_L57 : Nat → Nat → Int → Int → Int → hM
  | 0, _, _, _, _ => hfail
  | n + 1, l0, l1, l4, l5 =>
    hgR 10 l0 20 fun v1 =>
  haI 20 v1 2 fun v2 =>
  hif (l5 ≥ v2) (
m_X10_way_L116) (
hif (l4 ≤ 0) (
m_X10_way_L116) (
hcallV 10 l0 (m_X10_canCross l0 l1 l5) fun v3 =>
  hif (v3 = 0) (
m_X10_way_L110 (m_X10_way_L57 n) l0 l1 l4 l5) (
hgR 10 l0 23 fun v4 =>
  hcallV 10 l0 (m_X10_personOf l0 l1 0) fun v5 =>
  hcallV 10 l0 (m_X10_over l0 l5 v5) fun v6 =>
  haI 20 v4 v6 fun v7 =>
  hif (v7 ≠ ((w32 (l4 - 1)))) (
m_X10_way_L110 (m_X10_way_L57 n) l0 l1 l4 l5) (
hret l5))))
def m_X10_way (l0 : Nat) (l1 : Int) (l2 : Int) (l3 : Int) : hM :=
  hcallV 10 l0 (m_X10_isPerson l0 l1) fun v1 =>
  hif (v1 = 0) (
m_X10_way_L26) (
hcallV 10 l0 (m_X10_isQuarter l0 l2) fun v2 =>
  hif (v2 = 0) (
m_X10_way_L26) (
hcall (m_X10_in l3 0 1) fun v3 =>
  hif (v3 ≠ 0) (
hcallV 10 l0 (m_X10_wayOf l0 l1 l2) fun v4 =>
  hlet v4 fun (w5 : Int) =>
  hif (w5 ≠ 99) (
hif (l3 ≠ 0) (
hlet (0 : Int) fun (w6 : Int) =>
  m_X10_way_L57 1000000000 l0 l1 w5 w6) (
hret w5)) (
hret ((-2)))) (
m_X10_way_L26)))
set_option maxRecDepth 4000 in
theorem z_X10_way_L26 (d : Nat) (hd : 5 ≤ d) {C : hCx} (K : hCtx C.1 C.2.2.1 d 0 0 "way" C) (X : hOK C cX10_way RX10 6 (some .int)) : hSim C (some .int) 0 0 6 26 [] [] 0 0 (m_X10_way_L26) := by
  obtain ⟨⟨hf, hlo⟩, ⟨hc1, hc2⟩, hf1, hl1⟩ := K_room K (by omega)
  have hcs : 0 ≤ C.2.2.2.2.1.cells ∧ 0 ≤ C.2.2.2.2.1.slots := ⟨Nat.zero_le _, Nat.zero_le _⟩
  unfold m_X10_way_L26
  refine s_bipush (n := (-3)) (pc2 := 28) X dX10_way_26 rfl rfl ?_
  exact s_iret X dX10_way_28 (inI_c (-3) rfl)
set_option maxRecDepth 4000 in
theorem z_X10_way_L116 (d : Nat) (hd : 5 ≤ d) {C : hCx} (K : hCtx C.1 C.2.2.1 d 0 0 "way" C) (X : hOK C cX10_way RX10 6 (some .int)) : hSim C (some .int) 0 0 6 116 [] [] 0 0 (m_X10_way_L116) := by
  obtain ⟨⟨hf, hlo⟩, ⟨hc1, hc2⟩, hf1, hl1⟩ := K_room K (by omega)
  have hcs : 0 ≤ C.2.2.2.2.1.cells ∧ 0 ≤ C.2.2.2.2.1.slots := ⟨Nat.zero_le _, Nat.zero_le _⟩
  unfold m_X10_way_L116
  refine s_iconst (n := (-1)) (pc2 := 117) X dX10_way_116 rfl ?_
  exact s_iret X dX10_way_117 (inI_c (-1) rfl)
set_option maxRecDepth 4000 in
theorem z_X10_way_L110 (d : Nat) (hd : 5 ≤ d) {C : hCx} (K : hCtx C.1 C.2.2.1 d 0 0 "way" C) (X : hOK C cX10_way RX10 6 (some .int)) (k57 : Nat → Int → Int → Int → hM) (hk57 : ∀ (l0 : Nat) (l1 : Int) (l4 : Int) (l5 : Int), inI l1 → inI l4 → inI l5 → hSim C (some .int) 0 0 6 57 [(0, vR C.1.1 l0), (1, vI l1), (4, vI l4), (5, vI l5)] [] 0 0 (k57 l0 l1 l4 l5)) (l0 : Nat) (l1 : Int) (l4 : Int) (l5 : Int) (h1 : inI l1) (h4 : inI l4) (h5 : inI l5) : hSim C (some .int) 0 0 6 110 [(0, vR C.1.1 l0), (1, vI l1), (4, vI l4), (5, vI l5)] [] 0 0 (m_X10_way_L110 k57 l0 l1 l4 l5) := by
  obtain ⟨⟨hf, hlo⟩, ⟨hc1, hc2⟩, hf1, hl1⟩ := K_room K (by omega)
  have hcs : 0 ≤ C.2.2.2.2.1.cells ∧ 0 ≤ C.2.2.2.2.1.slots := ⟨Nat.zero_le _, Nat.zero_le _⟩
  unfold m_X10_way_L110
  refine s_iinc (j := 3) (pc2 := 113) X dX10_way_110 rfl (by decide) rfl rfl rfl cat1_I (fun w1 hw1 => ?_)
  refine s_goto (pc2 := 57) X dX10_way_113 (by decide) ?_
  refine s_sub (lv2 := [(0, vR C.1.1 l0), (1, vI l1), (4, vI l4), (5, vI w1)]) [1, 2, 3, 0] rfl ?_
  exact hk57 l0 l1 l4 w1 h1 h4 hw1
set_option maxRecDepth 4000 in
theorem z_X10_way_L57 (d : Nat) (hd : 5 ≤ d) {C : hCx} (K : hCtx C.1 C.2.2.1 d 0 0 "way" C) (X : hOK C cX10_way RX10 6 (some .int)) : ∀ (n : Nat) (l0 : Nat) (l1 : Int) (l4 : Int) (l5 : Int) (h1 : inI l1) (h4 : inI l4) (h5 : inI l5), hSim C (some .int) 0 0 6 57 [(0, vR C.1.1 l0), (1, vI l1), (4, vI l4), (5, vI l5)] [] 0 0 (m_X10_way_L57 n l0 l1 l4 l5) := by
  obtain ⟨⟨hf, hlo⟩, ⟨hc1, hc2⟩, hf1, hl1⟩ := K_room K (by omega)
  have hcs : 0 ≤ C.2.2.2.2.1.cells ∧ 0 ≤ C.2.2.2.2.1.slots := ⟨Nat.zero_le _, Nat.zero_le _⟩
  intro n
  induction n with
  | zero => intros; exact s_none (fun _ => rfl)
  | succ n ih =>
    intro l0 l1 l4 l5 h1 h4 h5
    unfold m_X10_way_L57
    refine s_iload (j := 3) (pc2 := 59) X dX10_way_57 rfl rfl ?_
    refine s_aload_n (j := 0) (pc2 := 60) X dX10_way_59 rfl rfl ?_
    refine s_getR (pc2 := 63) X dX10_way_60 rfl fl_RX10_39 rfl (fun v1 => ?_)
    refine s_iconst (n := 2) (pc2 := 64) X dX10_way_63 rfl ?_
    refine s_iald (pc2 := 65) X dX10_way_64 rfl (fun v2 hv2 => ?_)
    refine s_icge (tgt := 116) X dX10_way_65 (by decide) rfl h5 hv2 ?_ ?_
    · refine s_sub (lv2 := []) [] rfl ?_
      exact z_X10_way_L116 d hd K X
    · refine s_iload (j := 2) (pc2 := 70) X dX10_way_68 rfl rfl ?_
      refine s_ifle (tgt := 116) X dX10_way_70 (by decide) rfl h4 ?_ ?_
      · refine s_sub (lv2 := []) [] rfl ?_
        exact z_X10_way_L116 d hd K X
      · refine s_aload_n (j := 0) (pc2 := 74) X dX10_way_73 rfl rfl ?_
        refine s_iload_n (j := 1) (pc2 := 75) X dX10_way_74 rfl rfl ?_
        refine s_iload (j := 3) (pc2 := 77) X dX10_way_75 rfl rfl ?_
        refine s_callVZ (d2 := d - 1) (As := [vI l1, vI l5]) (st := []) (pc2 := 80) X dX10_way_77 rfl ml_RX10_339 im_X10_canCross se_X10_canCross kX10 rfl (c_X10_canCross (d - 1) (by omega) C.1 C.2.2.1 l0 l1 l5 h1 h5) hy_X10_canCross rfl rfl hf hlo (st_room (Nat.le_of_ble_eq_true rfl)) hcs (fun v3 hv3 => ?_)
        refine s_ifeq (tgt := 110) X dX10_way_80 (by decide) rfl hv3 ?_ ?_
        · exact z_X10_way_L110 d hd K X (m_X10_way_L57 n) ih l0 l1 l4 l5 h1 h4 h5
        · refine s_aload_n (j := 0) (pc2 := 84) X dX10_way_83 rfl rfl ?_
          refine s_getR (pc2 := 87) X dX10_way_84 rfl fl_RX10_45 rfl (fun v4 => ?_)
          refine s_aload_n (j := 0) (pc2 := 88) X dX10_way_87 rfl rfl ?_
          refine s_iload (j := 3) (pc2 := 90) X dX10_way_88 rfl rfl ?_
          refine s_aload_n (j := 0) (pc2 := 91) X dX10_way_90 rfl rfl ?_
          refine s_iload_n (j := 1) (pc2 := 92) X dX10_way_91 rfl rfl ?_
          refine s_iconst (n := 0) (pc2 := 93) X dX10_way_92 rfl ?_
          refine s_callVI (d2 := d - 1) (As := [vI l1, vI 0]) (st := [vI l5, vR C.1.1 l0, vR C.1.1 v4]) (pc2 := 96) X dX10_way_93 rfl ml_RX10_307 im_X10_personOf se_X10_personOf kX10 rfl (c_X10_personOf (d - 1) (by omega) C.1 C.2.2.1 l0 l1 0 h1 (inI_c 0 rfl)) hy_X10_personOf rfl rfl hf hlo (st_room (Nat.le_of_ble_eq_true rfl)) hcs (fun v5 hv5 => ?_)
          refine s_callVI (d2 := d - 1) (As := [vI l5, vI v5]) (st := [vR C.1.1 v4]) (pc2 := 99) X dX10_way_96 rfl ml_RX10_336 im_X10_over se_X10_over kX10 rfl (c_X10_over (d - 1) (by omega) C.1 C.2.2.1 l0 l5 v5 h5 hv5) hy_X10_over rfl rfl hf hlo (st_room (Nat.le_of_ble_eq_true rfl)) hcs (fun v6 hv6 => ?_)
          refine s_iald (pc2 := 100) X dX10_way_99 rfl (fun v7 hv7 => ?_)
          refine s_iload (j := 2) (pc2 := 102) X dX10_way_100 rfl rfl ?_
          refine s_iconst (n := 1) (pc2 := 103) X dX10_way_102 rfl ?_
          refine s_isub (pc2 := 104) X dX10_way_103 rfl ?_
          refine s_icne (tgt := 110) X dX10_way_104 (by decide) rfl hv7 (w32_in _) ?_ ?_
          · exact z_X10_way_L110 d hd K X (m_X10_way_L57 n) ih l0 l1 l4 l5 h1 h4 h5
          · refine s_iload (j := 3) (pc2 := 109) X dX10_way_107 rfl rfl ?_
            exact s_iret X dX10_way_109 h5
set_option maxRecDepth 4000 in
set_option maxHeartbeats 20000000 in
theorem z_X10_way (d : Nat) (hd : 5 ≤ d) {C : hCx} (K : hCtx C.1 C.2.2.1 d 0 0 "way" C) (X : hOK C cX10_way RX10 6 (some .int)) (l0 : Nat) (l1 : Int) (l2 : Int) (l3 : Int) (h1 : inI l1) (h2 : inI l2) (h3 : inI l3) : hSim C (some .int) 0 0 6 0 [(0, vR C.1.1 l0), (1, vI l1), (2, vI l2), (3, vI l3)] [] 0 0 (m_X10_way l0 l1 l2 l3) := by
  obtain ⟨⟨hf, hlo⟩, ⟨hc1, hc2⟩, hf1, hl1⟩ := K_room K (by omega)
  have hcs : 0 ≤ C.2.2.2.2.1.cells ∧ 0 ≤ C.2.2.2.2.1.slots := ⟨Nat.zero_le _, Nat.zero_le _⟩
  unfold m_X10_way
  refine s_aload_n (j := 0) (pc2 := 1) X dX10_way_0 rfl rfl ?_
  refine s_iload_n (j := 1) (pc2 := 2) X dX10_way_1 rfl rfl ?_
  refine s_callVZ (d2 := d - 1) (As := [vI l1]) (st := []) (pc2 := 5) X dX10_way_2 rfl ml_RX10_316 im_X10_isPerson se_X10_isPerson kX10 rfl (c_X10_isPerson (d - 1) (by omega) C.1 C.2.2.1 l0 l1 h1) hy_X10_isPerson rfl rfl hf hlo (st_room (Nat.le_of_ble_eq_true rfl)) hcs (fun v1 hv1 => ?_)
  refine s_ifeq (tgt := 26) X dX10_way_5 (by decide) rfl hv1 ?_ ?_
  · refine s_sub (lv2 := []) [] rfl ?_
    exact z_X10_way_L26 d hd K X
  · refine s_aload_n (j := 0) (pc2 := 9) X dX10_way_8 rfl rfl ?_
    refine s_iload_n (j := 2) (pc2 := 10) X dX10_way_9 rfl rfl ?_
    refine s_callVZ (d2 := d - 1) (As := [vI l2]) (st := []) (pc2 := 13) X dX10_way_10 rfl ml_RX10_385 im_X10_isQuarter se_X10_isQuarter kX10 rfl (c_X10_isQuarter (d - 1) (by omega) C.1 C.2.2.1 l0 l2 h2) hy_X10_isQuarter rfl rfl hf hlo (st_room (Nat.le_of_ble_eq_true rfl)) hcs (fun v2 hv2 => ?_)
    refine s_ifeq (tgt := 26) X dX10_way_13 (by decide) rfl hv2 ?_ ?_
    · refine s_sub (lv2 := []) [] rfl ?_
      exact z_X10_way_L26 d hd K X
    · refine s_iload_n (j := 3) (pc2 := 17) X dX10_way_16 rfl rfl ?_
      refine s_i2l (pc2 := 18) X dX10_way_17 rfl h3 ?_
      refine s_lconst (z := 0) (pc2 := 19) X dX10_way_18 rfl rfl ?_
      refine s_lconst (z := 1) (pc2 := 20) X dX10_way_19 rfl rfl ?_
      refine s_callSZ (d2 := d - 1) (As := [vL l3, vL 0, vL 1]) (st := []) (pc2 := 23) X dX10_way_20 rfl ml_RX10_118 sm_X10_in (c_X10_in (d - 1) (by omega) C.1 C.2.2.1 l3 0 1 (inL_of h3) (inL_c 0 rfl) (inL_c 1 rfl)) hy_X10_in rfl rfl hf hlo (st_room (Nat.le_of_ble_eq_true rfl)) hcs (fun v3 hv3 => ?_)
      refine s_ifne (tgt := 29) X dX10_way_23 (by decide) rfl hv3 ?_ ?_
      · refine s_aload_n (j := 0) (pc2 := 30) X dX10_way_29 rfl rfl ?_
        refine s_iload_n (j := 1) (pc2 := 31) X dX10_way_30 rfl rfl ?_
        refine s_iload_n (j := 2) (pc2 := 32) X dX10_way_31 rfl rfl ?_
        refine s_callVI (d2 := d - 1) (As := [vI l1, vI l2]) (st := []) (pc2 := 35) X dX10_way_32 rfl ml_RX10_388 im_X10_wayOf se_X10_wayOf kX10 rfl (c_X10_wayOf (d - 1) (by omega) C.1 C.2.2.1 l0 l1 l2 h1 h2) hy_X10_wayOf rfl rfl hf hlo (st_room (Nat.le_of_ble_eq_true rfl)) hcs (fun v4 hv4 => ?_)
        refine s_istore (pc2 := 37) X dX10_way_35 rfl (by decide) rfl rfl cat1_I hv4 (fun w5 hw5 => ?_)
        refine s_iload (j := 0) (pc2 := 39) X dX10_way_37 rfl rfl ?_
        refine s_bipush (n := 99) (pc2 := 41) X dX10_way_39 rfl rfl ?_
        refine s_icne (tgt := 47) X dX10_way_41 (by decide) rfl hw5 (inI_c 99 rfl) ?_ ?_
        · refine s_iload_n (j := 4) (pc2 := 48) X dX10_way_47 rfl rfl ?_
          refine s_ifne (tgt := 54) X dX10_way_48 (by decide) rfl h3 ?_ ?_
          · refine s_iconst (n := 0) (pc2 := 55) X dX10_way_54 rfl ?_
            refine s_istore (pc2 := 57) X dX10_way_55 rfl (by decide) rfl rfl cat1_I (inI_c 0 rfl) (fun w6 hw6 => ?_)
            refine s_sub (lv2 := [(0, vR C.1.1 l0), (1, vI l1), (4, vI w5), (5, vI w6)]) [2, 3, 1, 0] rfl ?_
            exact z_X10_way_L57 d hd K X 1000000000 l0 l1 w5 w6 h1 hw5 hw6
          · refine s_iload (j := 0) (pc2 := 53) X dX10_way_51 rfl rfl ?_
            exact s_iret X dX10_way_53 hw5
        · refine s_bipush (n := (-2)) (pc2 := 46) X dX10_way_44 rfl rfl ?_
          exact s_iret X dX10_way_46 (inI_c (-2) rfl)
      · refine s_sub (lv2 := []) [] rfl ?_
        exact z_X10_way_L26 d hd K X
theorem c_X10_way (d : Nat) (hd : 5 ≤ d) (G : hG) (l : Launch) (l0 : Nat) (l1 : Int) (l2 : Int) (l3 : Int) (h1 : inI l1) (h2 : inI l2) (h3 : inI l3) : hMet G l yX10_way cX10_way 6 (some .int) d 0 0 [vR G.1 l0, vI l1, vI l2, vI l3] (m_X10_way l0 l1 l2 l3) := by
  refine hMet.of (lv := [(0, vR G.1 l0), (1, vI l1), (2, vI l2), (3, vI l3)]) (by decide +kernel) (by simp [lg_sl, vR_cat, vI_cat, vL_cat, vS_cat2, vT_cat2]) (by simp [lv_args, vR_cat, vI_cat, vL_cat, vS_cat2, vT_cat2]) (fun C K X => ?_)
  obtain ⟨rfl, rfl, K⟩ := K
  exact z_X10_way d hd ⟨rfl, rfl, K⟩ X l0 l1 l2 l3 h1 h2 h3
def m_X10_goesOver (l0 : Nat) (l1 : Int) (l2 : Int) : hM :=
  hif (l2 ≥ 0) (
hgR 10 l0 20 fun v1 =>
  hcallV 10 l0 (m_X10_personOf l0 l1 0) fun v2 =>
  hcallV 10 l0 (m_X10_over l0 l2 v2) fun v3 =>
  hsI 20 v1 ((w32 (10 + ((w32 (3 * l1)))))) v3 <|
  hgR 10 l0 20 fun v4 =>
  haI 20 v4 ((w32 (((w32 (22 + ((w32 (9 * l1)))))) + l2))) fun v5 =>
  hsI 20 v4 ((w32 (((w32 (22 + ((w32 (9 * l1)))))) + l2))) ((w32 (v5 + 1))) <|
  hret 0) (
hret 0)
set_option maxRecDepth 4000 in
set_option maxHeartbeats 20000000 in
theorem z_X10_goesOver (d : Nat) (hd : 3 ≤ d) {C : hCx} (K : hCtx C.1 C.2.2.1 d 0 0 "goesOver" C) (X : hOK C cX10_goesOver RX10 3 none) (l0 : Nat) (l1 : Int) (l2 : Int) (h1 : inI l1) (h2 : inI l2) : hSim C none 0 0 3 0 [(0, vR C.1.1 l0), (1, vI l1), (2, vI l2)] [] 0 0 (m_X10_goesOver l0 l1 l2) := by
  obtain ⟨⟨hf, hlo⟩, ⟨hc1, hc2⟩, hf1, hl1⟩ := K_room K (by omega)
  have hcs : 0 ≤ C.2.2.2.2.1.cells ∧ 0 ≤ C.2.2.2.2.1.slots := ⟨Nat.zero_le _, Nat.zero_le _⟩
  unfold m_X10_goesOver
  refine s_iload_n (j := 2) (pc2 := 1) X dX10_goesOver_0 rfl rfl ?_
  refine s_ifge (tgt := 5) X dX10_goesOver_1 (by decide) rfl h2 ?_ ?_
  · refine s_aload_n (j := 0) (pc2 := 6) X dX10_goesOver_5 rfl rfl ?_
    refine s_getR (pc2 := 9) X dX10_goesOver_6 rfl fl_RX10_39 rfl (fun v1 => ?_)
    refine s_bipush (n := 10) (pc2 := 11) X dX10_goesOver_9 rfl rfl ?_
    refine s_iconst (n := 3) (pc2 := 12) X dX10_goesOver_11 rfl ?_
    refine s_iload_n (j := 1) (pc2 := 13) X dX10_goesOver_12 rfl rfl ?_
    refine s_imul (pc2 := 14) X dX10_goesOver_13 rfl ?_
    refine s_iadd (pc2 := 15) X dX10_goesOver_14 rfl ?_
    refine s_aload_n (j := 0) (pc2 := 16) X dX10_goesOver_15 rfl rfl ?_
    refine s_iload_n (j := 2) (pc2 := 17) X dX10_goesOver_16 rfl rfl ?_
    refine s_aload_n (j := 0) (pc2 := 18) X dX10_goesOver_17 rfl rfl ?_
    refine s_iload_n (j := 1) (pc2 := 19) X dX10_goesOver_18 rfl rfl ?_
    refine s_iconst (n := 0) (pc2 := 20) X dX10_goesOver_19 rfl ?_
    refine s_callVI (d2 := d - 1) (As := [vI l1, vI 0]) (st := [vI l2, vR C.1.1 l0, vI ((w32 (10 + ((w32 (3 * l1)))))), vR C.1.1 v1]) (pc2 := 23) X dX10_goesOver_20 rfl ml_RX10_307 im_X10_personOf se_X10_personOf kX10 rfl (c_X10_personOf (d - 1) (by omega) C.1 C.2.2.1 l0 l1 0 h1 (inI_c 0 rfl)) hy_X10_personOf rfl rfl hf hlo (st_room (Nat.le_of_ble_eq_true rfl)) hcs (fun v2 hv2 => ?_)
    refine s_callVI (d2 := d - 1) (As := [vI l2, vI v2]) (st := [vI ((w32 (10 + ((w32 (3 * l1)))))), vR C.1.1 v1]) (pc2 := 26) X dX10_goesOver_23 rfl ml_RX10_336 im_X10_over se_X10_over kX10 rfl (c_X10_over (d - 1) (by omega) C.1 C.2.2.1 l0 l2 v2 h2 hv2) hy_X10_over rfl rfl hf hlo (st_room (Nat.le_of_ble_eq_true rfl)) hcs (fun v3 hv3 => ?_)
    refine s_iast (pc2 := 27) X dX10_goesOver_26 rfl hv3 ?_
    refine s_aload_n (j := 0) (pc2 := 28) X dX10_goesOver_27 rfl rfl ?_
    refine s_getR (pc2 := 31) X dX10_goesOver_28 rfl fl_RX10_39 rfl (fun v4 => ?_)
    refine s_bipush (n := 22) (pc2 := 33) X dX10_goesOver_31 rfl rfl ?_
    refine s_bipush (n := 9) (pc2 := 35) X dX10_goesOver_33 rfl rfl ?_
    refine s_iload_n (j := 1) (pc2 := 36) X dX10_goesOver_35 rfl rfl ?_
    refine s_imul (pc2 := 37) X dX10_goesOver_36 rfl ?_
    refine s_iadd (pc2 := 38) X dX10_goesOver_37 rfl ?_
    refine s_iload_n (j := 2) (pc2 := 39) X dX10_goesOver_38 rfl rfl ?_
    refine s_iadd (pc2 := 40) X dX10_goesOver_39 rfl ?_
    refine s_dup2 (pc2 := 41) X dX10_goesOver_40 rfl rfl (vR_cat _ _) ?_
    refine s_iald (pc2 := 42) X dX10_goesOver_41 rfl (fun v5 hv5 => ?_)
    refine s_iconst (n := 1) (pc2 := 43) X dX10_goesOver_42 rfl ?_
    refine s_iadd (pc2 := 44) X dX10_goesOver_43 rfl ?_
    refine s_iast (pc2 := 45) X dX10_goesOver_44 rfl (w32_in _) ?_
    exact s_ret X dX10_goesOver_45
  · exact s_ret X dX10_goesOver_4
theorem c_X10_goesOver (d : Nat) (hd : 3 ≤ d) (G : hG) (l : Launch) (l0 : Nat) (l1 : Int) (l2 : Int) (h1 : inI l1) (h2 : inI l2) : hMet G l yX10_goesOver cX10_goesOver 3 none d 0 0 [vR G.1 l0, vI l1, vI l2] (m_X10_goesOver l0 l1 l2) := by
  refine hMet.of (lv := [(0, vR G.1 l0), (1, vI l1), (2, vI l2)]) (by decide +kernel) (by simp [lg_sl, vR_cat, vI_cat, vL_cat, vS_cat2, vT_cat2]) (by simp [lv_args, vR_cat, vI_cat, vL_cat, vS_cat2, vT_cat2]) (fun C K X => ?_)
  obtain ⟨rfl, rfl, K⟩ := K
  exact z_X10_goesOver d hd ⟨rfl, rfl, K⟩ X l0 l1 l2 h1 h2
def m_X10_goesBack (l0 : Nat) (l1 : Int) (l2 : Int) : hM :=
  hif (l2 ≥ 0) (
hgR 10 l0 20 fun v1 =>
  hcallV 10 l0 (m_X10_personOf l0 l1 0) fun v2 =>
  hcallV 10 l0 (m_X10_over l0 l2 v2) fun v3 =>
  hsI 20 v1 ((w32 (10 + ((w32 (3 * l1)))))) v3 <|
  hgR 10 l0 20 fun v4 =>
  haI 20 v4 ((w32 (((w32 (22 + ((w32 (9 * l1)))))) + l2))) fun v5 =>
  hsI 20 v4 ((w32 (((w32 (22 + ((w32 (9 * l1)))))) + l2))) ((w32 (v5 - 1))) <|
  hret 0) (
hret 0)
set_option maxRecDepth 4000 in
set_option maxHeartbeats 20000000 in
theorem z_X10_goesBack (d : Nat) (hd : 3 ≤ d) {C : hCx} (K : hCtx C.1 C.2.2.1 d 0 0 "goesBack" C) (X : hOK C cX10_goesBack RX10 3 none) (l0 : Nat) (l1 : Int) (l2 : Int) (h1 : inI l1) (h2 : inI l2) : hSim C none 0 0 3 0 [(0, vR C.1.1 l0), (1, vI l1), (2, vI l2)] [] 0 0 (m_X10_goesBack l0 l1 l2) := by
  obtain ⟨⟨hf, hlo⟩, ⟨hc1, hc2⟩, hf1, hl1⟩ := K_room K (by omega)
  have hcs : 0 ≤ C.2.2.2.2.1.cells ∧ 0 ≤ C.2.2.2.2.1.slots := ⟨Nat.zero_le _, Nat.zero_le _⟩
  unfold m_X10_goesBack
  refine s_iload_n (j := 2) (pc2 := 1) X dX10_goesBack_0 rfl rfl ?_
  refine s_ifge (tgt := 5) X dX10_goesBack_1 (by decide) rfl h2 ?_ ?_
  · refine s_aload_n (j := 0) (pc2 := 6) X dX10_goesBack_5 rfl rfl ?_
    refine s_getR (pc2 := 9) X dX10_goesBack_6 rfl fl_RX10_39 rfl (fun v1 => ?_)
    refine s_bipush (n := 10) (pc2 := 11) X dX10_goesBack_9 rfl rfl ?_
    refine s_iconst (n := 3) (pc2 := 12) X dX10_goesBack_11 rfl ?_
    refine s_iload_n (j := 1) (pc2 := 13) X dX10_goesBack_12 rfl rfl ?_
    refine s_imul (pc2 := 14) X dX10_goesBack_13 rfl ?_
    refine s_iadd (pc2 := 15) X dX10_goesBack_14 rfl ?_
    refine s_aload_n (j := 0) (pc2 := 16) X dX10_goesBack_15 rfl rfl ?_
    refine s_iload_n (j := 2) (pc2 := 17) X dX10_goesBack_16 rfl rfl ?_
    refine s_aload_n (j := 0) (pc2 := 18) X dX10_goesBack_17 rfl rfl ?_
    refine s_iload_n (j := 1) (pc2 := 19) X dX10_goesBack_18 rfl rfl ?_
    refine s_iconst (n := 0) (pc2 := 20) X dX10_goesBack_19 rfl ?_
    refine s_callVI (d2 := d - 1) (As := [vI l1, vI 0]) (st := [vI l2, vR C.1.1 l0, vI ((w32 (10 + ((w32 (3 * l1)))))), vR C.1.1 v1]) (pc2 := 23) X dX10_goesBack_20 rfl ml_RX10_307 im_X10_personOf se_X10_personOf kX10 rfl (c_X10_personOf (d - 1) (by omega) C.1 C.2.2.1 l0 l1 0 h1 (inI_c 0 rfl)) hy_X10_personOf rfl rfl hf hlo (st_room (Nat.le_of_ble_eq_true rfl)) hcs (fun v2 hv2 => ?_)
    refine s_callVI (d2 := d - 1) (As := [vI l2, vI v2]) (st := [vI ((w32 (10 + ((w32 (3 * l1)))))), vR C.1.1 v1]) (pc2 := 26) X dX10_goesBack_23 rfl ml_RX10_336 im_X10_over se_X10_over kX10 rfl (c_X10_over (d - 1) (by omega) C.1 C.2.2.1 l0 l2 v2 h2 hv2) hy_X10_over rfl rfl hf hlo (st_room (Nat.le_of_ble_eq_true rfl)) hcs (fun v3 hv3 => ?_)
    refine s_iast (pc2 := 27) X dX10_goesBack_26 rfl hv3 ?_
    refine s_aload_n (j := 0) (pc2 := 28) X dX10_goesBack_27 rfl rfl ?_
    refine s_getR (pc2 := 31) X dX10_goesBack_28 rfl fl_RX10_39 rfl (fun v4 => ?_)
    refine s_bipush (n := 22) (pc2 := 33) X dX10_goesBack_31 rfl rfl ?_
    refine s_bipush (n := 9) (pc2 := 35) X dX10_goesBack_33 rfl rfl ?_
    refine s_iload_n (j := 1) (pc2 := 36) X dX10_goesBack_35 rfl rfl ?_
    refine s_imul (pc2 := 37) X dX10_goesBack_36 rfl ?_
    refine s_iadd (pc2 := 38) X dX10_goesBack_37 rfl ?_
    refine s_iload_n (j := 2) (pc2 := 39) X dX10_goesBack_38 rfl rfl ?_
    refine s_iadd (pc2 := 40) X dX10_goesBack_39 rfl ?_
    refine s_dup2 (pc2 := 41) X dX10_goesBack_40 rfl rfl (vR_cat _ _) ?_
    refine s_iald (pc2 := 42) X dX10_goesBack_41 rfl (fun v5 hv5 => ?_)
    refine s_iconst (n := 1) (pc2 := 43) X dX10_goesBack_42 rfl ?_
    refine s_isub (pc2 := 44) X dX10_goesBack_43 rfl ?_
    refine s_iast (pc2 := 45) X dX10_goesBack_44 rfl (w32_in _) ?_
    exact s_ret X dX10_goesBack_45
  · exact s_ret X dX10_goesBack_4
theorem c_X10_goesBack (d : Nat) (hd : 3 ≤ d) (G : hG) (l : Launch) (l0 : Nat) (l1 : Int) (l2 : Int) (h1 : inI l1) (h2 : inI l2) : hMet G l yX10_goesBack cX10_goesBack 3 none d 0 0 [vR G.1 l0, vI l1, vI l2] (m_X10_goesBack l0 l1 l2) := by
  refine hMet.of (lv := [(0, vR G.1 l0), (1, vI l1), (2, vI l2)]) (by decide +kernel) (by simp [lg_sl, vR_cat, vI_cat, vL_cat, vS_cat2, vT_cat2]) (by simp [lv_args, vR_cat, vI_cat, vL_cat, vS_cat2, vT_cat2]) (fun C K X => ?_)
  obtain ⟨rfl, rfl, K⟩ := K
  exact z_X10_goesBack d hd ⟨rfl, rfl, K⟩ X l0 l1 l2 h1 h2
def m_X10_nextBridge_L29 (l3 : Int) : hM :=
  hret l3
def m_X10_nextBridge_L4 : Nat → Nat → Int → Int → hM
  | 0, _, _, _ => hfail
  | n + 1, l0, l1, l3 =>
    hgR 10 l0 20 fun v1 =>
  haI 20 v1 2 fun v2 =>
  hif (l3 ≥ v2) (
m_X10_nextBridge_L29 l3) (
hcallV 10 l0 (m_X10_canCross l0 l1 l3) fun v3 =>
  hif (v3 ≠ 0) (
m_X10_nextBridge_L29 l3) (
hlet (w32 (l3 + 1)) fun (w4 : Int) =>
  m_X10_nextBridge_L4 n l0 l1 w4))
def m_X10_nextBridge (l0 : Nat) (l1 : Int) (l2 : Int) : hM :=
  hlet ((w32 (l2 + 1))) fun (w1 : Int) =>
  m_X10_nextBridge_L4 1000000000 l0 l1 w1
set_option maxRecDepth 4000 in
theorem z_X10_nextBridge_L29 (d : Nat) (hd : 4 ≤ d) {C : hCx} (K : hCtx C.1 C.2.2.1 d 0 0 "nextBridge" C) (X : hOK C cX10_nextBridge RX10 4 (some .int)) (l3 : Int) (h3 : inI l3) : hSim C (some .int) 0 0 4 29 [(3, vI l3)] [] 0 0 (m_X10_nextBridge_L29 l3) := by
  obtain ⟨⟨hf, hlo⟩, ⟨hc1, hc2⟩, hf1, hl1⟩ := K_room K (by omega)
  have hcs : 0 ≤ C.2.2.2.2.1.cells ∧ 0 ≤ C.2.2.2.2.1.slots := ⟨Nat.zero_le _, Nat.zero_le _⟩
  unfold m_X10_nextBridge_L29
  refine s_iload_n (j := 0) (pc2 := 30) X dX10_nextBridge_29 rfl rfl ?_
  exact s_iret X dX10_nextBridge_30 h3
set_option maxRecDepth 4000 in
theorem z_X10_nextBridge_L4 (d : Nat) (hd : 4 ≤ d) {C : hCx} (K : hCtx C.1 C.2.2.1 d 0 0 "nextBridge" C) (X : hOK C cX10_nextBridge RX10 4 (some .int)) : ∀ (n : Nat) (l0 : Nat) (l1 : Int) (l3 : Int) (h1 : inI l1) (h3 : inI l3), hSim C (some .int) 0 0 4 4 [(0, vR C.1.1 l0), (1, vI l1), (3, vI l3)] [] 0 0 (m_X10_nextBridge_L4 n l0 l1 l3) := by
  obtain ⟨⟨hf, hlo⟩, ⟨hc1, hc2⟩, hf1, hl1⟩ := K_room K (by omega)
  have hcs : 0 ≤ C.2.2.2.2.1.cells ∧ 0 ≤ C.2.2.2.2.1.slots := ⟨Nat.zero_le _, Nat.zero_le _⟩
  intro n
  induction n with
  | zero => intros; exact s_none (fun _ => rfl)
  | succ n ih =>
    intro l0 l1 l3 h1 h3
    unfold m_X10_nextBridge_L4
    refine s_iload_n (j := 2) (pc2 := 5) X dX10_nextBridge_4 rfl rfl ?_
    refine s_aload_n (j := 0) (pc2 := 6) X dX10_nextBridge_5 rfl rfl ?_
    refine s_getR (pc2 := 9) X dX10_nextBridge_6 rfl fl_RX10_39 rfl (fun v1 => ?_)
    refine s_iconst (n := 2) (pc2 := 10) X dX10_nextBridge_9 rfl ?_
    refine s_iald (pc2 := 11) X dX10_nextBridge_10 rfl (fun v2 hv2 => ?_)
    refine s_icge (tgt := 29) X dX10_nextBridge_11 (by decide) rfl h3 hv2 ?_ ?_
    · refine s_sub (lv2 := [(3, vI l3)]) [2] rfl ?_
      exact z_X10_nextBridge_L29 d hd K X l3 h3
    · refine s_aload_n (j := 0) (pc2 := 15) X dX10_nextBridge_14 rfl rfl ?_
      refine s_iload_n (j := 1) (pc2 := 16) X dX10_nextBridge_15 rfl rfl ?_
      refine s_iload_n (j := 2) (pc2 := 17) X dX10_nextBridge_16 rfl rfl ?_
      refine s_callVZ (d2 := d - 1) (As := [vI l1, vI l3]) (st := []) (pc2 := 20) X dX10_nextBridge_17 rfl ml_RX10_339 im_X10_canCross se_X10_canCross kX10 rfl (c_X10_canCross (d - 1) (by omega) C.1 C.2.2.1 l0 l1 l3 h1 h3) hy_X10_canCross rfl rfl hf hlo (st_room (Nat.le_of_ble_eq_true rfl)) hcs (fun v3 hv3 => ?_)
      refine s_ifne (tgt := 29) X dX10_nextBridge_20 (by decide) rfl hv3 ?_ ?_
      · refine s_sub (lv2 := [(3, vI l3)]) [2] rfl ?_
        exact z_X10_nextBridge_L29 d hd K X l3 h3
      · refine s_iinc (j := 2) (pc2 := 26) X dX10_nextBridge_23 rfl (by decide) rfl rfl rfl cat1_N (fun w4 hw4 => ?_)
        refine s_goto (pc2 := 4) X dX10_nextBridge_26 (by decide) ?_
        refine s_sub (lv2 := [(0, vR C.1.1 l0), (1, vI l1), (3, vI w4)]) [1, 2, 0] rfl ?_
        exact ih l0 l1 w4 h1 hw4
set_option maxRecDepth 4000 in
set_option maxHeartbeats 20000000 in
theorem z_X10_nextBridge (d : Nat) (hd : 4 ≤ d) {C : hCx} (K : hCtx C.1 C.2.2.1 d 0 0 "nextBridge" C) (X : hOK C cX10_nextBridge RX10 4 (some .int)) (l0 : Nat) (l1 : Int) (l2 : Int) (h1 : inI l1) (h2 : inI l2) : hSim C (some .int) 0 0 4 0 [(0, vR C.1.1 l0), (1, vI l1), (2, vI l2)] [] 0 0 (m_X10_nextBridge l0 l1 l2) := by
  obtain ⟨⟨hf, hlo⟩, ⟨hc1, hc2⟩, hf1, hl1⟩ := K_room K (by omega)
  have hcs : 0 ≤ C.2.2.2.2.1.cells ∧ 0 ≤ C.2.2.2.2.1.slots := ⟨Nat.zero_le _, Nat.zero_le _⟩
  unfold m_X10_nextBridge
  refine s_iload_n (j := 2) (pc2 := 1) X dX10_nextBridge_0 rfl rfl ?_
  refine s_iconst (n := 1) (pc2 := 2) X dX10_nextBridge_1 rfl ?_
  refine s_iadd (pc2 := 3) X dX10_nextBridge_2 rfl ?_
  refine s_istore_n (pc2 := 4) X dX10_nextBridge_3 rfl (by decide) rfl rfl cat1_I (w32_in _) (fun w1 hw1 => ?_)
  refine s_sub (lv2 := [(0, vR C.1.1 l0), (1, vI l1), (3, vI w1)]) [1, 2, 0] rfl ?_
  exact z_X10_nextBridge_L4 d hd K X 1000000000 l0 l1 w1 h1 hw1
theorem c_X10_nextBridge (d : Nat) (hd : 4 ≤ d) (G : hG) (l : Launch) (l0 : Nat) (l1 : Int) (l2 : Int) (h1 : inI l1) (h2 : inI l2) : hMet G l yX10_nextBridge cX10_nextBridge 4 (some .int) d 0 0 [vR G.1 l0, vI l1, vI l2] (m_X10_nextBridge l0 l1 l2) := by
  refine hMet.of (lv := [(0, vR G.1 l0), (1, vI l1), (2, vI l2)]) (by decide +kernel) (by simp [lg_sl, vR_cat, vI_cat, vL_cat, vS_cat2, vT_cat2]) (by simp [lv_args, vR_cat, vI_cat, vL_cat, vS_cat2, vT_cat2]) (fun C K X => ?_)
  obtain ⟨rfl, rfl, K⟩ := K
  exact z_X10_nextBridge d hd ⟨rfl, rfl, K⟩ X l0 l1 l2 h1 h2
def m_X10_keepsRow_L7 : Nat → Nat → Int → Int → hM
  | 0, _, _, _ => hfail
  | n + 1, l0, l1, l3 =>
    hif (l3 ≥ l1) (
hret 0) (
hgR 10 l0 27 fun v1 =>
  hgR 10 l0 26 fun v2 =>
  haI 20 v2 l3 fun v3 =>
  hsI 20 v1 l3 v3 <|
  hlet (w32 (l3 + 1)) fun (w4 : Int) =>
  m_X10_keepsRow_L7 n l0 l1 w4)
def m_X10_keepsRow (l0 : Nat) (l1 : Int) (l2 : Int) : hM :=
  hpI 10 l0 28 l2 <|
  hlet (0 : Int) fun (w1 : Int) =>
  m_X10_keepsRow_L7 1000000000 l0 l1 w1
set_option maxRecDepth 4000 in
theorem z_X10_keepsRow_L7 (d : Nat) (hd : 1 ≤ d) {C : hCx} (K : hCtx C.1 C.2.2.1 d 0 0 "keepsRow" C) (X : hOK C cX10_keepsRow RX10 4 none) : ∀ (n : Nat) (l0 : Nat) (l1 : Int) (l3 : Int) (h1 : inI l1) (h3 : inI l3), hSim C none 0 0 4 7 [(0, vR C.1.1 l0), (1, vI l1), (3, vI l3)] [] 0 0 (m_X10_keepsRow_L7 n l0 l1 l3) := by
  obtain ⟨⟨hf, hlo⟩, ⟨hc1, hc2⟩, hf1, hl1⟩ := K_room K (by omega)
  have hcs : 0 ≤ C.2.2.2.2.1.cells ∧ 0 ≤ C.2.2.2.2.1.slots := ⟨Nat.zero_le _, Nat.zero_le _⟩
  intro n
  induction n with
  | zero => intros; exact s_none (fun _ => rfl)
  | succ n ih =>
    intro l0 l1 l3 h1 h3
    unfold m_X10_keepsRow_L7
    refine s_iload_n (j := 2) (pc2 := 8) X dX10_keepsRow_7 rfl rfl ?_
    refine s_iload_n (j := 1) (pc2 := 9) X dX10_keepsRow_8 rfl rfl ?_
    refine s_icge (tgt := 30) X dX10_keepsRow_9 (by decide) rfl h3 h1 ?_ ?_
    · exact s_ret X dX10_keepsRow_30
    · refine s_aload_n (j := 0) (pc2 := 13) X dX10_keepsRow_12 rfl rfl ?_
      refine s_getR (pc2 := 16) X dX10_keepsRow_13 rfl fl_RX10_54 rfl (fun v1 => ?_)
      refine s_iload_n (j := 2) (pc2 := 17) X dX10_keepsRow_16 rfl rfl ?_
      refine s_aload_n (j := 0) (pc2 := 18) X dX10_keepsRow_17 rfl rfl ?_
      refine s_getR (pc2 := 21) X dX10_keepsRow_18 rfl fl_RX10_51 rfl (fun v2 => ?_)
      refine s_iload_n (j := 2) (pc2 := 22) X dX10_keepsRow_21 rfl rfl ?_
      refine s_iald (pc2 := 23) X dX10_keepsRow_22 rfl (fun v3 hv3 => ?_)
      refine s_iast (pc2 := 24) X dX10_keepsRow_23 rfl hv3 ?_
      refine s_iinc (j := 2) (pc2 := 27) X dX10_keepsRow_24 rfl (by decide) rfl rfl rfl cat1_N (fun w4 hw4 => ?_)
      refine s_goto (pc2 := 7) X dX10_keepsRow_27 (by decide) ?_
      refine s_sub (lv2 := [(0, vR C.1.1 l0), (1, vI l1), (3, vI w4)]) [1, 2, 0] rfl ?_
      exact ih l0 l1 w4 h1 hw4
set_option maxRecDepth 4000 in
set_option maxHeartbeats 20000000 in
theorem z_X10_keepsRow (d : Nat) (hd : 1 ≤ d) {C : hCx} (K : hCtx C.1 C.2.2.1 d 0 0 "keepsRow" C) (X : hOK C cX10_keepsRow RX10 4 none) (l0 : Nat) (l1 : Int) (l2 : Int) (h1 : inI l1) (h2 : inI l2) : hSim C none 0 0 4 0 [(0, vR C.1.1 l0), (1, vI l1), (2, vI l2)] [] 0 0 (m_X10_keepsRow l0 l1 l2) := by
  obtain ⟨⟨hf, hlo⟩, ⟨hc1, hc2⟩, hf1, hl1⟩ := K_room K (by omega)
  have hcs : 0 ≤ C.2.2.2.2.1.cells ∧ 0 ≤ C.2.2.2.2.1.slots := ⟨Nat.zero_le _, Nat.zero_le _⟩
  unfold m_X10_keepsRow
  refine s_aload_n (j := 0) (pc2 := 1) X dX10_keepsRow_0 rfl rfl ?_
  refine s_iload_n (j := 2) (pc2 := 2) X dX10_keepsRow_1 rfl rfl ?_
  refine s_putI (pc2 := 5) X dX10_keepsRow_2 rfl fl_RX10_391 (Or.inl rfl) rfl h2 ?_
  refine s_iconst (n := 0) (pc2 := 6) X dX10_keepsRow_5 rfl ?_
  refine s_istore_n (pc2 := 7) X dX10_keepsRow_6 rfl (by decide) rfl rfl cat1_I (inI_c 0 rfl) (fun w1 hw1 => ?_)
  refine s_sub (lv2 := [(0, vR C.1.1 l0), (1, vI l1), (3, vI w1)]) [1, 2, 0] rfl ?_
  exact z_X10_keepsRow_L7 d hd K X 1000000000 l0 l1 w1 h1 hw1
theorem c_X10_keepsRow (d : Nat) (hd : 1 ≤ d) (G : hG) (l : Launch) (l0 : Nat) (l1 : Int) (l2 : Int) (h1 : inI l1) (h2 : inI l2) : hMet G l yX10_keepsRow cX10_keepsRow 4 none d 0 0 [vR G.1 l0, vI l1, vI l2] (m_X10_keepsRow l0 l1 l2) := by
  refine hMet.of (lv := [(0, vR G.1 l0), (1, vI l1), (2, vI l2)]) (by decide +kernel) (by simp [lg_sl, vR_cat, vI_cat, vL_cat, vS_cat2, vT_cat2]) (by simp [lv_args, vR_cat, vI_cat, vL_cat, vS_cat2, vT_cat2]) (fun C K X => ?_)
  obtain ⟨rfl, rfl, K⟩ := K
  exact z_X10_keepsRow d hd ⟨rfl, rfl, K⟩ X l0 l1 l2 h1 h2
def m_X10_findsLife_L104 (k18 : Nat → Int → Int → Int → Int → hM) (l0 : Nat) (l1 : Int) (l2 : Int) (l3 : Int) (l4 : Int) (s0 : Nat) (s1 : Int) (s2 : Int) : hM :=
  hsI 20 s0 s1 s2 <|
  hgR 10 l0 26 fun v1 =>
  haI 20 v1 l4 fun v2 =>
  hgR 10 l0 20 fun v3 =>
  haI 20 v3 2 fun v4 =>
  hif (v2 ≠ v4) (
hgR 10 l0 26 fun v5 =>
  haI 20 v5 l4 fun v6 =>
  hcallV 10 l0 (m_X10_goesOver l0 l1 v6) fun _ =>
  hcallV 10 l0 (m_X10_personOf l0 l1 0) fun v7 =>
  hgR 10 l0 20 fun v8 =>
  haI 20 v8 6 fun v9 =>
  hcallV 10 l0 (m_X10_payAt l0 l1 v7 ((w32 (v9 + l4)))) fun v10 =>
  hlet ((w32 (l3 + v10))) fun (w11 : Int) =>
  hif (l4 ≥ ((w32 (l2 - 1)))) (
hcallV 10 l0 (m_X10_personOf l0 l1 0) fun v12 =>
  hcallV 10 l0 (m_X10_personOf l0 l1 1) fun v13 =>
  hif (v12 ≠ v13) (
k18 l0 l1 l2 w11 l4) (
hgI 10 l0 28 fun v14 =>
  hif (w11 ≤ v14) (
k18 l0 l1 l2 w11 l4) (
hcallV 10 l0 (m_X10_keepsRow l0 l2 w11) fun _ =>
  k18 l0 l1 l2 w11 l4))) (
hlet (w32 (l4 + 1)) fun (w15 : Int) =>
  hgR 10 l0 26 fun v16 =>
  hsI 20 v16 w15 ((-2)) <|
  k18 l0 l1 l2 w11 w15)) (
hgR 10 l0 26 fun v17 =>
  hsI 20 v17 l4 ((-2)) <|
  hlet (w32 (l4 + (-1))) fun (w18 : Int) =>
  k18 l0 l1 l2 l3 w18)
def m_X10_findsLife_L70 (k18 : Nat → Int → Int → Int → Int → hM) (l0 : Nat) (l1 : Int) (l2 : Int) (l3 : Int) (l4 : Int) : hM :=
  hgR 10 l0 26 fun v1 =>
  hgR 10 l0 26 fun v2 =>
  haI 20 v2 l4 fun v3 =>
  hif (v3 ≠ ((-2))) (
hgR 10 l0 26 fun v4 =>
  haI 20 v4 l4 fun v5 =>
  hcallV 10 l0 (m_X10_nextBridge l0 l1 v5) fun v6 =>
  m_X10_findsLife_L104 k18 l0 l1 l2 l3 l4 v1 l4 v6) (
m_X10_findsLife_L104 k18 l0 l1 l2 l3 l4 v1 l4 ((-1)))
def m_X10_findsLife_L18 : Nat → Nat → Int → Int → Int → Int → hM
  | 0, _, _, _, _, _ => hfail
  | n + 1, l0, l1, l2, l3, l4 =>
    hif (l4 < 0) (
hret 0) (
hgR 10 l0 26 fun v1 =>
  haI 20 v1 l4 fun v2 =>
  hif (v2 < ((-1))) (
m_X10_findsLife_L70 (m_X10_findsLife_L18 n) l0 l1 l2 l3 l4) (
hcallV 10 l0 (m_X10_personOf l0 l1 0) fun v3 =>
  hgR 10 l0 20 fun v4 =>
  haI 20 v4 6 fun v5 =>
  hcallV 10 l0 (m_X10_payAt l0 l1 v3 ((w32 (v5 + l4)))) fun v6 =>
  hlet ((w32 (l3 - v6))) fun (w7 : Int) =>
  hgR 10 l0 26 fun v8 =>
  haI 20 v8 l4 fun v9 =>
  hcallV 10 l0 (m_X10_goesBack l0 l1 v9) fun _ =>
  m_X10_findsLife_L70 (m_X10_findsLife_L18 n) l0 l1 l2 w7 l4))
def m_X10_findsLife (l0 : Nat) (l1 : Int) (l2 : Int) : hM :=
  hlet (0 : Int) fun (w1 : Int) =>
  hlet (0 : Int) fun (w2 : Int) =>
  hpI 10 l0 28 ((-1)) <|
  hgR 10 l0 26 fun v3 =>
  hsI 20 v3 0 ((-2)) <|
  m_X10_findsLife_L18 1000000000 l0 l1 l2 w1 w2
set_option maxRecDepth 4000 in
theorem z_X10_findsLife_L104 (d : Nat) (hd : 5 ≤ d) {C : hCx} (K : hCtx C.1 C.2.2.1 d 0 0 "findsLife" C) (X : hOK C cX10_findsLife RX10 5 none) (k18 : Nat → Int → Int → Int → Int → hM) (hk18 : ∀ (l0 : Nat) (l1 : Int) (l2 : Int) (l3 : Int) (l4 : Int), inI l1 → inI l2 → inI l3 → inI l4 → hSim C none 0 0 5 18 [(0, vR C.1.1 l0), (1, vI l1), (2, vI l2), (3, vI l3), (4, vI l4)] [] 0 0 (k18 l0 l1 l2 l3 l4)) (l0 : Nat) (l1 : Int) (l2 : Int) (l3 : Int) (l4 : Int) (s0 : Nat) (s1 : Int) (s2 : Int) (h1 : inI l1) (h2 : inI l2) (h3 : inI l3) (h4 : inI l4) (g1 : inI s1) (g2 : inI s2) : hSim C none 0 0 5 104 [(0, vR C.1.1 l0), (1, vI l1), (2, vI l2), (3, vI l3), (4, vI l4)] [vI s2, vI s1, vR C.1.1 s0] 0 0 (m_X10_findsLife_L104 k18 l0 l1 l2 l3 l4 s0 s1 s2) := by
  obtain ⟨⟨hf, hlo⟩, ⟨hc1, hc2⟩, hf1, hl1⟩ := K_room K (by omega)
  have hcs : 0 ≤ C.2.2.2.2.1.cells ∧ 0 ≤ C.2.2.2.2.1.slots := ⟨Nat.zero_le _, Nat.zero_le _⟩
  unfold m_X10_findsLife_L104
  refine s_iast (pc2 := 105) X dX10_findsLife_104 rfl g2 ?_
  refine s_aload_n (j := 0) (pc2 := 106) X dX10_findsLife_105 rfl rfl ?_
  refine s_getR (pc2 := 109) X dX10_findsLife_106 rfl fl_RX10_51 rfl (fun v1 => ?_)
  refine s_iload (j := 4) (pc2 := 111) X dX10_findsLife_109 rfl rfl ?_
  refine s_iald (pc2 := 112) X dX10_findsLife_111 rfl (fun v2 hv2 => ?_)
  refine s_aload_n (j := 0) (pc2 := 113) X dX10_findsLife_112 rfl rfl ?_
  refine s_getR (pc2 := 116) X dX10_findsLife_113 rfl fl_RX10_39 rfl (fun v3 => ?_)
  refine s_iconst (n := 2) (pc2 := 117) X dX10_findsLife_116 rfl ?_
  refine s_iald (pc2 := 118) X dX10_findsLife_117 rfl (fun v4 hv4 => ?_)
  refine s_icne (tgt := 136) X dX10_findsLife_118 (by decide) rfl hv2 hv4 ?_ ?_
  · refine s_aload_n (j := 0) (pc2 := 137) X dX10_findsLife_136 rfl rfl ?_
    refine s_iload_n (j := 1) (pc2 := 138) X dX10_findsLife_137 rfl rfl ?_
    refine s_aload_n (j := 0) (pc2 := 139) X dX10_findsLife_138 rfl rfl ?_
    refine s_getR (pc2 := 142) X dX10_findsLife_139 rfl fl_RX10_51 rfl (fun v5 => ?_)
    refine s_iload (j := 4) (pc2 := 144) X dX10_findsLife_142 rfl rfl ?_
    refine s_iald (pc2 := 145) X dX10_findsLife_144 rfl (fun v6 hv6 => ?_)
    refine s_callVV (d2 := d - 1) (As := [vI l1, vI v6]) (st := []) (pc2 := 148) X dX10_findsLife_145 rfl ml_RX10_400 im_X10_goesOver se_X10_goesOver kX10 rfl (c_X10_goesOver (d - 1) (by omega) C.1 C.2.2.1 l0 l1 v6 h1 hv6) hy_X10_goesOver rfl rfl hf hlo (st_room (Nat.le_of_ble_eq_true rfl)) hcs (fun _ => ?_)
    refine s_iload_n (j := 3) (pc2 := 149) X dX10_findsLife_148 rfl rfl ?_
    refine s_aload_n (j := 0) (pc2 := 150) X dX10_findsLife_149 rfl rfl ?_
    refine s_iload_n (j := 1) (pc2 := 151) X dX10_findsLife_150 rfl rfl ?_
    refine s_aload_n (j := 0) (pc2 := 152) X dX10_findsLife_151 rfl rfl ?_
    refine s_iload_n (j := 1) (pc2 := 153) X dX10_findsLife_152 rfl rfl ?_
    refine s_iconst (n := 0) (pc2 := 154) X dX10_findsLife_153 rfl ?_
    refine s_callVI (d2 := d - 1) (As := [vI l1, vI 0]) (st := [vI l1, vR C.1.1 l0, vI l3]) (pc2 := 157) X dX10_findsLife_154 rfl ml_RX10_307 im_X10_personOf se_X10_personOf kX10 rfl (c_X10_personOf (d - 1) (by omega) C.1 C.2.2.1 l0 l1 0 h1 (inI_c 0 rfl)) hy_X10_personOf rfl rfl hf hlo (st_room (Nat.le_of_ble_eq_true rfl)) hcs (fun v7 hv7 => ?_)
    refine s_aload_n (j := 0) (pc2 := 158) X dX10_findsLife_157 rfl rfl ?_
    refine s_getR (pc2 := 161) X dX10_findsLife_158 rfl fl_RX10_39 rfl (fun v8 => ?_)
    refine s_bipush (n := 6) (pc2 := 163) X dX10_findsLife_161 rfl rfl ?_
    refine s_iald (pc2 := 164) X dX10_findsLife_163 rfl (fun v9 hv9 => ?_)
    refine s_iload (j := 4) (pc2 := 166) X dX10_findsLife_164 rfl rfl ?_
    refine s_iadd (pc2 := 167) X dX10_findsLife_166 rfl ?_
    refine s_callVI (d2 := d - 1) (As := [vI l1, vI v7, vI ((w32 (v9 + l4)))]) (st := [vI l3]) (pc2 := 170) X dX10_findsLife_167 rfl ml_RX10_354 im_X10_payAt se_X10_payAt kX10 rfl (c_X10_payAt (d - 1) (by omega) C.1 C.2.2.1 l0 l1 v7 ((w32 (v9 + l4))) h1 hv7 (w32_in _)) hy_X10_payAt rfl rfl hf hlo (st_room (Nat.le_of_ble_eq_true rfl)) hcs (fun v10 hv10 => ?_)
    refine s_iadd (pc2 := 171) X dX10_findsLife_170 rfl ?_
    refine s_istore_n (pc2 := 172) X dX10_findsLife_171 rfl (by decide) rfl rfl cat1_I (w32_in _) (fun w11 hw11 => ?_)
    refine s_iload (j := 4) (pc2 := 174) X dX10_findsLife_172 rfl rfl ?_
    refine s_iload_n (j := 3) (pc2 := 175) X dX10_findsLife_174 rfl rfl ?_
    refine s_iconst (n := 1) (pc2 := 176) X dX10_findsLife_175 rfl ?_
    refine s_isub (pc2 := 177) X dX10_findsLife_176 rfl ?_
    refine s_icge (tgt := 195) X dX10_findsLife_177 (by decide) rfl h4 (w32_in _) ?_ ?_
    · refine s_aload_n (j := 1) (pc2 := 196) X dX10_findsLife_195 rfl rfl ?_
      refine s_iload_n (j := 2) (pc2 := 197) X dX10_findsLife_196 rfl rfl ?_
      refine s_iconst (n := 0) (pc2 := 198) X dX10_findsLife_197 rfl ?_
      refine s_callVI (d2 := d - 1) (As := [vI l1, vI 0]) (st := []) (pc2 := 201) X dX10_findsLife_198 rfl ml_RX10_307 im_X10_personOf se_X10_personOf kX10 rfl (c_X10_personOf (d - 1) (by omega) C.1 C.2.2.1 l0 l1 0 h1 (inI_c 0 rfl)) hy_X10_personOf rfl rfl hf hlo (st_room (Nat.le_of_ble_eq_true rfl)) hcs (fun v12 hv12 => ?_)
      refine s_aload_n (j := 1) (pc2 := 202) X dX10_findsLife_201 rfl rfl ?_
      refine s_iload_n (j := 2) (pc2 := 203) X dX10_findsLife_202 rfl rfl ?_
      refine s_iconst (n := 1) (pc2 := 204) X dX10_findsLife_203 rfl ?_
      refine s_callVI (d2 := d - 1) (As := [vI l1, vI 1]) (st := [vI v12]) (pc2 := 207) X dX10_findsLife_204 rfl ml_RX10_307 im_X10_personOf se_X10_personOf kX10 rfl (c_X10_personOf (d - 1) (by omega) C.1 C.2.2.1 l0 l1 1 h1 (inI_c 1 rfl)) hy_X10_personOf rfl rfl hf hlo (st_room (Nat.le_of_ble_eq_true rfl)) hcs (fun v13 hv13 => ?_)
      refine s_icne (tgt := 18) X dX10_findsLife_207 (by decide) rfl hv12 hv13 ?_ ?_
      · refine s_sub (lv2 := [(0, vR C.1.1 l0), (1, vI l1), (2, vI l2), (3, vI w11), (4, vI l4)]) [1, 2, 3, 0, 4] rfl ?_
        exact hk18 l0 l1 l2 w11 l4 h1 h2 hw11 h4
      · refine s_iload_n (j := 0) (pc2 := 211) X dX10_findsLife_210 rfl rfl ?_
        refine s_aload_n (j := 1) (pc2 := 212) X dX10_findsLife_211 rfl rfl ?_
        refine s_getI (pc2 := 215) X dX10_findsLife_212 rfl fl_RX10_391 rfl (fun v14 hv14 => ?_)
        refine s_icle (tgt := 18) X dX10_findsLife_215 (by decide) rfl hw11 hv14 ?_ ?_
        · refine s_sub (lv2 := [(0, vR C.1.1 l0), (1, vI l1), (2, vI l2), (3, vI w11), (4, vI l4)]) [1, 2, 3, 0, 4] rfl ?_
          exact hk18 l0 l1 l2 w11 l4 h1 h2 hw11 h4
        · refine s_aload_n (j := 1) (pc2 := 219) X dX10_findsLife_218 rfl rfl ?_
          refine s_iload_n (j := 3) (pc2 := 220) X dX10_findsLife_219 rfl rfl ?_
          refine s_iload_n (j := 0) (pc2 := 221) X dX10_findsLife_220 rfl rfl ?_
          refine s_callVV (d2 := d - 1) (As := [vI l2, vI w11]) (st := []) (pc2 := 224) X dX10_findsLife_221 rfl ml_RX10_403 im_X10_keepsRow se_X10_keepsRow kX10 rfl (c_X10_keepsRow (d - 1) (by omega) C.1 C.2.2.1 l0 l2 w11 h2 hw11) hy_X10_keepsRow rfl rfl hf hlo (st_room (Nat.le_of_ble_eq_true rfl)) hcs (fun _ => ?_)
          refine s_goto (pc2 := 18) X dX10_findsLife_224 (by decide) ?_
          refine s_sub (lv2 := [(0, vR C.1.1 l0), (1, vI l1), (2, vI l2), (3, vI w11), (4, vI l4)]) [1, 2, 3, 0, 4] rfl ?_
          exact hk18 l0 l1 l2 w11 l4 h1 h2 hw11 h4
    · refine s_iinc (j := 4) (pc2 := 183) X dX10_findsLife_180 rfl (by decide) rfl rfl rfl cat1_I (fun w15 hw15 => ?_)
      refine s_aload_n (j := 2) (pc2 := 184) X dX10_findsLife_183 rfl rfl ?_
      refine s_getR (pc2 := 187) X dX10_findsLife_184 rfl fl_RX10_51 rfl (fun v16 => ?_)
      refine s_iload (j := 0) (pc2 := 189) X dX10_findsLife_187 rfl rfl ?_
      refine s_bipush (n := (-2)) (pc2 := 191) X dX10_findsLife_189 rfl rfl ?_
      refine s_iast (pc2 := 192) X dX10_findsLife_191 rfl (inI_c (-2) rfl) ?_
      refine s_goto (pc2 := 18) X dX10_findsLife_192 (by decide) ?_
      refine s_sub (lv2 := [(0, vR C.1.1 l0), (1, vI l1), (2, vI l2), (3, vI w11), (4, vI w15)]) [2, 3, 4, 1, 0] rfl ?_
      exact hk18 l0 l1 l2 w11 w15 h1 h2 hw11 hw15
  · refine s_aload_n (j := 0) (pc2 := 122) X dX10_findsLife_121 rfl rfl ?_
    refine s_getR (pc2 := 125) X dX10_findsLife_122 rfl fl_RX10_51 rfl (fun v17 => ?_)
    refine s_iload (j := 4) (pc2 := 127) X dX10_findsLife_125 rfl rfl ?_
    refine s_bipush (n := (-2)) (pc2 := 129) X dX10_findsLife_127 rfl rfl ?_
    refine s_iast (pc2 := 130) X dX10_findsLife_129 rfl (inI_c (-2) rfl) ?_
    refine s_iinc (j := 4) (pc2 := 133) X dX10_findsLife_130 rfl (by decide) rfl rfl rfl cat1_I (fun w18 hw18 => ?_)
    refine s_goto (pc2 := 18) X dX10_findsLife_133 (by decide) ?_
    refine s_sub (lv2 := [(0, vR C.1.1 l0), (1, vI l1), (2, vI l2), (3, vI l3), (4, vI w18)]) [1, 2, 3, 4, 0] rfl ?_
    exact hk18 l0 l1 l2 l3 w18 h1 h2 h3 hw18
set_option maxRecDepth 4000 in
theorem z_X10_findsLife_L70 (d : Nat) (hd : 5 ≤ d) {C : hCx} (K : hCtx C.1 C.2.2.1 d 0 0 "findsLife" C) (X : hOK C cX10_findsLife RX10 5 none) (k18 : Nat → Int → Int → Int → Int → hM) (hk18 : ∀ (l0 : Nat) (l1 : Int) (l2 : Int) (l3 : Int) (l4 : Int), inI l1 → inI l2 → inI l3 → inI l4 → hSim C none 0 0 5 18 [(0, vR C.1.1 l0), (1, vI l1), (2, vI l2), (3, vI l3), (4, vI l4)] [] 0 0 (k18 l0 l1 l2 l3 l4)) (l0 : Nat) (l1 : Int) (l2 : Int) (l3 : Int) (l4 : Int) (h1 : inI l1) (h2 : inI l2) (h3 : inI l3) (h4 : inI l4) : hSim C none 0 0 5 70 [(0, vR C.1.1 l0), (1, vI l1), (2, vI l2), (3, vI l3), (4, vI l4)] [] 0 0 (m_X10_findsLife_L70 k18 l0 l1 l2 l3 l4) := by
  obtain ⟨⟨hf, hlo⟩, ⟨hc1, hc2⟩, hf1, hl1⟩ := K_room K (by omega)
  have hcs : 0 ≤ C.2.2.2.2.1.cells ∧ 0 ≤ C.2.2.2.2.1.slots := ⟨Nat.zero_le _, Nat.zero_le _⟩
  unfold m_X10_findsLife_L70
  refine s_aload_n (j := 0) (pc2 := 71) X dX10_findsLife_70 rfl rfl ?_
  refine s_getR (pc2 := 74) X dX10_findsLife_71 rfl fl_RX10_51 rfl (fun v1 => ?_)
  refine s_iload (j := 4) (pc2 := 76) X dX10_findsLife_74 rfl rfl ?_
  refine s_aload_n (j := 0) (pc2 := 77) X dX10_findsLife_76 rfl rfl ?_
  refine s_getR (pc2 := 80) X dX10_findsLife_77 rfl fl_RX10_51 rfl (fun v2 => ?_)
  refine s_iload (j := 4) (pc2 := 82) X dX10_findsLife_80 rfl rfl ?_
  refine s_iald (pc2 := 83) X dX10_findsLife_82 rfl (fun v3 hv3 => ?_)
  refine s_bipush (n := (-2)) (pc2 := 85) X dX10_findsLife_83 rfl rfl ?_
  refine s_icne (tgt := 92) X dX10_findsLife_85 (by decide) rfl hv3 (inI_c (-2) rfl) ?_ ?_
  · refine s_aload_n (j := 0) (pc2 := 93) X dX10_findsLife_92 rfl rfl ?_
    refine s_iload_n (j := 1) (pc2 := 94) X dX10_findsLife_93 rfl rfl ?_
    refine s_aload_n (j := 0) (pc2 := 95) X dX10_findsLife_94 rfl rfl ?_
    refine s_getR (pc2 := 98) X dX10_findsLife_95 rfl fl_RX10_51 rfl (fun v4 => ?_)
    refine s_iload (j := 4) (pc2 := 100) X dX10_findsLife_98 rfl rfl ?_
    refine s_iald (pc2 := 101) X dX10_findsLife_100 rfl (fun v5 hv5 => ?_)
    refine s_callVI (d2 := d - 1) (As := [vI l1, vI v5]) (st := [vI l4, vR C.1.1 v1]) (pc2 := 104) X dX10_findsLife_101 rfl ml_RX10_397 im_X10_nextBridge se_X10_nextBridge kX10 rfl (c_X10_nextBridge (d - 1) (by omega) C.1 C.2.2.1 l0 l1 v5 h1 hv5) hy_X10_nextBridge rfl rfl hf hlo (st_room (Nat.le_of_ble_eq_true rfl)) hcs (fun v6 hv6 => ?_)
    exact z_X10_findsLife_L104 d hd K X k18 hk18 l0 l1 l2 l3 l4 v1 l4 v6 h1 h2 h3 h4 h4 hv6
  · refine s_iconst (n := (-1)) (pc2 := 89) X dX10_findsLife_88 rfl ?_
    refine s_goto (pc2 := 104) X dX10_findsLife_89 (by decide) ?_
    exact z_X10_findsLife_L104 d hd K X k18 hk18 l0 l1 l2 l3 l4 v1 l4 ((-1)) h1 h2 h3 h4 h4 (inI_c (-1) rfl)
set_option maxRecDepth 4000 in
theorem z_X10_findsLife_L18 (d : Nat) (hd : 5 ≤ d) {C : hCx} (K : hCtx C.1 C.2.2.1 d 0 0 "findsLife" C) (X : hOK C cX10_findsLife RX10 5 none) : ∀ (n : Nat) (l0 : Nat) (l1 : Int) (l2 : Int) (l3 : Int) (l4 : Int) (h1 : inI l1) (h2 : inI l2) (h3 : inI l3) (h4 : inI l4), hSim C none 0 0 5 18 [(0, vR C.1.1 l0), (1, vI l1), (2, vI l2), (3, vI l3), (4, vI l4)] [] 0 0 (m_X10_findsLife_L18 n l0 l1 l2 l3 l4) := by
  obtain ⟨⟨hf, hlo⟩, ⟨hc1, hc2⟩, hf1, hl1⟩ := K_room K (by omega)
  have hcs : 0 ≤ C.2.2.2.2.1.cells ∧ 0 ≤ C.2.2.2.2.1.slots := ⟨Nat.zero_le _, Nat.zero_le _⟩
  intro n
  induction n with
  | zero => intros; exact s_none (fun _ => rfl)
  | succ n ih =>
    intro l0 l1 l2 l3 l4 h1 h2 h3 h4
    unfold m_X10_findsLife_L18
    refine s_iload (j := 4) (pc2 := 20) X dX10_findsLife_18 rfl rfl ?_
    refine s_iflt (tgt := 227) X dX10_findsLife_20 (by decide) rfl h4 ?_ ?_
    · exact s_ret X dX10_findsLife_227
    · refine s_aload_n (j := 0) (pc2 := 24) X dX10_findsLife_23 rfl rfl ?_
      refine s_getR (pc2 := 27) X dX10_findsLife_24 rfl fl_RX10_51 rfl (fun v1 => ?_)
      refine s_iload (j := 4) (pc2 := 29) X dX10_findsLife_27 rfl rfl ?_
      refine s_iald (pc2 := 30) X dX10_findsLife_29 rfl (fun v2 hv2 => ?_)
      refine s_iconst (n := (-1)) (pc2 := 31) X dX10_findsLife_30 rfl ?_
      refine s_iclt (tgt := 70) X dX10_findsLife_31 (by decide) rfl hv2 (inI_c (-1) rfl) ?_ ?_
      · exact z_X10_findsLife_L70 d hd K X (m_X10_findsLife_L18 n) ih l0 l1 l2 l3 l4 h1 h2 h3 h4
      · refine s_iload_n (j := 3) (pc2 := 35) X dX10_findsLife_34 rfl rfl ?_
        refine s_aload_n (j := 0) (pc2 := 36) X dX10_findsLife_35 rfl rfl ?_
        refine s_iload_n (j := 1) (pc2 := 37) X dX10_findsLife_36 rfl rfl ?_
        refine s_aload_n (j := 0) (pc2 := 38) X dX10_findsLife_37 rfl rfl ?_
        refine s_iload_n (j := 1) (pc2 := 39) X dX10_findsLife_38 rfl rfl ?_
        refine s_iconst (n := 0) (pc2 := 40) X dX10_findsLife_39 rfl ?_
        refine s_callVI (d2 := d - 1) (As := [vI l1, vI 0]) (st := [vI l1, vR C.1.1 l0, vI l3]) (pc2 := 43) X dX10_findsLife_40 rfl ml_RX10_307 im_X10_personOf se_X10_personOf kX10 rfl (c_X10_personOf (d - 1) (by omega) C.1 C.2.2.1 l0 l1 0 h1 (inI_c 0 rfl)) hy_X10_personOf rfl rfl hf hlo (st_room (Nat.le_of_ble_eq_true rfl)) hcs (fun v3 hv3 => ?_)
        refine s_aload_n (j := 0) (pc2 := 44) X dX10_findsLife_43 rfl rfl ?_
        refine s_getR (pc2 := 47) X dX10_findsLife_44 rfl fl_RX10_39 rfl (fun v4 => ?_)
        refine s_bipush (n := 6) (pc2 := 49) X dX10_findsLife_47 rfl rfl ?_
        refine s_iald (pc2 := 50) X dX10_findsLife_49 rfl (fun v5 hv5 => ?_)
        refine s_iload (j := 4) (pc2 := 52) X dX10_findsLife_50 rfl rfl ?_
        refine s_iadd (pc2 := 53) X dX10_findsLife_52 rfl ?_
        refine s_callVI (d2 := d - 1) (As := [vI l1, vI v3, vI ((w32 (v5 + l4)))]) (st := [vI l3]) (pc2 := 56) X dX10_findsLife_53 rfl ml_RX10_354 im_X10_payAt se_X10_payAt kX10 rfl (c_X10_payAt (d - 1) (by omega) C.1 C.2.2.1 l0 l1 v3 ((w32 (v5 + l4))) h1 hv3 (w32_in _)) hy_X10_payAt rfl rfl hf hlo (st_room (Nat.le_of_ble_eq_true rfl)) hcs (fun v6 hv6 => ?_)
        refine s_isub (pc2 := 57) X dX10_findsLife_56 rfl ?_
        refine s_istore_n (pc2 := 58) X dX10_findsLife_57 rfl (by decide) rfl rfl cat1_I (w32_in _) (fun w7 hw7 => ?_)
        refine s_aload_n (j := 1) (pc2 := 59) X dX10_findsLife_58 rfl rfl ?_
        refine s_iload_n (j := 2) (pc2 := 60) X dX10_findsLife_59 rfl rfl ?_
        refine s_aload_n (j := 1) (pc2 := 61) X dX10_findsLife_60 rfl rfl ?_
        refine s_getR (pc2 := 64) X dX10_findsLife_61 rfl fl_RX10_51 rfl (fun v8 => ?_)
        refine s_iload (j := 4) (pc2 := 66) X dX10_findsLife_64 rfl rfl ?_
        refine s_iald (pc2 := 67) X dX10_findsLife_66 rfl (fun v9 hv9 => ?_)
        refine s_callVV (d2 := d - 1) (As := [vI l1, vI v9]) (st := []) (pc2 := 70) X dX10_findsLife_67 rfl ml_RX10_394 im_X10_goesBack se_X10_goesBack kX10 rfl (c_X10_goesBack (d - 1) (by omega) C.1 C.2.2.1 l0 l1 v9 h1 hv9) hy_X10_goesBack rfl rfl hf hlo (st_room (Nat.le_of_ble_eq_true rfl)) hcs (fun _ => ?_)
        refine s_sub (lv2 := [(0, vR C.1.1 l0), (1, vI l1), (2, vI l2), (3, vI w7), (4, vI l4)]) [1, 2, 3, 0, 4] rfl ?_
        exact z_X10_findsLife_L70 d hd K X (m_X10_findsLife_L18 n) ih l0 l1 l2 w7 l4 h1 h2 hw7 h4
set_option maxRecDepth 4000 in
set_option maxHeartbeats 20000000 in
theorem z_X10_findsLife (d : Nat) (hd : 5 ≤ d) {C : hCx} (K : hCtx C.1 C.2.2.1 d 0 0 "findsLife" C) (X : hOK C cX10_findsLife RX10 5 none) (l0 : Nat) (l1 : Int) (l2 : Int) (h1 : inI l1) (h2 : inI l2) : hSim C none 0 0 5 0 [(0, vR C.1.1 l0), (1, vI l1), (2, vI l2)] [] 0 0 (m_X10_findsLife l0 l1 l2) := by
  obtain ⟨⟨hf, hlo⟩, ⟨hc1, hc2⟩, hf1, hl1⟩ := K_room K (by omega)
  have hcs : 0 ≤ C.2.2.2.2.1.cells ∧ 0 ≤ C.2.2.2.2.1.slots := ⟨Nat.zero_le _, Nat.zero_le _⟩
  unfold m_X10_findsLife
  refine s_iconst (n := 0) (pc2 := 1) X dX10_findsLife_0 rfl ?_
  refine s_istore_n (pc2 := 2) X dX10_findsLife_1 rfl (by decide) rfl rfl cat1_I (inI_c 0 rfl) (fun w1 hw1 => ?_)
  refine s_iconst (n := 0) (pc2 := 3) X dX10_findsLife_2 rfl ?_
  refine s_istore (pc2 := 5) X dX10_findsLife_3 rfl (by decide) rfl rfl cat1_I (inI_c 0 rfl) (fun w2 hw2 => ?_)
  refine s_aload_n (j := 2) (pc2 := 6) X dX10_findsLife_5 rfl rfl ?_
  refine s_iconst (n := (-1)) (pc2 := 7) X dX10_findsLife_6 rfl ?_
  refine s_putI (pc2 := 10) X dX10_findsLife_7 rfl fl_RX10_391 (Or.inl rfl) rfl (inI_c (-1) rfl) ?_
  refine s_aload_n (j := 2) (pc2 := 11) X dX10_findsLife_10 rfl rfl ?_
  refine s_getR (pc2 := 14) X dX10_findsLife_11 rfl fl_RX10_51 rfl (fun v3 => ?_)
  refine s_iconst (n := 0) (pc2 := 15) X dX10_findsLife_14 rfl ?_
  refine s_bipush (n := (-2)) (pc2 := 17) X dX10_findsLife_15 rfl rfl ?_
  refine s_iast (pc2 := 18) X dX10_findsLife_17 rfl (inI_c (-2) rfl) ?_
  refine s_sub (lv2 := [(0, vR C.1.1 l0), (1, vI l1), (2, vI l2), (3, vI w1), (4, vI w2)]) [2, 3, 4, 1, 0] rfl ?_
  exact z_X10_findsLife_L18 d hd K X 1000000000 l0 l1 l2 w1 w2 h1 h2 hw1 hw2
theorem c_X10_findsLife (d : Nat) (hd : 5 ≤ d) (G : hG) (l : Launch) (l0 : Nat) (l1 : Int) (l2 : Int) (h1 : inI l1) (h2 : inI l2) : hMet G l yX10_findsLife cX10_findsLife 5 none d 0 0 [vR G.1 l0, vI l1, vI l2] (m_X10_findsLife l0 l1 l2) := by
  refine hMet.of (lv := [(0, vR G.1 l0), (1, vI l1), (2, vI l2)]) (by decide +kernel) (by simp [lg_sl, vR_cat, vI_cat, vL_cat, vS_cat2, vT_cat2]) (by simp [lv_args, vR_cat, vI_cat, vL_cat, vS_cat2, vT_cat2]) (fun C K X => ?_)
  obtain ⟨rfl, rfl, K⟩ := K
  exact z_X10_findsLife d hd ⟨rfl, rfl, K⟩ X l0 l1 l2 h1 h2
def m_X10_life_L32 : hM :=
  hret ((-3))
def m_X10_life_L80 (s0 : Int) : hM :=
  hret s0
def m_X10_life (l0 : Nat) (l1 : Int) (l2 : Int) (l3 : Int) : hM :=
  hcallV 10 l0 (m_X10_isPerson l0 l1) fun v1 =>
  hif (v1 = 0) (
m_X10_life_L32) (
hcall (m_X10_in l2 1 6) fun v2 =>
  hif (v2 = 0) (
m_X10_life_L32) (
hcall (m_X10_in l3 0 6) fun v3 =>
  hif (v3 ≠ 0) (
hcallV 10 l0 (m_X10_findsLife l0 l1 l2) fun _ =>
  hgI 10 l0 28 fun v4 =>
  hif (v4 ≥ 0) (
hif (l3 ≠ 0) (
hif (l3 ≤ l2) (
hgR 10 l0 27 fun v5 =>
  haI 20 v5 ((w32 (l3 - 1))) fun v6 =>
  m_X10_life_L80 v6) (
m_X10_life_L80 ((-2)))) (
hgI 10 l0 28 fun v7 =>
  m_X10_life_L80 v7)) (
hret ((-2)))) (
m_X10_life_L32)))
set_option maxRecDepth 4000 in
theorem z_X10_life_L32 (d : Nat) (hd : 6 ≤ d) {C : hCx} (K : hCtx C.1 C.2.2.1 d 0 0 "life" C) (X : hOK C cX10_life RX10 4 (some .int)) : hSim C (some .int) 0 0 4 32 [] [] 0 0 (m_X10_life_L32) := by
  obtain ⟨⟨hf, hlo⟩, ⟨hc1, hc2⟩, hf1, hl1⟩ := K_room K (by omega)
  have hcs : 0 ≤ C.2.2.2.2.1.cells ∧ 0 ≤ C.2.2.2.2.1.slots := ⟨Nat.zero_le _, Nat.zero_le _⟩
  unfold m_X10_life_L32
  refine s_bipush (n := (-3)) (pc2 := 34) X dX10_life_32 rfl rfl ?_
  exact s_iret X dX10_life_34 (inI_c (-3) rfl)
set_option maxRecDepth 4000 in
theorem z_X10_life_L80 (d : Nat) (hd : 6 ≤ d) {C : hCx} (K : hCtx C.1 C.2.2.1 d 0 0 "life" C) (X : hOK C cX10_life RX10 4 (some .int)) (s0 : Int) (g0 : inI s0) : hSim C (some .int) 0 0 4 80 [] [vI s0] 0 0 (m_X10_life_L80 s0) := by
  obtain ⟨⟨hf, hlo⟩, ⟨hc1, hc2⟩, hf1, hl1⟩ := K_room K (by omega)
  have hcs : 0 ≤ C.2.2.2.2.1.cells ∧ 0 ≤ C.2.2.2.2.1.slots := ⟨Nat.zero_le _, Nat.zero_le _⟩
  unfold m_X10_life_L80
  exact s_iret X dX10_life_80 g0
set_option maxRecDepth 4000 in
set_option maxHeartbeats 20000000 in
theorem z_X10_life (d : Nat) (hd : 6 ≤ d) {C : hCx} (K : hCtx C.1 C.2.2.1 d 0 0 "life" C) (X : hOK C cX10_life RX10 4 (some .int)) (l0 : Nat) (l1 : Int) (l2 : Int) (l3 : Int) (h1 : inI l1) (h2 : inI l2) (h3 : inI l3) : hSim C (some .int) 0 0 4 0 [(0, vR C.1.1 l0), (1, vI l1), (2, vI l2), (3, vI l3)] [] 0 0 (m_X10_life l0 l1 l2 l3) := by
  obtain ⟨⟨hf, hlo⟩, ⟨hc1, hc2⟩, hf1, hl1⟩ := K_room K (by omega)
  have hcs : 0 ≤ C.2.2.2.2.1.cells ∧ 0 ≤ C.2.2.2.2.1.slots := ⟨Nat.zero_le _, Nat.zero_le _⟩
  unfold m_X10_life
  refine s_aload_n (j := 0) (pc2 := 1) X dX10_life_0 rfl rfl ?_
  refine s_iload_n (j := 1) (pc2 := 2) X dX10_life_1 rfl rfl ?_
  refine s_callVZ (d2 := d - 1) (As := [vI l1]) (st := []) (pc2 := 5) X dX10_life_2 rfl ml_RX10_316 im_X10_isPerson se_X10_isPerson kX10 rfl (c_X10_isPerson (d - 1) (by omega) C.1 C.2.2.1 l0 l1 h1) hy_X10_isPerson rfl rfl hf hlo (st_room (Nat.le_of_ble_eq_true rfl)) hcs (fun v1 hv1 => ?_)
  refine s_ifeq (tgt := 32) X dX10_life_5 (by decide) rfl hv1 ?_ ?_
  · refine s_sub (lv2 := []) [] rfl ?_
    exact z_X10_life_L32 d hd K X
  · refine s_iload_n (j := 2) (pc2 := 9) X dX10_life_8 rfl rfl ?_
    refine s_i2l (pc2 := 10) X dX10_life_9 rfl h2 ?_
    refine s_lconst (z := 1) (pc2 := 11) X dX10_life_10 rfl rfl ?_
    refine s_ldc2 (z := 6) (pc2 := 14) X dX10_life_11 rfl kc_RX10_406 ?_
    refine s_callSZ (d2 := d - 1) (As := [vL l2, vL 1, vL 6]) (st := []) (pc2 := 17) X dX10_life_14 rfl ml_RX10_118 sm_X10_in (c_X10_in (d - 1) (by omega) C.1 C.2.2.1 l2 1 6 (inL_of h2) (inL_c 1 rfl) (inL_c 6 rfl)) hy_X10_in rfl rfl hf hlo (st_room (Nat.le_of_ble_eq_true rfl)) hcs (fun v2 hv2 => ?_)
    refine s_ifeq (tgt := 32) X dX10_life_17 (by decide) rfl hv2 ?_ ?_
    · refine s_sub (lv2 := []) [] rfl ?_
      exact z_X10_life_L32 d hd K X
    · refine s_iload_n (j := 3) (pc2 := 21) X dX10_life_20 rfl rfl ?_
      refine s_i2l (pc2 := 22) X dX10_life_21 rfl h3 ?_
      refine s_lconst (z := 0) (pc2 := 23) X dX10_life_22 rfl rfl ?_
      refine s_ldc2 (z := 6) (pc2 := 26) X dX10_life_23 rfl kc_RX10_406 ?_
      refine s_callSZ (d2 := d - 1) (As := [vL l3, vL 0, vL 6]) (st := []) (pc2 := 29) X dX10_life_26 rfl ml_RX10_118 sm_X10_in (c_X10_in (d - 1) (by omega) C.1 C.2.2.1 l3 0 6 (inL_of h3) (inL_c 0 rfl) (inL_c 6 rfl)) hy_X10_in rfl rfl hf hlo (st_room (Nat.le_of_ble_eq_true rfl)) hcs (fun v3 hv3 => ?_)
      refine s_ifne (tgt := 35) X dX10_life_29 (by decide) rfl hv3 ?_ ?_
      · refine s_aload_n (j := 0) (pc2 := 36) X dX10_life_35 rfl rfl ?_
        refine s_iload_n (j := 1) (pc2 := 37) X dX10_life_36 rfl rfl ?_
        refine s_iload_n (j := 2) (pc2 := 38) X dX10_life_37 rfl rfl ?_
        refine s_callVV (d2 := d - 1) (As := [vI l1, vI l2]) (st := []) (pc2 := 41) X dX10_life_38 rfl ml_RX10_408 im_X10_findsLife se_X10_findsLife kX10 rfl (c_X10_findsLife (d - 1) (by omega) C.1 C.2.2.1 l0 l1 l2 h1 h2) hy_X10_findsLife rfl rfl hf hlo (st_room (Nat.le_of_ble_eq_true rfl)) hcs (fun _ => ?_)
        refine s_aload_n (j := 0) (pc2 := 42) X dX10_life_41 rfl rfl ?_
        refine s_getI (pc2 := 45) X dX10_life_42 rfl fl_RX10_391 rfl (fun v4 hv4 => ?_)
        refine s_ifge (tgt := 51) X dX10_life_45 (by decide) rfl hv4 ?_ ?_
        · refine s_iload_n (j := 3) (pc2 := 52) X dX10_life_51 rfl rfl ?_
          refine s_ifne (tgt := 62) X dX10_life_52 (by decide) rfl h3 ?_ ?_
          · refine s_iload_n (j := 3) (pc2 := 63) X dX10_life_62 rfl rfl ?_
            refine s_iload_n (j := 2) (pc2 := 64) X dX10_life_63 rfl rfl ?_
            refine s_icle (tgt := 72) X dX10_life_64 (by decide) rfl h3 h2 ?_ ?_
            · refine s_aload_n (j := 0) (pc2 := 73) X dX10_life_72 rfl rfl ?_
              refine s_getR (pc2 := 76) X dX10_life_73 rfl fl_RX10_54 rfl (fun v5 => ?_)
              refine s_iload_n (j := 3) (pc2 := 77) X dX10_life_76 rfl rfl ?_
              refine s_iconst (n := 1) (pc2 := 78) X dX10_life_77 rfl ?_
              refine s_isub (pc2 := 79) X dX10_life_78 rfl ?_
              refine s_iald (pc2 := 80) X dX10_life_79 rfl (fun v6 hv6 => ?_)
              refine s_sub (lv2 := []) [] rfl ?_
              exact z_X10_life_L80 d hd K X v6 hv6
            · refine s_bipush (n := (-2)) (pc2 := 69) X dX10_life_67 rfl rfl ?_
              refine s_goto (pc2 := 80) X dX10_life_69 (by decide) ?_
              refine s_sub (lv2 := []) [] rfl ?_
              exact z_X10_life_L80 d hd K X ((-2)) (inI_c (-2) rfl)
          · refine s_aload_n (j := 0) (pc2 := 56) X dX10_life_55 rfl rfl ?_
            refine s_getI (pc2 := 59) X dX10_life_56 rfl fl_RX10_391 rfl (fun v7 hv7 => ?_)
            refine s_goto (pc2 := 80) X dX10_life_59 (by decide) ?_
            refine s_sub (lv2 := []) [] rfl ?_
            exact z_X10_life_L80 d hd K X v7 hv7
        · refine s_bipush (n := (-2)) (pc2 := 50) X dX10_life_48 rfl rfl ?_
          exact s_iret X dX10_life_50 (inI_c (-2) rfl)
      · refine s_sub (lv2 := []) [] rfl ?_
        exact z_X10_life_L32 d hd K X
theorem c_X10_life (d : Nat) (hd : 6 ≤ d) (G : hG) (l : Launch) (l0 : Nat) (l1 : Int) (l2 : Int) (l3 : Int) (h1 : inI l1) (h2 : inI l2) (h3 : inI l3) : hMet G l yX10_life cX10_life 4 (some .int) d 0 0 [vR G.1 l0, vI l1, vI l2, vI l3] (m_X10_life l0 l1 l2 l3) := by
  refine hMet.of (lv := [(0, vR G.1 l0), (1, vI l1), (2, vI l2), (3, vI l3)]) (by decide +kernel) (by simp [lg_sl, vR_cat, vI_cat, vL_cat, vS_cat2, vT_cat2]) (by simp [lv_args, vR_cat, vI_cat, vL_cat, vS_cat2, vT_cat2]) (fun C K X => ?_)
  obtain ⟨rfl, rfl, K⟩ := K
  exact z_X10_life d hd ⟨rfl, rfl, K⟩ X l0 l1 l2 l3 h1 h2 h3
def m_X10_lifeOf_L21 (s0 : Int) : hM :=
  hret s0
def m_X10_lifeOf (l0 : Nat) (l1 : Int) (l2 : Int) : hM :=
  hcallV 10 l0 (m_X10_findsLife l0 l1 l2) fun _ =>
  hgI 10 l0 28 fun v1 =>
  hif (v1 ≥ 0) (
hgI 10 l0 28 fun v2 =>
  m_X10_lifeOf_L21 v2) (
m_X10_lifeOf_L21 0)
set_option maxRecDepth 4000 in
theorem z_X10_lifeOf_L21 (d : Nat) (hd : 6 ≤ d) {C : hCx} (K : hCtx C.1 C.2.2.1 d 0 0 "lifeOf" C) (X : hOK C cX10_lifeOf RX10 3 (some .int)) (s0 : Int) (g0 : inI s0) : hSim C (some .int) 0 0 3 21 [] [vI s0] 0 0 (m_X10_lifeOf_L21 s0) := by
  obtain ⟨⟨hf, hlo⟩, ⟨hc1, hc2⟩, hf1, hl1⟩ := K_room K (by omega)
  have hcs : 0 ≤ C.2.2.2.2.1.cells ∧ 0 ≤ C.2.2.2.2.1.slots := ⟨Nat.zero_le _, Nat.zero_le _⟩
  unfold m_X10_lifeOf_L21
  exact s_iret X dX10_lifeOf_21 g0
set_option maxRecDepth 4000 in
set_option maxHeartbeats 20000000 in
theorem z_X10_lifeOf (d : Nat) (hd : 6 ≤ d) {C : hCx} (K : hCtx C.1 C.2.2.1 d 0 0 "lifeOf" C) (X : hOK C cX10_lifeOf RX10 3 (some .int)) (l0 : Nat) (l1 : Int) (l2 : Int) (h1 : inI l1) (h2 : inI l2) : hSim C (some .int) 0 0 3 0 [(0, vR C.1.1 l0), (1, vI l1), (2, vI l2)] [] 0 0 (m_X10_lifeOf l0 l1 l2) := by
  obtain ⟨⟨hf, hlo⟩, ⟨hc1, hc2⟩, hf1, hl1⟩ := K_room K (by omega)
  have hcs : 0 ≤ C.2.2.2.2.1.cells ∧ 0 ≤ C.2.2.2.2.1.slots := ⟨Nat.zero_le _, Nat.zero_le _⟩
  unfold m_X10_lifeOf
  refine s_aload_n (j := 0) (pc2 := 1) X dX10_lifeOf_0 rfl rfl ?_
  refine s_iload_n (j := 1) (pc2 := 2) X dX10_lifeOf_1 rfl rfl ?_
  refine s_iload_n (j := 2) (pc2 := 3) X dX10_lifeOf_2 rfl rfl ?_
  refine s_callVV (d2 := d - 1) (As := [vI l1, vI l2]) (st := []) (pc2 := 6) X dX10_lifeOf_3 rfl ml_RX10_408 im_X10_findsLife se_X10_findsLife kX10 rfl (c_X10_findsLife (d - 1) (by omega) C.1 C.2.2.1 l0 l1 l2 h1 h2) hy_X10_findsLife rfl rfl hf hlo (st_room (Nat.le_of_ble_eq_true rfl)) hcs (fun _ => ?_)
  refine s_aload_n (j := 0) (pc2 := 7) X dX10_lifeOf_6 rfl rfl ?_
  refine s_getI (pc2 := 10) X dX10_lifeOf_7 rfl fl_RX10_391 rfl (fun v1 hv1 => ?_)
  refine s_ifge (tgt := 17) X dX10_lifeOf_10 (by decide) rfl hv1 ?_ ?_
  · refine s_aload_n (j := 0) (pc2 := 18) X dX10_lifeOf_17 rfl rfl ?_
    refine s_getI (pc2 := 21) X dX10_lifeOf_18 rfl fl_RX10_391 rfl (fun v2 hv2 => ?_)
    refine s_sub (lv2 := []) [] rfl ?_
    exact z_X10_lifeOf_L21 d hd K X v2 hv2
  · refine s_iconst (n := 0) (pc2 := 14) X dX10_lifeOf_13 rfl ?_
    refine s_goto (pc2 := 21) X dX10_lifeOf_14 (by decide) ?_
    refine s_sub (lv2 := []) [] rfl ?_
    exact z_X10_lifeOf_L21 d hd K X 0 (inI_c 0 rfl)
theorem c_X10_lifeOf (d : Nat) (hd : 6 ≤ d) (G : hG) (l : Launch) (l0 : Nat) (l1 : Int) (l2 : Int) (h1 : inI l1) (h2 : inI l2) : hMet G l yX10_lifeOf cX10_lifeOf 3 (some .int) d 0 0 [vR G.1 l0, vI l1, vI l2] (m_X10_lifeOf l0 l1 l2) := by
  refine hMet.of (lv := [(0, vR G.1 l0), (1, vI l1), (2, vI l2)]) (by decide +kernel) (by simp [lg_sl, vR_cat, vI_cat, vL_cat, vS_cat2, vT_cat2]) (by simp [lv_args, vR_cat, vI_cat, vL_cat, vS_cat2, vT_cat2]) (fun C K X => ?_)
  obtain ⟨rfl, rfl, K⟩ := K
  exact z_X10_lifeOf d hd ⟨rfl, rfl, K⟩ X l0 l1 l2 h1 h2
def m_X10_worth_L28 : hM :=
  hret ((-1))
def m_X10_worth (l0 : Nat) (l1 : Int) (l2 : Int) (l3 : Int) : hM :=
  hcallV 10 l0 (m_X10_isPerson l0 l1) fun v1 =>
  hif (v1 = 0) (
m_X10_worth_L28) (
hcallV 10 l0 (m_X10_isBridge l0 l2) fun v2 =>
  hif (v2 = 0) (
m_X10_worth_L28) (
hcall (m_X10_in l3 1 6) fun v3 =>
  hif (v3 ≠ 0) (
hcallV 10 l0 (m_X10_lifeOf l0 l1 l3) fun v4 =>
  hlet v4 fun (w5 : Int) =>
  hgR 10 l0 22 fun v6 =>
  hsI 20 v6 l2 1 <|
  hcallV 10 l0 (m_X10_lifeOf l0 l1 l3) fun v7 =>
  hlet v7 fun (w8 : Int) =>
  hgR 10 l0 22 fun v9 =>
  hsI 20 v9 l2 0 <|
  hret ((w32 (w8 - w5)))) (
m_X10_worth_L28)))
set_option maxRecDepth 4000 in
theorem z_X10_worth_L28 (d : Nat) (hd : 7 ≤ d) {C : hCx} (K : hCtx C.1 C.2.2.1 d 0 0 "worth" C) (X : hOK C cX10_worth RX10 6 (some .int)) : hSim C (some .int) 0 0 6 28 [] [] 0 0 (m_X10_worth_L28) := by
  obtain ⟨⟨hf, hlo⟩, ⟨hc1, hc2⟩, hf1, hl1⟩ := K_room K (by omega)
  have hcs : 0 ≤ C.2.2.2.2.1.cells ∧ 0 ≤ C.2.2.2.2.1.slots := ⟨Nat.zero_le _, Nat.zero_le _⟩
  unfold m_X10_worth_L28
  refine s_iconst (n := (-1)) (pc2 := 29) X dX10_worth_28 rfl ?_
  exact s_iret X dX10_worth_29 (inI_c (-1) rfl)
set_option maxRecDepth 4000 in
set_option maxHeartbeats 20000000 in
theorem z_X10_worth (d : Nat) (hd : 7 ≤ d) {C : hCx} (K : hCtx C.1 C.2.2.1 d 0 0 "worth" C) (X : hOK C cX10_worth RX10 6 (some .int)) (l0 : Nat) (l1 : Int) (l2 : Int) (l3 : Int) (h1 : inI l1) (h2 : inI l2) (h3 : inI l3) : hSim C (some .int) 0 0 6 0 [(0, vR C.1.1 l0), (1, vI l1), (2, vI l2), (3, vI l3)] [] 0 0 (m_X10_worth l0 l1 l2 l3) := by
  obtain ⟨⟨hf, hlo⟩, ⟨hc1, hc2⟩, hf1, hl1⟩ := K_room K (by omega)
  have hcs : 0 ≤ C.2.2.2.2.1.cells ∧ 0 ≤ C.2.2.2.2.1.slots := ⟨Nat.zero_le _, Nat.zero_le _⟩
  unfold m_X10_worth
  refine s_aload_n (j := 0) (pc2 := 1) X dX10_worth_0 rfl rfl ?_
  refine s_iload_n (j := 1) (pc2 := 2) X dX10_worth_1 rfl rfl ?_
  refine s_callVZ (d2 := d - 1) (As := [vI l1]) (st := []) (pc2 := 5) X dX10_worth_2 rfl ml_RX10_316 im_X10_isPerson se_X10_isPerson kX10 rfl (c_X10_isPerson (d - 1) (by omega) C.1 C.2.2.1 l0 l1 h1) hy_X10_isPerson rfl rfl hf hlo (st_room (Nat.le_of_ble_eq_true rfl)) hcs (fun v1 hv1 => ?_)
  refine s_ifeq (tgt := 28) X dX10_worth_5 (by decide) rfl hv1 ?_ ?_
  · refine s_sub (lv2 := []) [] rfl ?_
    exact z_X10_worth_L28 d hd K X
  · refine s_aload_n (j := 0) (pc2 := 9) X dX10_worth_8 rfl rfl ?_
    refine s_iload_n (j := 2) (pc2 := 10) X dX10_worth_9 rfl rfl ?_
    refine s_callVZ (d2 := d - 1) (As := [vI l2]) (st := []) (pc2 := 13) X dX10_worth_10 rfl ml_RX10_328 im_X10_isBridge se_X10_isBridge kX10 rfl (c_X10_isBridge (d - 1) (by omega) C.1 C.2.2.1 l0 l2 h2) hy_X10_isBridge rfl rfl hf hlo (st_room (Nat.le_of_ble_eq_true rfl)) hcs (fun v2 hv2 => ?_)
    refine s_ifeq (tgt := 28) X dX10_worth_13 (by decide) rfl hv2 ?_ ?_
    · refine s_sub (lv2 := []) [] rfl ?_
      exact z_X10_worth_L28 d hd K X
    · refine s_iload_n (j := 3) (pc2 := 17) X dX10_worth_16 rfl rfl ?_
      refine s_i2l (pc2 := 18) X dX10_worth_17 rfl h3 ?_
      refine s_lconst (z := 1) (pc2 := 19) X dX10_worth_18 rfl rfl ?_
      refine s_ldc2 (z := 6) (pc2 := 22) X dX10_worth_19 rfl kc_RX10_406 ?_
      refine s_callSZ (d2 := d - 1) (As := [vL l3, vL 1, vL 6]) (st := []) (pc2 := 25) X dX10_worth_22 rfl ml_RX10_118 sm_X10_in (c_X10_in (d - 1) (by omega) C.1 C.2.2.1 l3 1 6 (inL_of h3) (inL_c 1 rfl) (inL_c 6 rfl)) hy_X10_in rfl rfl hf hlo (st_room (Nat.le_of_ble_eq_true rfl)) hcs (fun v3 hv3 => ?_)
      refine s_ifne (tgt := 30) X dX10_worth_25 (by decide) rfl hv3 ?_ ?_
      · refine s_aload_n (j := 0) (pc2 := 31) X dX10_worth_30 rfl rfl ?_
        refine s_iload_n (j := 1) (pc2 := 32) X dX10_worth_31 rfl rfl ?_
        refine s_iload_n (j := 3) (pc2 := 33) X dX10_worth_32 rfl rfl ?_
        refine s_callVI (d2 := d - 1) (As := [vI l1, vI l3]) (st := []) (pc2 := 36) X dX10_worth_33 rfl ml_RX10_411 im_X10_lifeOf se_X10_lifeOf kX10 rfl (c_X10_lifeOf (d - 1) (by omega) C.1 C.2.2.1 l0 l1 l3 h1 h3) hy_X10_lifeOf rfl rfl hf hlo (st_room (Nat.le_of_ble_eq_true rfl)) hcs (fun v4 hv4 => ?_)
        refine s_istore (pc2 := 38) X dX10_worth_36 rfl (by decide) rfl rfl cat1_I hv4 (fun w5 hw5 => ?_)
        refine s_aload_n (j := 1) (pc2 := 39) X dX10_worth_38 rfl rfl ?_
        refine s_getR (pc2 := 42) X dX10_worth_39 rfl fl_RX10_42 rfl (fun v6 => ?_)
        refine s_iload_n (j := 3) (pc2 := 43) X dX10_worth_42 rfl rfl ?_
        refine s_iconst (n := 1) (pc2 := 44) X dX10_worth_43 rfl ?_
        refine s_iast (pc2 := 45) X dX10_worth_44 rfl (inI_c 1 rfl) ?_
        refine s_aload_n (j := 1) (pc2 := 46) X dX10_worth_45 rfl rfl ?_
        refine s_iload_n (j := 2) (pc2 := 47) X dX10_worth_46 rfl rfl ?_
        refine s_iload_n (j := 4) (pc2 := 48) X dX10_worth_47 rfl rfl ?_
        refine s_callVI (d2 := d - 1) (As := [vI l1, vI l3]) (st := []) (pc2 := 51) X dX10_worth_48 rfl ml_RX10_411 im_X10_lifeOf se_X10_lifeOf kX10 rfl (c_X10_lifeOf (d - 1) (by omega) C.1 C.2.2.1 l0 l1 l3 h1 h3) hy_X10_lifeOf rfl rfl hf hlo (st_room (Nat.le_of_ble_eq_true rfl)) hcs (fun v7 hv7 => ?_)
        refine s_istore (pc2 := 53) X dX10_worth_51 rfl (by decide) rfl rfl cat1_I hv7 (fun w8 hw8 => ?_)
        refine s_aload_n (j := 2) (pc2 := 54) X dX10_worth_53 rfl rfl ?_
        refine s_getR (pc2 := 57) X dX10_worth_54 rfl fl_RX10_42 rfl (fun v9 => ?_)
        refine s_iload_n (j := 4) (pc2 := 58) X dX10_worth_57 rfl rfl ?_
        refine s_iconst (n := 0) (pc2 := 59) X dX10_worth_58 rfl ?_
        refine s_iast (pc2 := 60) X dX10_worth_59 rfl (inI_c 0 rfl) ?_
        refine s_iload (j := 0) (pc2 := 62) X dX10_worth_60 rfl rfl ?_
        refine s_iload (j := 1) (pc2 := 64) X dX10_worth_62 rfl rfl ?_
        refine s_isub (pc2 := 65) X dX10_worth_64 rfl ?_
        exact s_iret X dX10_worth_65 (w32_in _)
      · refine s_sub (lv2 := []) [] rfl ?_
        exact z_X10_worth_L28 d hd K X
theorem c_X10_worth (d : Nat) (hd : 7 ≤ d) (G : hG) (l : Launch) (l0 : Nat) (l1 : Int) (l2 : Int) (l3 : Int) (h1 : inI l1) (h2 : inI l2) (h3 : inI l3) : hMet G l yX10_worth cX10_worth 6 (some .int) d 0 0 [vR G.1 l0, vI l1, vI l2, vI l3] (m_X10_worth l0 l1 l2 l3) := by
  refine hMet.of (lv := [(0, vR G.1 l0), (1, vI l1), (2, vI l2), (3, vI l3)]) (by decide +kernel) (by simp [lg_sl, vR_cat, vI_cat, vL_cat, vS_cat2, vT_cat2]) (by simp [lv_args, vR_cat, vI_cat, vL_cat, vS_cat2, vT_cat2]) (fun C K X => ?_)
  obtain ⟨rfl, rfl, K⟩ := K
  exact z_X10_worth d hd ⟨rfl, rfl, K⟩ X l0 l1 l2 l3 h1 h2 h3
def m_X10_more_L20 : hM :=
  hret ((-1))
def m_X10_more_L64 : Nat → Nat → Int → Int → Int → hM
  | 0, _, _, _, _ => hfail
  | n + 1, l0, l3, l4, l5 =>
    hif (l5 ≥ 9) (
hret ((w32 (l4 - l3)))) (
hgR 10 l0 22 fun v1 =>
  hsI 20 v1 l5 0 <|
  hlet (w32 (l5 + 1)) fun (w2 : Int) =>
  m_X10_more_L64 n l0 l3 l4 w2)
def m_X10_more_L32 : Nat → Nat → Int → Int → Int → Int → hM
  | 0, _, _, _, _, _ => hfail
  | n + 1, l0, l1, l2, l3, l4 =>
    hif (l4 ≥ 9) (
hcallV 10 l0 (m_X10_lifeOf l0 l1 l2) fun v1 =>
  hlet v1 fun (w2 : Int) =>
  hlet (0 : Int) fun (w3 : Int) =>
  m_X10_more_L64 1000000000 l0 l3 w2 w3) (
hgR 10 l0 22 fun v4 =>
  hsI 20 v4 l4 1 <|
  hlet (w32 (l4 + 1)) fun (w5 : Int) =>
  m_X10_more_L32 n l0 l1 l2 l3 w5)
def m_X10_more (l0 : Nat) (l1 : Int) (l2 : Int) : hM :=
  hcallV 10 l0 (m_X10_isPerson l0 l1) fun v1 =>
  hif (v1 = 0) (
m_X10_more_L20) (
hcall (m_X10_in l2 1 6) fun v2 =>
  hif (v2 ≠ 0) (
hcallV 10 l0 (m_X10_lifeOf l0 l1 l2) fun v3 =>
  hlet v3 fun (w4 : Int) =>
  hlet (0 : Int) fun (w5 : Int) =>
  m_X10_more_L32 1000000000 l0 l1 l2 w4 w5) (
m_X10_more_L20))
set_option maxRecDepth 4000 in
theorem z_X10_more_L20 (d : Nat) (hd : 7 ≤ d) {C : hCx} (K : hCtx C.1 C.2.2.1 d 0 0 "more" C) (X : hOK C cX10_more RX10 6 (some .int)) : hSim C (some .int) 0 0 6 20 [] [] 0 0 (m_X10_more_L20) := by
  obtain ⟨⟨hf, hlo⟩, ⟨hc1, hc2⟩, hf1, hl1⟩ := K_room K (by omega)
  have hcs : 0 ≤ C.2.2.2.2.1.cells ∧ 0 ≤ C.2.2.2.2.1.slots := ⟨Nat.zero_le _, Nat.zero_le _⟩
  unfold m_X10_more_L20
  refine s_iconst (n := (-1)) (pc2 := 21) X dX10_more_20 rfl ?_
  exact s_iret X dX10_more_21 (inI_c (-1) rfl)
set_option maxRecDepth 4000 in
theorem z_X10_more_L64 (d : Nat) (hd : 7 ≤ d) {C : hCx} (K : hCtx C.1 C.2.2.1 d 0 0 "more" C) (X : hOK C cX10_more RX10 6 (some .int)) : ∀ (n : Nat) (l0 : Nat) (l3 : Int) (l4 : Int) (l5 : Int) (h3 : inI l3) (h4 : inI l4) (h5 : inI l5), hSim C (some .int) 0 0 6 64 [(0, vR C.1.1 l0), (3, vI l3), (4, vI l4), (5, vI l5)] [] 0 0 (m_X10_more_L64 n l0 l3 l4 l5) := by
  obtain ⟨⟨hf, hlo⟩, ⟨hc1, hc2⟩, hf1, hl1⟩ := K_room K (by omega)
  have hcs : 0 ≤ C.2.2.2.2.1.cells ∧ 0 ≤ C.2.2.2.2.1.slots := ⟨Nat.zero_le _, Nat.zero_le _⟩
  intro n
  induction n with
  | zero => intros; exact s_none (fun _ => rfl)
  | succ n ih =>
    intro l0 l3 l4 l5 h3 h4 h5
    unfold m_X10_more_L64
    refine s_iload (j := 3) (pc2 := 66) X dX10_more_64 rfl rfl ?_
    refine s_bipush (n := 9) (pc2 := 68) X dX10_more_66 rfl rfl ?_
    refine s_icge (tgt := 85) X dX10_more_68 (by decide) rfl h5 (inI_c 9 rfl) ?_ ?_
    · refine s_iload (j := 2) (pc2 := 87) X dX10_more_85 rfl rfl ?_
      refine s_iload_n (j := 1) (pc2 := 88) X dX10_more_87 rfl rfl ?_
      refine s_isub (pc2 := 89) X dX10_more_88 rfl ?_
      exact s_iret X dX10_more_89 (w32_in _)
    · refine s_aload_n (j := 0) (pc2 := 72) X dX10_more_71 rfl rfl ?_
      refine s_getR (pc2 := 75) X dX10_more_72 rfl fl_RX10_42 rfl (fun v1 => ?_)
      refine s_iload (j := 3) (pc2 := 77) X dX10_more_75 rfl rfl ?_
      refine s_iconst (n := 0) (pc2 := 78) X dX10_more_77 rfl ?_
      refine s_iast (pc2 := 79) X dX10_more_78 rfl (inI_c 0 rfl) ?_
      refine s_iinc (j := 3) (pc2 := 82) X dX10_more_79 rfl (by decide) rfl rfl rfl cat1_I (fun w2 hw2 => ?_)
      refine s_goto (pc2 := 64) X dX10_more_82 (by decide) ?_
      refine s_sub (lv2 := [(0, vR C.1.1 l0), (3, vI l3), (4, vI l4), (5, vI w2)]) [1, 2, 3, 0] rfl ?_
      exact ih l0 l3 l4 w2 h3 h4 hw2
set_option maxRecDepth 4000 in
theorem z_X10_more_L32 (d : Nat) (hd : 7 ≤ d) {C : hCx} (K : hCtx C.1 C.2.2.1 d 0 0 "more" C) (X : hOK C cX10_more RX10 6 (some .int)) : ∀ (n : Nat) (l0 : Nat) (l1 : Int) (l2 : Int) (l3 : Int) (l4 : Int) (h1 : inI l1) (h2 : inI l2) (h3 : inI l3) (h4 : inI l4), hSim C (some .int) 0 0 6 32 [(0, vR C.1.1 l0), (1, vI l1), (2, vI l2), (3, vI l3), (4, vI l4)] [] 0 0 (m_X10_more_L32 n l0 l1 l2 l3 l4) := by
  obtain ⟨⟨hf, hlo⟩, ⟨hc1, hc2⟩, hf1, hl1⟩ := K_room K (by omega)
  have hcs : 0 ≤ C.2.2.2.2.1.cells ∧ 0 ≤ C.2.2.2.2.1.slots := ⟨Nat.zero_le _, Nat.zero_le _⟩
  intro n
  induction n with
  | zero => intros; exact s_none (fun _ => rfl)
  | succ n ih =>
    intro l0 l1 l2 l3 l4 h1 h2 h3 h4
    unfold m_X10_more_L32
    refine s_iload (j := 4) (pc2 := 34) X dX10_more_32 rfl rfl ?_
    refine s_bipush (n := 9) (pc2 := 36) X dX10_more_34 rfl rfl ?_
    refine s_icge (tgt := 53) X dX10_more_36 (by decide) rfl h4 (inI_c 9 rfl) ?_ ?_
    · refine s_aload_n (j := 0) (pc2 := 54) X dX10_more_53 rfl rfl ?_
      refine s_iload_n (j := 1) (pc2 := 55) X dX10_more_54 rfl rfl ?_
      refine s_iload_n (j := 2) (pc2 := 56) X dX10_more_55 rfl rfl ?_
      refine s_callVI (d2 := d - 1) (As := [vI l1, vI l2]) (st := []) (pc2 := 59) X dX10_more_56 rfl ml_RX10_411 im_X10_lifeOf se_X10_lifeOf kX10 rfl (c_X10_lifeOf (d - 1) (by omega) C.1 C.2.2.1 l0 l1 l2 h1 h2) hy_X10_lifeOf rfl rfl hf hlo (st_room (Nat.le_of_ble_eq_true rfl)) hcs (fun v1 hv1 => ?_)
      refine s_istore (pc2 := 61) X dX10_more_59 rfl (by decide) rfl rfl cat1_I hv1 (fun w2 hw2 => ?_)
      refine s_iconst (n := 0) (pc2 := 62) X dX10_more_61 rfl ?_
      refine s_istore (pc2 := 64) X dX10_more_62 rfl (by decide) rfl rfl cat1_I (inI_c 0 rfl) (fun w3 hw3 => ?_)
      refine s_sub (lv2 := [(0, vR C.1.1 l0), (3, vI l3), (4, vI w2), (5, vI w3)]) [2, 5, 1, 0] rfl ?_
      exact z_X10_more_L64 d hd K X 1000000000 l0 l3 w2 w3 h3 hw2 hw3
    · refine s_aload_n (j := 0) (pc2 := 40) X dX10_more_39 rfl rfl ?_
      refine s_getR (pc2 := 43) X dX10_more_40 rfl fl_RX10_42 rfl (fun v4 => ?_)
      refine s_iload (j := 4) (pc2 := 45) X dX10_more_43 rfl rfl ?_
      refine s_iconst (n := 1) (pc2 := 46) X dX10_more_45 rfl ?_
      refine s_iast (pc2 := 47) X dX10_more_46 rfl (inI_c 1 rfl) ?_
      refine s_iinc (j := 4) (pc2 := 50) X dX10_more_47 rfl (by decide) rfl rfl rfl cat1_I (fun w5 hw5 => ?_)
      refine s_goto (pc2 := 32) X dX10_more_50 (by decide) ?_
      refine s_sub (lv2 := [(0, vR C.1.1 l0), (1, vI l1), (2, vI l2), (3, vI l3), (4, vI w5)]) [1, 2, 3, 4, 0] rfl ?_
      exact ih l0 l1 l2 l3 w5 h1 h2 h3 hw5
set_option maxRecDepth 4000 in
set_option maxHeartbeats 20000000 in
theorem z_X10_more (d : Nat) (hd : 7 ≤ d) {C : hCx} (K : hCtx C.1 C.2.2.1 d 0 0 "more" C) (X : hOK C cX10_more RX10 6 (some .int)) (l0 : Nat) (l1 : Int) (l2 : Int) (h1 : inI l1) (h2 : inI l2) : hSim C (some .int) 0 0 6 0 [(0, vR C.1.1 l0), (1, vI l1), (2, vI l2)] [] 0 0 (m_X10_more l0 l1 l2) := by
  obtain ⟨⟨hf, hlo⟩, ⟨hc1, hc2⟩, hf1, hl1⟩ := K_room K (by omega)
  have hcs : 0 ≤ C.2.2.2.2.1.cells ∧ 0 ≤ C.2.2.2.2.1.slots := ⟨Nat.zero_le _, Nat.zero_le _⟩
  unfold m_X10_more
  refine s_aload_n (j := 0) (pc2 := 1) X dX10_more_0 rfl rfl ?_
  refine s_iload_n (j := 1) (pc2 := 2) X dX10_more_1 rfl rfl ?_
  refine s_callVZ (d2 := d - 1) (As := [vI l1]) (st := []) (pc2 := 5) X dX10_more_2 rfl ml_RX10_316 im_X10_isPerson se_X10_isPerson kX10 rfl (c_X10_isPerson (d - 1) (by omega) C.1 C.2.2.1 l0 l1 h1) hy_X10_isPerson rfl rfl hf hlo (st_room (Nat.le_of_ble_eq_true rfl)) hcs (fun v1 hv1 => ?_)
  refine s_ifeq (tgt := 20) X dX10_more_5 (by decide) rfl hv1 ?_ ?_
  · refine s_sub (lv2 := []) [] rfl ?_
    exact z_X10_more_L20 d hd K X
  · refine s_iload_n (j := 2) (pc2 := 9) X dX10_more_8 rfl rfl ?_
    refine s_i2l (pc2 := 10) X dX10_more_9 rfl h2 ?_
    refine s_lconst (z := 1) (pc2 := 11) X dX10_more_10 rfl rfl ?_
    refine s_ldc2 (z := 6) (pc2 := 14) X dX10_more_11 rfl kc_RX10_406 ?_
    refine s_callSZ (d2 := d - 1) (As := [vL l2, vL 1, vL 6]) (st := []) (pc2 := 17) X dX10_more_14 rfl ml_RX10_118 sm_X10_in (c_X10_in (d - 1) (by omega) C.1 C.2.2.1 l2 1 6 (inL_of h2) (inL_c 1 rfl) (inL_c 6 rfl)) hy_X10_in rfl rfl hf hlo (st_room (Nat.le_of_ble_eq_true rfl)) hcs (fun v2 hv2 => ?_)
    refine s_ifne (tgt := 22) X dX10_more_17 (by decide) rfl hv2 ?_ ?_
    · refine s_aload_n (j := 0) (pc2 := 23) X dX10_more_22 rfl rfl ?_
      refine s_iload_n (j := 1) (pc2 := 24) X dX10_more_23 rfl rfl ?_
      refine s_iload_n (j := 2) (pc2 := 25) X dX10_more_24 rfl rfl ?_
      refine s_callVI (d2 := d - 1) (As := [vI l1, vI l2]) (st := []) (pc2 := 28) X dX10_more_25 rfl ml_RX10_411 im_X10_lifeOf se_X10_lifeOf kX10 rfl (c_X10_lifeOf (d - 1) (by omega) C.1 C.2.2.1 l0 l1 l2 h1 h2) hy_X10_lifeOf rfl rfl hf hlo (st_room (Nat.le_of_ble_eq_true rfl)) hcs (fun v3 hv3 => ?_)
      refine s_istore_n (pc2 := 29) X dX10_more_28 rfl (by decide) rfl rfl cat1_I hv3 (fun w4 hw4 => ?_)
      refine s_iconst (n := 0) (pc2 := 30) X dX10_more_29 rfl ?_
      refine s_istore (pc2 := 32) X dX10_more_30 rfl (by decide) rfl rfl cat1_I (inI_c 0 rfl) (fun w5 hw5 => ?_)
      refine s_sub (lv2 := [(0, vR C.1.1 l0), (1, vI l1), (2, vI l2), (3, vI w4), (4, vI w5)]) [2, 3, 4, 1, 0] rfl ?_
      exact z_X10_more_L32 d hd K X 1000000000 l0 l1 l2 w4 w5 h1 h2 hw4 hw5
    · refine s_sub (lv2 := []) [] rfl ?_
      exact z_X10_more_L20 d hd K X
theorem c_X10_more (d : Nat) (hd : 7 ≤ d) (G : hG) (l : Launch) (l0 : Nat) (l1 : Int) (l2 : Int) (h1 : inI l1) (h2 : inI l2) : hMet G l yX10_more cX10_more 6 (some .int) d 0 0 [vR G.1 l0, vI l1, vI l2] (m_X10_more l0 l1 l2) := by
  refine hMet.of (lv := [(0, vR G.1 l0), (1, vI l1), (2, vI l2)]) (by decide +kernel) (by simp [lg_sl, vR_cat, vI_cat, vL_cat, vS_cat2, vT_cat2]) (by simp [lv_args, vR_cat, vI_cat, vL_cat, vS_cat2, vT_cat2]) (fun C K X => ?_)
  obtain ⟨rfl, rfl, K⟩ := K
  exact z_X10_more d hd ⟨rfl, rfl, K⟩ X l0 l1 l2 h1 h2
def m_X10_meet_L31 : hM :=
  hret ((-1))
def m_X10_meet_L176 (s0 : Int) : hM :=
  hret s0
def m_X10_meet_L159 (k47 : Nat → Int → Int → Int → Int → Int → Int → Int → hM) (l0 : Nat) (l1 : Int) (l2 : Int) (l3 : Int) (l4 : Int) (l5 : Int) (l6 : Int) (l7 : Int) : hM :=
  hlet (w32 (l7 + 1)) fun (w1 : Int) =>
  k47 l0 l1 l2 l3 l4 l5 l6 w1
def m_X10_meet_L144 (k47 : Nat → Int → Int → Int → Int → Int → Int → Int → hM) (l0 : Nat) (l1 : Int) (l2 : Int) (l3 : Int) (l7 : Int) (l8 : Int) (l9 : Int) (l10 : Int) : hM :=
  hlet l7 fun (w1 : Int) =>
  hlet ((w32 (l8 + l9))) fun (w2 : Int) =>
  hlet l10 fun (w3 : Int) =>
  m_X10_meet_L159 k47 l0 l1 l2 l3 w1 w2 w3 l7
def m_X10_meet_L107 (k47 : Nat → Int → Int → Int → Int → Int → Int → Int → hM) (l0 : Nat) (l1 : Int) (l2 : Int) (l3 : Int) (l4 : Int) (l5 : Int) (l6 : Int) (l7 : Int) (l8 : Int) (l9 : Int) (s0 : Int) : hM :=
  hlet s0 fun (w1 : Int) =>
  hif (l4 < 0) (
m_X10_meet_L144 k47 l0 l1 l2 l3 l7 l8 l9 w1) (
hif (((w32 (l8 + l9))) > l5) (
m_X10_meet_L159 k47 l0 l1 l2 l3 l4 l5 l6 l7) (
hif (((w32 (l8 + l9))) ≠ l5) (
m_X10_meet_L144 k47 l0 l1 l2 l3 l7 l8 l9 w1) (
hif (w1 < l6) (
m_X10_meet_L144 k47 l0 l1 l2 l3 l7 l8 l9 w1) (
m_X10_meet_L159 k47 l0 l1 l2 l3 l4 l5 l6 l7))))
def m_X10_meet_L47 : Nat → Nat → Int → Int → Int → Int → Int → Int → Int → hM
  | 0, _, _, _, _, _, _, _, _ => hfail
  | n + 1, l0, l1, l2, l3, l4, l5, l6, l7 =>
    hgR 10 l0 20 fun v1 =>
  haI 20 v1 0 fun v2 =>
  hif (l7 ≥ v2) (
hif (l3 ≠ 0) (
m_X10_meet_L176 l5) (
m_X10_meet_L176 l4)) (
hcallV 10 l0 (m_X10_wayOf l0 l1 l7) fun v3 =>
  hlet v3 fun (w4 : Int) =>
  hcallV 10 l0 (m_X10_wayOf l0 l2 l7) fun v5 =>
  hlet v5 fun (w6 : Int) =>
  hif (w4 = 99) (
m_X10_meet_L159 (m_X10_meet_L47 n) l0 l1 l2 l3 l4 l5 l6 l7) (
hif (w6 ≠ 99) (
hif (w4 ≤ w6) (
m_X10_meet_L107 (m_X10_meet_L47 n) l0 l1 l2 l3 l4 l5 l6 l7 w4 w6 w6) (
m_X10_meet_L107 (m_X10_meet_L47 n) l0 l1 l2 l3 l4 l5 l6 l7 w4 w6 w4)) (
m_X10_meet_L159 (m_X10_meet_L47 n) l0 l1 l2 l3 l4 l5 l6 l7)))
def m_X10_meet (l0 : Nat) (l1 : Int) (l2 : Int) (l3 : Int) : hM :=
  hcallV 10 l0 (m_X10_isPerson l0 l1) fun v1 =>
  hif (v1 = 0) (
m_X10_meet_L31) (
hcallV 10 l0 (m_X10_isPerson l0 l2) fun v2 =>
  hif (v2 = 0) (
m_X10_meet_L31) (
hif (l1 = l2) (
m_X10_meet_L31) (
hcall (m_X10_in l3 0 1) fun v3 =>
  hif (v3 ≠ 0) (
hlet ((-2) : Int) fun (w4 : Int) =>
  hlet ((-2) : Int) fun (w5 : Int) =>
  hlet (0 : Int) fun (w6 : Int) =>
  hlet (0 : Int) fun (w7 : Int) =>
  m_X10_meet_L47 1000000000 l0 l1 l2 l3 w4 w5 w6 w7) (
m_X10_meet_L31))))
set_option maxRecDepth 4000 in
theorem z_X10_meet_L31 (d : Nat) (hd : 5 ≤ d) {C : hCx} (K : hCtx C.1 C.2.2.1 d 0 0 "meet" C) (X : hOK C cX10_meet RX10 11 (some .int)) : hSim C (some .int) 0 0 11 31 [] [] 0 0 (m_X10_meet_L31) := by
  obtain ⟨⟨hf, hlo⟩, ⟨hc1, hc2⟩, hf1, hl1⟩ := K_room K (by omega)
  have hcs : 0 ≤ C.2.2.2.2.1.cells ∧ 0 ≤ C.2.2.2.2.1.slots := ⟨Nat.zero_le _, Nat.zero_le _⟩
  unfold m_X10_meet_L31
  refine s_iconst (n := (-1)) (pc2 := 32) X dX10_meet_31 rfl ?_
  exact s_iret X dX10_meet_32 (inI_c (-1) rfl)
set_option maxRecDepth 4000 in
theorem z_X10_meet_L176 (d : Nat) (hd : 5 ≤ d) {C : hCx} (K : hCtx C.1 C.2.2.1 d 0 0 "meet" C) (X : hOK C cX10_meet RX10 11 (some .int)) (s0 : Int) (g0 : inI s0) : hSim C (some .int) 0 0 11 176 [] [vI s0] 0 0 (m_X10_meet_L176 s0) := by
  obtain ⟨⟨hf, hlo⟩, ⟨hc1, hc2⟩, hf1, hl1⟩ := K_room K (by omega)
  have hcs : 0 ≤ C.2.2.2.2.1.cells ∧ 0 ≤ C.2.2.2.2.1.slots := ⟨Nat.zero_le _, Nat.zero_le _⟩
  unfold m_X10_meet_L176
  exact s_iret X dX10_meet_176 g0
set_option maxRecDepth 4000 in
theorem z_X10_meet_L159 (d : Nat) (hd : 5 ≤ d) {C : hCx} (K : hCtx C.1 C.2.2.1 d 0 0 "meet" C) (X : hOK C cX10_meet RX10 11 (some .int)) (k47 : Nat → Int → Int → Int → Int → Int → Int → Int → hM) (hk47 : ∀ (l0 : Nat) (l1 : Int) (l2 : Int) (l3 : Int) (l4 : Int) (l5 : Int) (l6 : Int) (l7 : Int), inI l1 → inI l2 → inI l3 → inI l4 → inI l5 → inI l6 → inI l7 → hSim C (some .int) 0 0 11 47 [(0, vR C.1.1 l0), (1, vI l1), (2, vI l2), (3, vI l3), (4, vI l4), (5, vI l5), (6, vI l6), (7, vI l7)] [] 0 0 (k47 l0 l1 l2 l3 l4 l5 l6 l7)) (l0 : Nat) (l1 : Int) (l2 : Int) (l3 : Int) (l4 : Int) (l5 : Int) (l6 : Int) (l7 : Int) (h1 : inI l1) (h2 : inI l2) (h3 : inI l3) (h4 : inI l4) (h5 : inI l5) (h6 : inI l6) (h7 : inI l7) : hSim C (some .int) 0 0 11 159 [(0, vR C.1.1 l0), (1, vI l1), (2, vI l2), (3, vI l3), (4, vI l4), (5, vI l5), (6, vI l6), (7, vI l7)] [] 0 0 (m_X10_meet_L159 k47 l0 l1 l2 l3 l4 l5 l6 l7) := by
  obtain ⟨⟨hf, hlo⟩, ⟨hc1, hc2⟩, hf1, hl1⟩ := K_room K (by omega)
  have hcs : 0 ≤ C.2.2.2.2.1.cells ∧ 0 ≤ C.2.2.2.2.1.slots := ⟨Nat.zero_le _, Nat.zero_le _⟩
  unfold m_X10_meet_L159
  refine s_iinc (j := 7) (pc2 := 162) X dX10_meet_159 rfl (by decide) rfl rfl rfl cat1_I (fun w1 hw1 => ?_)
  refine s_goto (pc2 := 47) X dX10_meet_162 (by decide) ?_
  refine s_sub (lv2 := [(0, vR C.1.1 l0), (1, vI l1), (2, vI l2), (3, vI l3), (4, vI l4), (5, vI l5), (6, vI l6), (7, vI w1)]) [1, 2, 3, 4, 5, 6, 7, 0] rfl ?_
  exact hk47 l0 l1 l2 l3 l4 l5 l6 w1 h1 h2 h3 h4 h5 h6 hw1
set_option maxRecDepth 4000 in
theorem z_X10_meet_L144 (d : Nat) (hd : 5 ≤ d) {C : hCx} (K : hCtx C.1 C.2.2.1 d 0 0 "meet" C) (X : hOK C cX10_meet RX10 11 (some .int)) (k47 : Nat → Int → Int → Int → Int → Int → Int → Int → hM) (hk47 : ∀ (l0 : Nat) (l1 : Int) (l2 : Int) (l3 : Int) (l4 : Int) (l5 : Int) (l6 : Int) (l7 : Int), inI l1 → inI l2 → inI l3 → inI l4 → inI l5 → inI l6 → inI l7 → hSim C (some .int) 0 0 11 47 [(0, vR C.1.1 l0), (1, vI l1), (2, vI l2), (3, vI l3), (4, vI l4), (5, vI l5), (6, vI l6), (7, vI l7)] [] 0 0 (k47 l0 l1 l2 l3 l4 l5 l6 l7)) (l0 : Nat) (l1 : Int) (l2 : Int) (l3 : Int) (l7 : Int) (l8 : Int) (l9 : Int) (l10 : Int) (h1 : inI l1) (h2 : inI l2) (h3 : inI l3) (h7 : inI l7) (h8 : inI l8) (h9 : inI l9) (h10 : inI l10) : hSim C (some .int) 0 0 11 144 [(0, vR C.1.1 l0), (1, vI l1), (2, vI l2), (3, vI l3), (7, vI l7), (8, vI l8), (9, vI l9), (10, vI l10)] [] 0 0 (m_X10_meet_L144 k47 l0 l1 l2 l3 l7 l8 l9 l10) := by
  obtain ⟨⟨hf, hlo⟩, ⟨hc1, hc2⟩, hf1, hl1⟩ := K_room K (by omega)
  have hcs : 0 ≤ C.2.2.2.2.1.cells ∧ 0 ≤ C.2.2.2.2.1.slots := ⟨Nat.zero_le _, Nat.zero_le _⟩
  unfold m_X10_meet_L144
  refine s_iload (j := 4) (pc2 := 146) X dX10_meet_144 rfl rfl ?_
  refine s_istore (pc2 := 148) X dX10_meet_146 rfl (by decide) rfl rfl cat1_I h7 (fun w1 hw1 => ?_)
  refine s_iload (j := 6) (pc2 := 150) X dX10_meet_148 rfl rfl ?_
  refine s_iload (j := 7) (pc2 := 152) X dX10_meet_150 rfl rfl ?_
  refine s_iadd (pc2 := 153) X dX10_meet_152 rfl ?_
  refine s_istore (pc2 := 155) X dX10_meet_153 rfl (by decide) rfl rfl cat1_I (w32_in _) (fun w2 hw2 => ?_)
  refine s_iload (j := 9) (pc2 := 157) X dX10_meet_155 rfl rfl ?_
  refine s_istore (pc2 := 159) X dX10_meet_157 rfl (by decide) rfl rfl cat1_I h10 (fun w3 hw3 => ?_)
  refine s_sub (lv2 := [(0, vR C.1.1 l0), (1, vI l1), (2, vI l2), (3, vI l3), (4, vI w1), (5, vI w2), (6, vI w3), (7, vI l7)]) [3, 4, 5, 6, 2, 1, 0, 7] rfl ?_
  exact z_X10_meet_L159 d hd K X k47 hk47 l0 l1 l2 l3 w1 w2 w3 l7 h1 h2 h3 hw1 hw2 hw3 h7
set_option maxRecDepth 4000 in
theorem z_X10_meet_L107 (d : Nat) (hd : 5 ≤ d) {C : hCx} (K : hCtx C.1 C.2.2.1 d 0 0 "meet" C) (X : hOK C cX10_meet RX10 11 (some .int)) (k47 : Nat → Int → Int → Int → Int → Int → Int → Int → hM) (hk47 : ∀ (l0 : Nat) (l1 : Int) (l2 : Int) (l3 : Int) (l4 : Int) (l5 : Int) (l6 : Int) (l7 : Int), inI l1 → inI l2 → inI l3 → inI l4 → inI l5 → inI l6 → inI l7 → hSim C (some .int) 0 0 11 47 [(0, vR C.1.1 l0), (1, vI l1), (2, vI l2), (3, vI l3), (4, vI l4), (5, vI l5), (6, vI l6), (7, vI l7)] [] 0 0 (k47 l0 l1 l2 l3 l4 l5 l6 l7)) (l0 : Nat) (l1 : Int) (l2 : Int) (l3 : Int) (l4 : Int) (l5 : Int) (l6 : Int) (l7 : Int) (l8 : Int) (l9 : Int) (s0 : Int) (h1 : inI l1) (h2 : inI l2) (h3 : inI l3) (h4 : inI l4) (h5 : inI l5) (h6 : inI l6) (h7 : inI l7) (h8 : inI l8) (h9 : inI l9) (g0 : inI s0) : hSim C (some .int) 0 0 11 107 [(0, vR C.1.1 l0), (1, vI l1), (2, vI l2), (3, vI l3), (4, vI l4), (5, vI l5), (6, vI l6), (7, vI l7), (8, vI l8), (9, vI l9)] [vI s0] 0 0 (m_X10_meet_L107 k47 l0 l1 l2 l3 l4 l5 l6 l7 l8 l9 s0) := by
  obtain ⟨⟨hf, hlo⟩, ⟨hc1, hc2⟩, hf1, hl1⟩ := K_room K (by omega)
  have hcs : 0 ≤ C.2.2.2.2.1.cells ∧ 0 ≤ C.2.2.2.2.1.slots := ⟨Nat.zero_le _, Nat.zero_le _⟩
  unfold m_X10_meet_L107
  refine s_istore (pc2 := 109) X dX10_meet_107 rfl (by decide) rfl rfl cat1_I g0 (fun w1 hw1 => ?_)
  refine s_iload (j := 5) (pc2 := 111) X dX10_meet_109 rfl rfl ?_
  refine s_iflt (tgt := 144) X dX10_meet_111 (by decide) rfl h4 ?_ ?_
  · refine s_sub (lv2 := [(0, vR C.1.1 l0), (1, vI l1), (2, vI l2), (3, vI l3), (7, vI l7), (8, vI l8), (9, vI l9), (10, vI w1)]) [1, 2, 3, 4, 8, 9, 10, 0] rfl ?_
    exact z_X10_meet_L144 d hd K X k47 hk47 l0 l1 l2 l3 l7 l8 l9 w1 h1 h2 h3 h7 h8 h9 hw1
  · refine s_iload (j := 9) (pc2 := 116) X dX10_meet_114 rfl rfl ?_
    refine s_iload (j := 10) (pc2 := 118) X dX10_meet_116 rfl rfl ?_
    refine s_iadd (pc2 := 119) X dX10_meet_118 rfl ?_
    refine s_iload (j := 6) (pc2 := 121) X dX10_meet_119 rfl rfl ?_
    refine s_icgt (tgt := 159) X dX10_meet_121 (by decide) rfl (w32_in _) h5 ?_ ?_
    · refine s_sub (lv2 := [(0, vR C.1.1 l0), (1, vI l1), (2, vI l2), (3, vI l3), (4, vI l4), (5, vI l5), (6, vI l6), (7, vI l7)]) [1, 2, 3, 4, 5, 6, 7, 8] rfl ?_
      exact z_X10_meet_L159 d hd K X k47 hk47 l0 l1 l2 l3 l4 l5 l6 l7 h1 h2 h3 h4 h5 h6 h7
    · refine s_iload (j := 9) (pc2 := 126) X dX10_meet_124 rfl rfl ?_
      refine s_iload (j := 10) (pc2 := 128) X dX10_meet_126 rfl rfl ?_
      refine s_iadd (pc2 := 129) X dX10_meet_128 rfl ?_
      refine s_iload (j := 6) (pc2 := 131) X dX10_meet_129 rfl rfl ?_
      refine s_icne (tgt := 144) X dX10_meet_131 (by decide) rfl (w32_in _) h5 ?_ ?_
      · refine s_sub (lv2 := [(0, vR C.1.1 l0), (1, vI l1), (2, vI l2), (3, vI l3), (7, vI l7), (8, vI l8), (9, vI l9), (10, vI w1)]) [1, 2, 3, 4, 8, 9, 10, 0] rfl ?_
        exact z_X10_meet_L144 d hd K X k47 hk47 l0 l1 l2 l3 l7 l8 l9 w1 h1 h2 h3 h7 h8 h9 hw1
      · refine s_iload (j := 0) (pc2 := 136) X dX10_meet_134 rfl rfl ?_
        refine s_iload (j := 7) (pc2 := 138) X dX10_meet_136 rfl rfl ?_
        refine s_iclt (tgt := 144) X dX10_meet_138 (by decide) rfl hw1 h6 ?_ ?_
        · refine s_sub (lv2 := [(0, vR C.1.1 l0), (1, vI l1), (2, vI l2), (3, vI l3), (7, vI l7), (8, vI l8), (9, vI l9), (10, vI w1)]) [1, 2, 3, 4, 8, 9, 10, 0] rfl ?_
          exact z_X10_meet_L144 d hd K X k47 hk47 l0 l1 l2 l3 l7 l8 l9 w1 h1 h2 h3 h7 h8 h9 hw1
        · refine s_goto (pc2 := 159) X dX10_meet_141 (by decide) ?_
          refine s_sub (lv2 := [(0, vR C.1.1 l0), (1, vI l1), (2, vI l2), (3, vI l3), (4, vI l4), (5, vI l5), (6, vI l6), (7, vI l7)]) [1, 2, 3, 4, 5, 6, 7, 8] rfl ?_
          exact z_X10_meet_L159 d hd K X k47 hk47 l0 l1 l2 l3 l4 l5 l6 l7 h1 h2 h3 h4 h5 h6 h7
set_option maxRecDepth 4000 in
theorem z_X10_meet_L47 (d : Nat) (hd : 5 ≤ d) {C : hCx} (K : hCtx C.1 C.2.2.1 d 0 0 "meet" C) (X : hOK C cX10_meet RX10 11 (some .int)) : ∀ (n : Nat) (l0 : Nat) (l1 : Int) (l2 : Int) (l3 : Int) (l4 : Int) (l5 : Int) (l6 : Int) (l7 : Int) (h1 : inI l1) (h2 : inI l2) (h3 : inI l3) (h4 : inI l4) (h5 : inI l5) (h6 : inI l6) (h7 : inI l7), hSim C (some .int) 0 0 11 47 [(0, vR C.1.1 l0), (1, vI l1), (2, vI l2), (3, vI l3), (4, vI l4), (5, vI l5), (6, vI l6), (7, vI l7)] [] 0 0 (m_X10_meet_L47 n l0 l1 l2 l3 l4 l5 l6 l7) := by
  obtain ⟨⟨hf, hlo⟩, ⟨hc1, hc2⟩, hf1, hl1⟩ := K_room K (by omega)
  have hcs : 0 ≤ C.2.2.2.2.1.cells ∧ 0 ≤ C.2.2.2.2.1.slots := ⟨Nat.zero_le _, Nat.zero_le _⟩
  intro n
  induction n with
  | zero => intros; exact s_none (fun _ => rfl)
  | succ n ih =>
    intro l0 l1 l2 l3 l4 l5 l6 l7 h1 h2 h3 h4 h5 h6 h7
    unfold m_X10_meet_L47
    refine s_iload (j := 7) (pc2 := 49) X dX10_meet_47 rfl rfl ?_
    refine s_aload_n (j := 0) (pc2 := 50) X dX10_meet_49 rfl rfl ?_
    refine s_getR (pc2 := 53) X dX10_meet_50 rfl fl_RX10_39 rfl (fun v1 => ?_)
    refine s_iconst (n := 0) (pc2 := 54) X dX10_meet_53 rfl ?_
    refine s_iald (pc2 := 55) X dX10_meet_54 rfl (fun v2 hv2 => ?_)
    refine s_icge (tgt := 165) X dX10_meet_55 (by decide) rfl h7 hv2 ?_ ?_
    · refine s_iload_n (j := 3) (pc2 := 166) X dX10_meet_165 rfl rfl ?_
      refine s_ifne (tgt := 174) X dX10_meet_166 (by decide) rfl h3 ?_ ?_
      · refine s_iload (j := 5) (pc2 := 176) X dX10_meet_174 rfl rfl ?_
        refine s_sub (lv2 := []) [] rfl ?_
        exact z_X10_meet_L176 d hd K X l5 h5
      · refine s_iload (j := 4) (pc2 := 171) X dX10_meet_169 rfl rfl ?_
        refine s_goto (pc2 := 176) X dX10_meet_171 (by decide) ?_
        refine s_sub (lv2 := []) [] rfl ?_
        exact z_X10_meet_L176 d hd K X l4 h4
    · refine s_aload_n (j := 0) (pc2 := 59) X dX10_meet_58 rfl rfl ?_
      refine s_iload_n (j := 1) (pc2 := 60) X dX10_meet_59 rfl rfl ?_
      refine s_iload (j := 7) (pc2 := 62) X dX10_meet_60 rfl rfl ?_
      refine s_callVI (d2 := d - 1) (As := [vI l1, vI l7]) (st := []) (pc2 := 65) X dX10_meet_62 rfl ml_RX10_388 im_X10_wayOf se_X10_wayOf kX10 rfl (c_X10_wayOf (d - 1) (by omega) C.1 C.2.2.1 l0 l1 l7 h1 h7) hy_X10_wayOf rfl rfl hf hlo (st_room (Nat.le_of_ble_eq_true rfl)) hcs (fun v3 hv3 => ?_)
      refine s_istore (pc2 := 67) X dX10_meet_65 rfl (by decide) rfl rfl cat1_I hv3 (fun w4 hw4 => ?_)
      refine s_aload_n (j := 1) (pc2 := 68) X dX10_meet_67 rfl rfl ?_
      refine s_iload_n (j := 3) (pc2 := 69) X dX10_meet_68 rfl rfl ?_
      refine s_iload (j := 8) (pc2 := 71) X dX10_meet_69 rfl rfl ?_
      refine s_callVI (d2 := d - 1) (As := [vI l2, vI l7]) (st := []) (pc2 := 74) X dX10_meet_71 rfl ml_RX10_388 im_X10_wayOf se_X10_wayOf kX10 rfl (c_X10_wayOf (d - 1) (by omega) C.1 C.2.2.1 l0 l2 l7 h2 h7) hy_X10_wayOf rfl rfl hf hlo (st_room (Nat.le_of_ble_eq_true rfl)) hcs (fun v5 hv5 => ?_)
      refine s_istore (pc2 := 76) X dX10_meet_74 rfl (by decide) rfl rfl cat1_I hv5 (fun w6 hw6 => ?_)
      refine s_iload (j := 1) (pc2 := 78) X dX10_meet_76 rfl rfl ?_
      refine s_bipush (n := 99) (pc2 := 80) X dX10_meet_78 rfl rfl ?_
      refine s_iceq (tgt := 159) X dX10_meet_80 (by decide) rfl hw4 (inI_c 99 rfl) ?_ ?_
      · refine s_sub (lv2 := [(0, vR C.1.1 l0), (1, vI l1), (2, vI l2), (3, vI l3), (4, vI l4), (5, vI l5), (6, vI l6), (7, vI l7)]) [2, 3, 4, 5, 6, 7, 8, 9] rfl ?_
        exact z_X10_meet_L159 d hd K X (m_X10_meet_L47 n) ih l0 l1 l2 l3 l4 l5 l6 l7 h1 h2 h3 h4 h5 h6 h7
      · refine s_iload (j := 0) (pc2 := 85) X dX10_meet_83 rfl rfl ?_
        refine s_bipush (n := 99) (pc2 := 87) X dX10_meet_85 rfl rfl ?_
        refine s_icne (tgt := 93) X dX10_meet_87 (by decide) rfl hw6 (inI_c 99 rfl) ?_ ?_
        · refine s_iload (j := 1) (pc2 := 95) X dX10_meet_93 rfl rfl ?_
          refine s_iload (j := 0) (pc2 := 97) X dX10_meet_95 rfl rfl ?_
          refine s_icle (tgt := 105) X dX10_meet_97 (by decide) rfl hw4 hw6 ?_ ?_
          · refine s_iload (j := 0) (pc2 := 107) X dX10_meet_105 rfl rfl ?_
            refine s_sub (lv2 := [(0, vR C.1.1 l0), (1, vI l1), (2, vI l2), (3, vI l3), (4, vI l4), (5, vI l5), (6, vI l6), (7, vI l7), (8, vI w4), (9, vI w6)]) [2, 3, 4, 5, 6, 7, 8, 9, 1, 0] rfl ?_
            exact z_X10_meet_L107 d hd K X (m_X10_meet_L47 n) ih l0 l1 l2 l3 l4 l5 l6 l7 w4 w6 w6 h1 h2 h3 h4 h5 h6 h7 hw4 hw6 hw6
          · refine s_iload (j := 1) (pc2 := 102) X dX10_meet_100 rfl rfl ?_
            refine s_goto (pc2 := 107) X dX10_meet_102 (by decide) ?_
            refine s_sub (lv2 := [(0, vR C.1.1 l0), (1, vI l1), (2, vI l2), (3, vI l3), (4, vI l4), (5, vI l5), (6, vI l6), (7, vI l7), (8, vI w4), (9, vI w6)]) [2, 3, 4, 5, 6, 7, 8, 9, 1, 0] rfl ?_
            exact z_X10_meet_L107 d hd K X (m_X10_meet_L47 n) ih l0 l1 l2 l3 l4 l5 l6 l7 w4 w6 w4 h1 h2 h3 h4 h5 h6 h7 hw4 hw6 hw4
        · refine s_goto (pc2 := 159) X dX10_meet_90 (by decide) ?_
          refine s_sub (lv2 := [(0, vR C.1.1 l0), (1, vI l1), (2, vI l2), (3, vI l3), (4, vI l4), (5, vI l5), (6, vI l6), (7, vI l7)]) [2, 3, 4, 5, 6, 7, 8, 9] rfl ?_
          exact z_X10_meet_L159 d hd K X (m_X10_meet_L47 n) ih l0 l1 l2 l3 l4 l5 l6 l7 h1 h2 h3 h4 h5 h6 h7
set_option maxRecDepth 4000 in
set_option maxHeartbeats 20000000 in
theorem z_X10_meet (d : Nat) (hd : 5 ≤ d) {C : hCx} (K : hCtx C.1 C.2.2.1 d 0 0 "meet" C) (X : hOK C cX10_meet RX10 11 (some .int)) (l0 : Nat) (l1 : Int) (l2 : Int) (l3 : Int) (h1 : inI l1) (h2 : inI l2) (h3 : inI l3) : hSim C (some .int) 0 0 11 0 [(0, vR C.1.1 l0), (1, vI l1), (2, vI l2), (3, vI l3)] [] 0 0 (m_X10_meet l0 l1 l2 l3) := by
  obtain ⟨⟨hf, hlo⟩, ⟨hc1, hc2⟩, hf1, hl1⟩ := K_room K (by omega)
  have hcs : 0 ≤ C.2.2.2.2.1.cells ∧ 0 ≤ C.2.2.2.2.1.slots := ⟨Nat.zero_le _, Nat.zero_le _⟩
  unfold m_X10_meet
  refine s_aload_n (j := 0) (pc2 := 1) X dX10_meet_0 rfl rfl ?_
  refine s_iload_n (j := 1) (pc2 := 2) X dX10_meet_1 rfl rfl ?_
  refine s_callVZ (d2 := d - 1) (As := [vI l1]) (st := []) (pc2 := 5) X dX10_meet_2 rfl ml_RX10_316 im_X10_isPerson se_X10_isPerson kX10 rfl (c_X10_isPerson (d - 1) (by omega) C.1 C.2.2.1 l0 l1 h1) hy_X10_isPerson rfl rfl hf hlo (st_room (Nat.le_of_ble_eq_true rfl)) hcs (fun v1 hv1 => ?_)
  refine s_ifeq (tgt := 31) X dX10_meet_5 (by decide) rfl hv1 ?_ ?_
  · refine s_sub (lv2 := []) [] rfl ?_
    exact z_X10_meet_L31 d hd K X
  · refine s_aload_n (j := 0) (pc2 := 9) X dX10_meet_8 rfl rfl ?_
    refine s_iload_n (j := 2) (pc2 := 10) X dX10_meet_9 rfl rfl ?_
    refine s_callVZ (d2 := d - 1) (As := [vI l2]) (st := []) (pc2 := 13) X dX10_meet_10 rfl ml_RX10_316 im_X10_isPerson se_X10_isPerson kX10 rfl (c_X10_isPerson (d - 1) (by omega) C.1 C.2.2.1 l0 l2 h2) hy_X10_isPerson rfl rfl hf hlo (st_room (Nat.le_of_ble_eq_true rfl)) hcs (fun v2 hv2 => ?_)
    refine s_ifeq (tgt := 31) X dX10_meet_13 (by decide) rfl hv2 ?_ ?_
    · refine s_sub (lv2 := []) [] rfl ?_
      exact z_X10_meet_L31 d hd K X
    · refine s_iload_n (j := 1) (pc2 := 17) X dX10_meet_16 rfl rfl ?_
      refine s_iload_n (j := 2) (pc2 := 18) X dX10_meet_17 rfl rfl ?_
      refine s_iceq (tgt := 31) X dX10_meet_18 (by decide) rfl h1 h2 ?_ ?_
      · refine s_sub (lv2 := []) [] rfl ?_
        exact z_X10_meet_L31 d hd K X
      · refine s_iload_n (j := 3) (pc2 := 22) X dX10_meet_21 rfl rfl ?_
        refine s_i2l (pc2 := 23) X dX10_meet_22 rfl h3 ?_
        refine s_lconst (z := 0) (pc2 := 24) X dX10_meet_23 rfl rfl ?_
        refine s_lconst (z := 1) (pc2 := 25) X dX10_meet_24 rfl rfl ?_
        refine s_callSZ (d2 := d - 1) (As := [vL l3, vL 0, vL 1]) (st := []) (pc2 := 28) X dX10_meet_25 rfl ml_RX10_118 sm_X10_in (c_X10_in (d - 1) (by omega) C.1 C.2.2.1 l3 0 1 (inL_of h3) (inL_c 0 rfl) (inL_c 1 rfl)) hy_X10_in rfl rfl hf hlo (st_room (Nat.le_of_ble_eq_true rfl)) hcs (fun v3 hv3 => ?_)
        refine s_ifne (tgt := 33) X dX10_meet_28 (by decide) rfl hv3 ?_ ?_
        · refine s_bipush (n := (-2)) (pc2 := 35) X dX10_meet_33 rfl rfl ?_
          refine s_istore (pc2 := 37) X dX10_meet_35 rfl (by decide) rfl rfl cat1_I (inI_c (-2) rfl) (fun w4 hw4 => ?_)
          refine s_bipush (n := (-2)) (pc2 := 39) X dX10_meet_37 rfl rfl ?_
          refine s_istore (pc2 := 41) X dX10_meet_39 rfl (by decide) rfl rfl cat1_I (inI_c (-2) rfl) (fun w5 hw5 => ?_)
          refine s_iconst (n := 0) (pc2 := 42) X dX10_meet_41 rfl ?_
          refine s_istore (pc2 := 44) X dX10_meet_42 rfl (by decide) rfl rfl cat1_I (inI_c 0 rfl) (fun w6 hw6 => ?_)
          refine s_iconst (n := 0) (pc2 := 45) X dX10_meet_44 rfl ?_
          refine s_istore (pc2 := 47) X dX10_meet_45 rfl (by decide) rfl rfl cat1_I (inI_c 0 rfl) (fun w7 hw7 => ?_)
          refine s_sub (lv2 := [(0, vR C.1.1 l0), (1, vI l1), (2, vI l2), (3, vI l3), (4, vI w4), (5, vI w5), (6, vI w6), (7, vI w7)]) [4, 5, 6, 7, 3, 2, 1, 0] rfl ?_
          exact z_X10_meet_L47 d hd K X 1000000000 l0 l1 l2 l3 w4 w5 w6 w7 h1 h2 h3 hw4 hw5 hw6 hw7
        · refine s_sub (lv2 := []) [] rfl ?_
          exact z_X10_meet_L31 d hd K X
theorem c_X10_meet (d : Nat) (hd : 5 ≤ d) (G : hG) (l : Launch) (l0 : Nat) (l1 : Int) (l2 : Int) (l3 : Int) (h1 : inI l1) (h2 : inI l2) (h3 : inI l3) : hMet G l yX10_meet cX10_meet 11 (some .int) d 0 0 [vR G.1 l0, vI l1, vI l2, vI l3] (m_X10_meet l0 l1 l2 l3) := by
  refine hMet.of (lv := [(0, vR G.1 l0), (1, vI l1), (2, vI l2), (3, vI l3)]) (by decide +kernel) (by simp [lg_sl, vR_cat, vI_cat, vL_cat, vS_cat2, vT_cat2]) (by simp [lv_args, vR_cat, vI_cat, vL_cat, vS_cat2, vT_cat2]) (fun C K X => ?_)
  obtain ⟨rfl, rfl, K⟩ := K
  exact z_X10_meet d hd ⟨rfl, rfl, K⟩ X l0 l1 l2 l3 h1 h2 h3
def m_X10_canMeet_L19 (s0 : Int) : hM :=
  hretZ s0
def m_X10_canMeet (l0 : Nat) (l1 : Int) (l2 : Int) : hM :=
  hcallV 10 l0 (m_X10_reachOf l0 l1) fun v1 =>
  hcallV 10 l0 (m_X10_reachOf l0 l2) fun v2 =>
  hif (((iandZ v1 v2)) = 0) (
m_X10_canMeet_L19 0) (
m_X10_canMeet_L19 1)
set_option maxRecDepth 4000 in
theorem z_X10_canMeet_L19 (d : Nat) (hd : 5 ≤ d) {C : hCx} (K : hCtx C.1 C.2.2.1 d 0 0 "canMeet" C) (X : hOK C cX10_canMeet RX10 3 (some .boolean)) (s0 : Int) (g0 : inI s0) : hSim C (some .boolean) 0 0 3 19 [] [vI s0] 0 0 (m_X10_canMeet_L19 s0) := by
  obtain ⟨⟨hf, hlo⟩, ⟨hc1, hc2⟩, hf1, hl1⟩ := K_room K (by omega)
  have hcs : 0 ≤ C.2.2.2.2.1.cells ∧ 0 ≤ C.2.2.2.2.1.slots := ⟨Nat.zero_le _, Nat.zero_le _⟩
  unfold m_X10_canMeet_L19
  exact s_zret X dX10_canMeet_19
set_option maxRecDepth 4000 in
set_option maxHeartbeats 20000000 in
theorem z_X10_canMeet (d : Nat) (hd : 5 ≤ d) {C : hCx} (K : hCtx C.1 C.2.2.1 d 0 0 "canMeet" C) (X : hOK C cX10_canMeet RX10 3 (some .boolean)) (l0 : Nat) (l1 : Int) (l2 : Int) (h1 : inI l1) (h2 : inI l2) : hSim C (some .boolean) 0 0 3 0 [(0, vR C.1.1 l0), (1, vI l1), (2, vI l2)] [] 0 0 (m_X10_canMeet l0 l1 l2) := by
  obtain ⟨⟨hf, hlo⟩, ⟨hc1, hc2⟩, hf1, hl1⟩ := K_room K (by omega)
  have hcs : 0 ≤ C.2.2.2.2.1.cells ∧ 0 ≤ C.2.2.2.2.1.slots := ⟨Nat.zero_le _, Nat.zero_le _⟩
  unfold m_X10_canMeet
  refine s_aload_n (j := 0) (pc2 := 1) X dX10_canMeet_0 rfl rfl ?_
  refine s_iload_n (j := 1) (pc2 := 2) X dX10_canMeet_1 rfl rfl ?_
  refine s_callVI (d2 := d - 1) (As := [vI l1]) (st := []) (pc2 := 5) X dX10_canMeet_2 rfl ml_RX10_319 im_X10_reachOf se_X10_reachOf kX10 rfl (c_X10_reachOf (d - 1) (by omega) C.1 C.2.2.1 l0 l1 h1) hy_X10_reachOf rfl rfl hf hlo (st_room (Nat.le_of_ble_eq_true rfl)) hcs (fun v1 hv1 => ?_)
  refine s_aload_n (j := 0) (pc2 := 6) X dX10_canMeet_5 rfl rfl ?_
  refine s_iload_n (j := 2) (pc2 := 7) X dX10_canMeet_6 rfl rfl ?_
  refine s_callVI (d2 := d - 1) (As := [vI l2]) (st := [vI v1]) (pc2 := 10) X dX10_canMeet_7 rfl ml_RX10_319 im_X10_reachOf se_X10_reachOf kX10 rfl (c_X10_reachOf (d - 1) (by omega) C.1 C.2.2.1 l0 l2 h2) hy_X10_reachOf rfl rfl hf hlo (st_room (Nat.le_of_ble_eq_true rfl)) hcs (fun v2 hv2 => ?_)
  refine s_iand (pc2 := 11) X dX10_canMeet_10 rfl ?_
  refine s_ifeq (tgt := 18) X dX10_canMeet_11 (by decide) rfl (iandZ_in _ _) ?_ ?_
  · refine s_iconst (n := 0) (pc2 := 19) X dX10_canMeet_18 rfl ?_
    refine s_sub (lv2 := []) [] rfl ?_
    exact z_X10_canMeet_L19 d hd K X 0 (inI_c 0 rfl)
  · refine s_iconst (n := 1) (pc2 := 15) X dX10_canMeet_14 rfl ?_
    refine s_goto (pc2 := 19) X dX10_canMeet_15 (by decide) ?_
    refine s_sub (lv2 := []) [] rfl ?_
    exact z_X10_canMeet_L19 d hd K X 1 (inI_c 1 rfl)
theorem c_X10_canMeet (d : Nat) (hd : 5 ≤ d) (G : hG) (l : Launch) (l0 : Nat) (l1 : Int) (l2 : Int) (h1 : inI l1) (h2 : inI l2) : hMet G l yX10_canMeet cX10_canMeet 3 (some .boolean) d 0 0 [vR G.1 l0, vI l1, vI l2] (m_X10_canMeet l0 l1 l2) := by
  refine hMet.of (lv := [(0, vR G.1 l0), (1, vI l1), (2, vI l2)]) (by decide +kernel) (by simp [lg_sl, vR_cat, vI_cat, vL_cat, vS_cat2, vT_cat2]) (by simp [lv_args, vR_cat, vI_cat, vL_cat, vS_cat2, vT_cat2]) (fun C K X => ?_)
  obtain ⟨rfl, rfl, K⟩ := K
  exact z_X10_canMeet d hd ⟨rfl, rfl, K⟩ X l0 l1 l2 h1 h2
def m_X10_grows_L138 (k41 : Nat → Int → Int → hM) (l0 : Nat) (l1 : Int) (l2 : Int) (s0 : Nat) (s1 : Int) (s2 : Int) : hM :=
  hpI 10 s0 31 ((iorZ s1 s2)) <|
  hlet (w32 (l2 + 1)) fun (w1 : Int) =>
  k41 l0 l1 w1
def m_X10_grows_L80 (k41 : Nat → Int → Int → hM) : Nat → Nat → Int → Int → Int → Int → hM
  | 0, _, _, _, _, _ => hfail
  | n + 1, l0, l1, l2, l4, l5 =>
    hif (l5 ≥ 72) (
hgI 10 l0 30 fun v1 =>
  hpI 10 l0 30 ((w32 (v1 + l4))) <|
  hgI 10 l0 31 fun v2 =>
  hif (l4 ≤ 0) (
m_X10_grows_L138 k41 l0 l1 l2 l0 v2 0) (
m_X10_grows_L138 k41 l0 l1 l2 l0 v2 ((ishlZ 1 l2)))) (
hgR 10 l0 20 fun v3 =>
  hgR 10 l0 29 fun v4 =>
  haI 20 v4 l5 fun v5 =>
  hsI 20 v3 ((w32 (22 + l5))) v5 <|
  hlet (w32 (l5 + 1)) fun (w6 : Int) =>
  m_X10_grows_L80 k41 n l0 l1 l2 l4 w6)
def m_X10_grows_L41 : Nat → Nat → Int → Int → hM
  | 0, _, _, _ => hfail
  | n + 1, l0, l1, l2 =>
    hgR 10 l0 20 fun v1 =>
  haI 20 v1 4 fun v2 =>
  hif (l2 ≥ v2) (
hret 0) (
hcallV 10 l0 (m_X10_reachOf l0 l2) fun v3 =>
  hcall (m_X10_bits v3) fun v4 =>
  hlet v4 fun (w5 : Int) =>
  hcallV 10 l0 (m_X10_forgets l0 l1) fun _ =>
  hcallV 10 l0 (m_X10_reachOf l0 l2) fun v6 =>
  hcall (m_X10_bits v6) fun v7 =>
  hlet ((w32 (v7 - w5))) fun (w8 : Int) =>
  hlet (0 : Int) fun (w9 : Int) =>
  m_X10_grows_L80 (m_X10_grows_L41 n) 1000000000 l0 l1 l2 w8 w9)
def m_X10_grows_L12 : Nat → Nat → Int → Int → hM
  | 0, _, _, _ => hfail
  | n + 1, l0, l1, l2 =>
    hif (l2 ≥ 72) (
hlet (0 : Int) fun (w1 : Int) =>
  m_X10_grows_L41 1000000000 l0 l1 w1) (
hgR 10 l0 29 fun v2 =>
  hgR 10 l0 20 fun v3 =>
  haI 20 v3 ((w32 (22 + l2))) fun v4 =>
  hsI 20 v2 l2 v4 <|
  hlet (w32 (l2 + 1)) fun (w5 : Int) =>
  m_X10_grows_L12 n l0 l1 w5)
def m_X10_grows (l0 : Nat) (l1 : Int) : hM :=
  hpI 10 l0 30 0 <|
  hpI 10 l0 31 0 <|
  hlet (0 : Int) fun (w1 : Int) =>
  m_X10_grows_L12 1000000000 l0 l1 w1
set_option maxRecDepth 4000 in
theorem z_X10_grows_L138 (d : Nat) (hd : 5 ≤ d) {C : hCx} (K : hCtx C.1 C.2.2.1 d 0 0 "grows" C) (X : hOK C cX10_grows RX10 6 none) (k41 : Nat → Int → Int → hM) (hk41 : ∀ (l0 : Nat) (l1 : Int) (l2 : Int), inI l1 → inI l2 → hSim C none 0 0 6 41 [(0, vR C.1.1 l0), (1, vI l1), (2, vI l2)] [] 0 0 (k41 l0 l1 l2)) (l0 : Nat) (l1 : Int) (l2 : Int) (s0 : Nat) (s1 : Int) (s2 : Int) (h1 : inI l1) (h2 : inI l2) (g1 : inI s1) (g2 : inI s2) : hSim C none 0 0 6 138 [(0, vR C.1.1 l0), (1, vI l1), (2, vI l2)] [vI s2, vI s1, vR C.1.1 s0] 0 0 (m_X10_grows_L138 k41 l0 l1 l2 s0 s1 s2) := by
  obtain ⟨⟨hf, hlo⟩, ⟨hc1, hc2⟩, hf1, hl1⟩ := K_room K (by omega)
  have hcs : 0 ≤ C.2.2.2.2.1.cells ∧ 0 ≤ C.2.2.2.2.1.slots := ⟨Nat.zero_le _, Nat.zero_le _⟩
  unfold m_X10_grows_L138
  refine s_ior (pc2 := 139) X dX10_grows_138 rfl ?_
  refine s_putI (pc2 := 142) X dX10_grows_139 rfl fl_RX10_417 (Or.inl rfl) rfl (iorZ_in _ _) ?_
  refine s_iinc (j := 2) (pc2 := 145) X dX10_grows_142 rfl (by decide) rfl rfl rfl cat1_I (fun w1 hw1 => ?_)
  refine s_goto (pc2 := 41) X dX10_grows_145 (by decide) ?_
  refine s_sub (lv2 := [(0, vR C.1.1 l0), (1, vI l1), (2, vI w1)]) [1, 2, 0] rfl ?_
  exact hk41 l0 l1 w1 h1 hw1
set_option maxRecDepth 4000 in
theorem z_X10_grows_L80 (d : Nat) (hd : 5 ≤ d) {C : hCx} (K : hCtx C.1 C.2.2.1 d 0 0 "grows" C) (X : hOK C cX10_grows RX10 6 none) (k41 : Nat → Int → Int → hM) (hk41 : ∀ (l0 : Nat) (l1 : Int) (l2 : Int), inI l1 → inI l2 → hSim C none 0 0 6 41 [(0, vR C.1.1 l0), (1, vI l1), (2, vI l2)] [] 0 0 (k41 l0 l1 l2)) : ∀ (n : Nat) (l0 : Nat) (l1 : Int) (l2 : Int) (l4 : Int) (l5 : Int) (h1 : inI l1) (h2 : inI l2) (h4 : inI l4) (h5 : inI l5), hSim C none 0 0 6 80 [(0, vR C.1.1 l0), (1, vI l1), (2, vI l2), (4, vI l4), (5, vI l5)] [] 0 0 (m_X10_grows_L80 k41 n l0 l1 l2 l4 l5) := by
  obtain ⟨⟨hf, hlo⟩, ⟨hc1, hc2⟩, hf1, hl1⟩ := K_room K (by omega)
  have hcs : 0 ≤ C.2.2.2.2.1.cells ∧ 0 ≤ C.2.2.2.2.1.slots := ⟨Nat.zero_le _, Nat.zero_le _⟩
  intro n
  induction n with
  | zero => intros; exact s_none (fun _ => rfl)
  | succ n ih =>
    intro l0 l1 l2 l4 l5 h1 h2 h4 h5
    unfold m_X10_grows_L80
    refine s_iload (j := 4) (pc2 := 82) X dX10_grows_80 rfl rfl ?_
    refine s_bipush (n := 72) (pc2 := 84) X dX10_grows_82 rfl rfl ?_
    refine s_icge (tgt := 110) X dX10_grows_84 (by decide) rfl h5 (inI_c 72 rfl) ?_ ?_
    · refine s_aload_n (j := 0) (pc2 := 111) X dX10_grows_110 rfl rfl ?_
      refine s_dup (pc2 := 112) X dX10_grows_111 rfl (vR_cat _ _) ?_
      refine s_getI (pc2 := 115) X dX10_grows_112 rfl fl_RX10_414 rfl (fun v1 hv1 => ?_)
      refine s_iload (j := 3) (pc2 := 117) X dX10_grows_115 rfl rfl ?_
      refine s_iadd (pc2 := 118) X dX10_grows_117 rfl ?_
      refine s_putI (pc2 := 121) X dX10_grows_118 rfl fl_RX10_414 (Or.inl rfl) rfl (w32_in _) ?_
      refine s_aload_n (j := 0) (pc2 := 122) X dX10_grows_121 rfl rfl ?_
      refine s_dup (pc2 := 123) X dX10_grows_122 rfl (vR_cat _ _) ?_
      refine s_getI (pc2 := 126) X dX10_grows_123 rfl fl_RX10_417 rfl (fun v2 hv2 => ?_)
      refine s_iload (j := 3) (pc2 := 128) X dX10_grows_126 rfl rfl ?_
      refine s_ifle (tgt := 137) X dX10_grows_128 (by decide) rfl h4 ?_ ?_
      · refine s_iconst (n := 0) (pc2 := 138) X dX10_grows_137 rfl ?_
        refine s_sub (lv2 := [(0, vR C.1.1 l0), (1, vI l1), (2, vI l2)]) [0, 1, 2] rfl ?_
        exact z_X10_grows_L138 d hd K X k41 hk41 l0 l1 l2 l0 v2 0 h1 h2 hv2 (inI_c 0 rfl)
      · refine s_iconst (n := 1) (pc2 := 132) X dX10_grows_131 rfl ?_
        refine s_iload_n (j := 2) (pc2 := 133) X dX10_grows_132 rfl rfl ?_
        refine s_ishl (pc2 := 134) X dX10_grows_133 rfl ?_
        refine s_goto (pc2 := 138) X dX10_grows_134 (by decide) ?_
        refine s_sub (lv2 := [(0, vR C.1.1 l0), (1, vI l1), (2, vI l2)]) [0, 1, 2] rfl ?_
        exact z_X10_grows_L138 d hd K X k41 hk41 l0 l1 l2 l0 v2 ((ishlZ 1 l2)) h1 h2 hv2 (ishlZ_in _ _)
    · refine s_aload_n (j := 0) (pc2 := 88) X dX10_grows_87 rfl rfl ?_
      refine s_getR (pc2 := 91) X dX10_grows_88 rfl fl_RX10_39 rfl (fun v3 => ?_)
      refine s_bipush (n := 22) (pc2 := 93) X dX10_grows_91 rfl rfl ?_
      refine s_iload (j := 4) (pc2 := 95) X dX10_grows_93 rfl rfl ?_
      refine s_iadd (pc2 := 96) X dX10_grows_95 rfl ?_
      refine s_aload_n (j := 0) (pc2 := 97) X dX10_grows_96 rfl rfl ?_
      refine s_getR (pc2 := 100) X dX10_grows_97 rfl fl_RX10_57 rfl (fun v4 => ?_)
      refine s_iload (j := 4) (pc2 := 102) X dX10_grows_100 rfl rfl ?_
      refine s_iald (pc2 := 103) X dX10_grows_102 rfl (fun v5 hv5 => ?_)
      refine s_iast (pc2 := 104) X dX10_grows_103 rfl hv5 ?_
      refine s_iinc (j := 4) (pc2 := 107) X dX10_grows_104 rfl (by decide) rfl rfl rfl cat1_I (fun w6 hw6 => ?_)
      refine s_goto (pc2 := 80) X dX10_grows_107 (by decide) ?_
      refine s_sub (lv2 := [(0, vR C.1.1 l0), (1, vI l1), (2, vI l2), (4, vI l4), (5, vI w6)]) [1, 2, 3, 4, 0] rfl ?_
      exact ih l0 l1 l2 l4 w6 h1 h2 h4 hw6
set_option maxRecDepth 4000 in
theorem z_X10_grows_L41 (d : Nat) (hd : 5 ≤ d) {C : hCx} (K : hCtx C.1 C.2.2.1 d 0 0 "grows" C) (X : hOK C cX10_grows RX10 6 none) : ∀ (n : Nat) (l0 : Nat) (l1 : Int) (l2 : Int) (h1 : inI l1) (h2 : inI l2), hSim C none 0 0 6 41 [(0, vR C.1.1 l0), (1, vI l1), (2, vI l2)] [] 0 0 (m_X10_grows_L41 n l0 l1 l2) := by
  obtain ⟨⟨hf, hlo⟩, ⟨hc1, hc2⟩, hf1, hl1⟩ := K_room K (by omega)
  have hcs : 0 ≤ C.2.2.2.2.1.cells ∧ 0 ≤ C.2.2.2.2.1.slots := ⟨Nat.zero_le _, Nat.zero_le _⟩
  intro n
  induction n with
  | zero => intros; exact s_none (fun _ => rfl)
  | succ n ih =>
    intro l0 l1 l2 h1 h2
    unfold m_X10_grows_L41
    refine s_iload_n (j := 2) (pc2 := 42) X dX10_grows_41 rfl rfl ?_
    refine s_aload_n (j := 0) (pc2 := 43) X dX10_grows_42 rfl rfl ?_
    refine s_getR (pc2 := 46) X dX10_grows_43 rfl fl_RX10_39 rfl (fun v1 => ?_)
    refine s_iconst (n := 4) (pc2 := 47) X dX10_grows_46 rfl ?_
    refine s_iald (pc2 := 48) X dX10_grows_47 rfl (fun v2 hv2 => ?_)
    refine s_icge (tgt := 148) X dX10_grows_48 (by decide) rfl h2 hv2 ?_ ?_
    · exact s_ret X dX10_grows_148
    · refine s_aload_n (j := 0) (pc2 := 52) X dX10_grows_51 rfl rfl ?_
      refine s_iload_n (j := 2) (pc2 := 53) X dX10_grows_52 rfl rfl ?_
      refine s_callVI (d2 := d - 1) (As := [vI l2]) (st := []) (pc2 := 56) X dX10_grows_53 rfl ml_RX10_319 im_X10_reachOf se_X10_reachOf kX10 rfl (c_X10_reachOf (d - 1) (by omega) C.1 C.2.2.1 l0 l2 h2) hy_X10_reachOf rfl rfl hf hlo (st_room (Nat.le_of_ble_eq_true rfl)) hcs (fun v3 hv3 => ?_)
      refine s_callSI (d2 := d - 1) (As := [vI v3]) (st := []) (pc2 := 59) X dX10_grows_56 rfl ml_RX10_420 sm_X10_bits (c_X10_bits (d - 1) (by omega) C.1 C.2.2.1 v3 hv3) hy_X10_bits rfl rfl hf hlo (st_room (Nat.le_of_ble_eq_true rfl)) hcs (fun v4 hv4 => ?_)
      refine s_istore_n (pc2 := 60) X dX10_grows_59 rfl (by decide) rfl rfl cat1_I hv4 (fun w5 hw5 => ?_)
      refine s_aload_n (j := 1) (pc2 := 61) X dX10_grows_60 rfl rfl ?_
      refine s_iload_n (j := 2) (pc2 := 62) X dX10_grows_61 rfl rfl ?_
      refine s_callVV (d2 := d - 1) (As := [vI l1]) (st := []) (pc2 := 65) X dX10_grows_62 rfl ml_RX10_351 im_X10_forgets se_X10_forgets kX10 rfl (c_X10_forgets (d - 1) (by omega) C.1 C.2.2.1 l0 l1 h1) hy_X10_forgets rfl rfl hf hlo (st_room (Nat.le_of_ble_eq_true rfl)) hcs (fun _ => ?_)
      refine s_aload_n (j := 1) (pc2 := 66) X dX10_grows_65 rfl rfl ?_
      refine s_iload_n (j := 3) (pc2 := 67) X dX10_grows_66 rfl rfl ?_
      refine s_callVI (d2 := d - 1) (As := [vI l2]) (st := []) (pc2 := 70) X dX10_grows_67 rfl ml_RX10_319 im_X10_reachOf se_X10_reachOf kX10 rfl (c_X10_reachOf (d - 1) (by omega) C.1 C.2.2.1 l0 l2 h2) hy_X10_reachOf rfl rfl hf hlo (st_room (Nat.le_of_ble_eq_true rfl)) hcs (fun v6 hv6 => ?_)
      refine s_callSI (d2 := d - 1) (As := [vI v6]) (st := []) (pc2 := 73) X dX10_grows_70 rfl ml_RX10_420 sm_X10_bits (c_X10_bits (d - 1) (by omega) C.1 C.2.2.1 v6 hv6) hy_X10_bits rfl rfl hf hlo (st_room (Nat.le_of_ble_eq_true rfl)) hcs (fun v7 hv7 => ?_)
      refine s_iload_n (j := 0) (pc2 := 74) X dX10_grows_73 rfl rfl ?_
      refine s_isub (pc2 := 75) X dX10_grows_74 rfl ?_
      refine s_istore (pc2 := 77) X dX10_grows_75 rfl (by decide) rfl rfl cat1_I (w32_in _) (fun w8 hw8 => ?_)
      refine s_iconst (n := 0) (pc2 := 78) X dX10_grows_77 rfl ?_
      refine s_istore (pc2 := 80) X dX10_grows_78 rfl (by decide) rfl rfl cat1_I (inI_c 0 rfl) (fun w9 hw9 => ?_)
      refine s_sub (lv2 := [(0, vR C.1.1 l0), (1, vI l1), (2, vI l2), (4, vI w8), (5, vI w9)]) [3, 4, 5, 1, 0] rfl ?_
      exact z_X10_grows_L80 d hd K X (m_X10_grows_L41 n) ih 1000000000 l0 l1 l2 w8 w9 h1 h2 hw8 hw9
set_option maxRecDepth 4000 in
theorem z_X10_grows_L12 (d : Nat) (hd : 5 ≤ d) {C : hCx} (K : hCtx C.1 C.2.2.1 d 0 0 "grows" C) (X : hOK C cX10_grows RX10 6 none) : ∀ (n : Nat) (l0 : Nat) (l1 : Int) (l2 : Int) (h1 : inI l1) (h2 : inI l2), hSim C none 0 0 6 12 [(0, vR C.1.1 l0), (1, vI l1), (2, vI l2)] [] 0 0 (m_X10_grows_L12 n l0 l1 l2) := by
  obtain ⟨⟨hf, hlo⟩, ⟨hc1, hc2⟩, hf1, hl1⟩ := K_room K (by omega)
  have hcs : 0 ≤ C.2.2.2.2.1.cells ∧ 0 ≤ C.2.2.2.2.1.slots := ⟨Nat.zero_le _, Nat.zero_le _⟩
  intro n
  induction n with
  | zero => intros; exact s_none (fun _ => rfl)
  | succ n ih =>
    intro l0 l1 l2 h1 h2
    unfold m_X10_grows_L12
    refine s_iload_n (j := 2) (pc2 := 13) X dX10_grows_12 rfl rfl ?_
    refine s_bipush (n := 72) (pc2 := 15) X dX10_grows_13 rfl rfl ?_
    refine s_icge (tgt := 39) X dX10_grows_15 (by decide) rfl h2 (inI_c 72 rfl) ?_ ?_
    · refine s_iconst (n := 0) (pc2 := 40) X dX10_grows_39 rfl ?_
      refine s_istore_n (pc2 := 41) X dX10_grows_40 rfl (by decide) rfl rfl cat1_I (inI_c 0 rfl) (fun w1 hw1 => ?_)
      refine s_sub (lv2 := [(0, vR C.1.1 l0), (1, vI l1), (2, vI w1)]) [1, 2, 0] rfl ?_
      exact z_X10_grows_L41 d hd K X 1000000000 l0 l1 w1 h1 hw1
    · refine s_aload_n (j := 0) (pc2 := 19) X dX10_grows_18 rfl rfl ?_
      refine s_getR (pc2 := 22) X dX10_grows_19 rfl fl_RX10_57 rfl (fun v2 => ?_)
      refine s_iload_n (j := 2) (pc2 := 23) X dX10_grows_22 rfl rfl ?_
      refine s_aload_n (j := 0) (pc2 := 24) X dX10_grows_23 rfl rfl ?_
      refine s_getR (pc2 := 27) X dX10_grows_24 rfl fl_RX10_39 rfl (fun v3 => ?_)
      refine s_bipush (n := 22) (pc2 := 29) X dX10_grows_27 rfl rfl ?_
      refine s_iload_n (j := 2) (pc2 := 30) X dX10_grows_29 rfl rfl ?_
      refine s_iadd (pc2 := 31) X dX10_grows_30 rfl ?_
      refine s_iald (pc2 := 32) X dX10_grows_31 rfl (fun v4 hv4 => ?_)
      refine s_iast (pc2 := 33) X dX10_grows_32 rfl hv4 ?_
      refine s_iinc (j := 2) (pc2 := 36) X dX10_grows_33 rfl (by decide) rfl rfl rfl cat1_I (fun w5 hw5 => ?_)
      refine s_goto (pc2 := 12) X dX10_grows_36 (by decide) ?_
      refine s_sub (lv2 := [(0, vR C.1.1 l0), (1, vI l1), (2, vI w5)]) [1, 2, 0] rfl ?_
      exact ih l0 l1 w5 h1 hw5
set_option maxRecDepth 4000 in
set_option maxHeartbeats 20000000 in
theorem z_X10_grows (d : Nat) (hd : 5 ≤ d) {C : hCx} (K : hCtx C.1 C.2.2.1 d 0 0 "grows" C) (X : hOK C cX10_grows RX10 6 none) (l0 : Nat) (l1 : Int) (h1 : inI l1) : hSim C none 0 0 6 0 [(0, vR C.1.1 l0), (1, vI l1)] [] 0 0 (m_X10_grows l0 l1) := by
  obtain ⟨⟨hf, hlo⟩, ⟨hc1, hc2⟩, hf1, hl1⟩ := K_room K (by omega)
  have hcs : 0 ≤ C.2.2.2.2.1.cells ∧ 0 ≤ C.2.2.2.2.1.slots := ⟨Nat.zero_le _, Nat.zero_le _⟩
  unfold m_X10_grows
  refine s_aload_n (j := 0) (pc2 := 1) X dX10_grows_0 rfl rfl ?_
  refine s_iconst (n := 0) (pc2 := 2) X dX10_grows_1 rfl ?_
  refine s_putI (pc2 := 5) X dX10_grows_2 rfl fl_RX10_414 (Or.inl rfl) rfl (inI_c 0 rfl) ?_
  refine s_aload_n (j := 0) (pc2 := 6) X dX10_grows_5 rfl rfl ?_
  refine s_iconst (n := 0) (pc2 := 7) X dX10_grows_6 rfl ?_
  refine s_putI (pc2 := 10) X dX10_grows_7 rfl fl_RX10_417 (Or.inl rfl) rfl (inI_c 0 rfl) ?_
  refine s_iconst (n := 0) (pc2 := 11) X dX10_grows_10 rfl ?_
  refine s_istore_n (pc2 := 12) X dX10_grows_11 rfl (by decide) rfl rfl cat1_I (inI_c 0 rfl) (fun w1 hw1 => ?_)
  refine s_sub (lv2 := [(0, vR C.1.1 l0), (1, vI l1), (2, vI w1)]) [1, 2, 0] rfl ?_
  exact z_X10_grows_L12 d hd K X 1000000000 l0 l1 w1 h1 hw1
theorem c_X10_grows (d : Nat) (hd : 5 ≤ d) (G : hG) (l : Launch) (l0 : Nat) (l1 : Int) (h1 : inI l1) : hMet G l yX10_grows cX10_grows 6 none d 0 0 [vR G.1 l0, vI l1] (m_X10_grows l0 l1) := by
  refine hMet.of (lv := [(0, vR G.1 l0), (1, vI l1)]) (by decide +kernel) (by simp [lg_sl, vR_cat, vI_cat, vL_cat, vS_cat2, vT_cat2]) (by simp [lv_args, vR_cat, vI_cat, vL_cat, vS_cat2, vT_cat2]) (fun C K X => ?_)
  obtain ⟨rfl, rfl, K⟩ := K
  exact z_X10_grows d hd ⟨rfl, rfl, K⟩ X l0 l1 h1
def m_X10_best_L19 : hM :=
  hret ((-1))
def m_X10_best_L99 (s0 : Int) : hM :=
  hret s0
def m_X10_best_L74 (k32 : Nat → Int → Int → Int → Int → Int → hM) (l0 : Nat) (l1 : Int) (l2 : Int) (l3 : Int) (l4 : Int) (l5 : Int) : hM :=
  hlet (w32 (l5 + 1)) fun (w1 : Int) =>
  k32 l0 l1 l2 l3 l4 w1
def m_X10_best_L32 : Nat → Nat → Int → Int → Int → Int → Int → hM
  | 0, _, _, _, _, _, _ => hfail
  | n + 1, l0, l1, l2, l3, l4, l5 =>
    hgR 10 l0 20 fun v1 =>
  haI 20 v1 2 fun v2 =>
  hif (l5 ≥ v2) (
hif (l1 ≠ 0) (
hif (l1 ≠ 1) (
m_X10_best_L99 l4) (
m_X10_best_L99 l3)) (
m_X10_best_L99 l2)) (
hcallV 10 l0 (m_X10_grows l0 l5) fun _ =>
  hgI 10 l0 30 fun v3 =>
  hif (v3 > l3) (
hlet l5 fun (w4 : Int) =>
  hgI 10 l0 30 fun v5 =>
  hlet v5 fun (w6 : Int) =>
  hgI 10 l0 31 fun v7 =>
  hlet v7 fun (w8 : Int) =>
  m_X10_best_L74 (m_X10_best_L32 n) l0 l1 w4 w6 w8 l5) (
m_X10_best_L74 (m_X10_best_L32 n) l0 l1 l2 l3 l4 l5))
def m_X10_best (l0 : Nat) (l1 : Int) : hM :=
  hcallV 10 l0 (m_X10_isTown l0) fun v1 =>
  hif (v1 = 0) (
m_X10_best_L19) (
hcall (m_X10_in l1 0 2) fun v2 =>
  hif (v2 ≠ 0) (
hlet ((-2) : Int) fun (w3 : Int) =>
  hlet (0 : Int) fun (w4 : Int) =>
  hlet (0 : Int) fun (w5 : Int) =>
  hlet (0 : Int) fun (w6 : Int) =>
  m_X10_best_L32 1000000000 l0 l1 w3 w4 w5 w6) (
m_X10_best_L19))
set_option maxRecDepth 4000 in
theorem z_X10_best_L19 (d : Nat) (hd : 6 ≤ d) {C : hCx} (K : hCtx C.1 C.2.2.1 d 0 0 "best" C) (X : hOK C cX10_best RX10 6 (some .int)) : hSim C (some .int) 0 0 6 19 [] [] 0 0 (m_X10_best_L19) := by
  obtain ⟨⟨hf, hlo⟩, ⟨hc1, hc2⟩, hf1, hl1⟩ := K_room K (by omega)
  have hcs : 0 ≤ C.2.2.2.2.1.cells ∧ 0 ≤ C.2.2.2.2.1.slots := ⟨Nat.zero_le _, Nat.zero_le _⟩
  unfold m_X10_best_L19
  refine s_iconst (n := (-1)) (pc2 := 20) X dX10_best_19 rfl ?_
  exact s_iret X dX10_best_20 (inI_c (-1) rfl)
set_option maxRecDepth 4000 in
theorem z_X10_best_L99 (d : Nat) (hd : 6 ≤ d) {C : hCx} (K : hCtx C.1 C.2.2.1 d 0 0 "best" C) (X : hOK C cX10_best RX10 6 (some .int)) (s0 : Int) (g0 : inI s0) : hSim C (some .int) 0 0 6 99 [] [vI s0] 0 0 (m_X10_best_L99 s0) := by
  obtain ⟨⟨hf, hlo⟩, ⟨hc1, hc2⟩, hf1, hl1⟩ := K_room K (by omega)
  have hcs : 0 ≤ C.2.2.2.2.1.cells ∧ 0 ≤ C.2.2.2.2.1.slots := ⟨Nat.zero_le _, Nat.zero_le _⟩
  unfold m_X10_best_L99
  exact s_iret X dX10_best_99 g0
set_option maxRecDepth 4000 in
theorem z_X10_best_L74 (d : Nat) (hd : 6 ≤ d) {C : hCx} (K : hCtx C.1 C.2.2.1 d 0 0 "best" C) (X : hOK C cX10_best RX10 6 (some .int)) (k32 : Nat → Int → Int → Int → Int → Int → hM) (hk32 : ∀ (l0 : Nat) (l1 : Int) (l2 : Int) (l3 : Int) (l4 : Int) (l5 : Int), inI l1 → inI l2 → inI l3 → inI l4 → inI l5 → hSim C (some .int) 0 0 6 32 [(0, vR C.1.1 l0), (1, vI l1), (2, vI l2), (3, vI l3), (4, vI l4), (5, vI l5)] [] 0 0 (k32 l0 l1 l2 l3 l4 l5)) (l0 : Nat) (l1 : Int) (l2 : Int) (l3 : Int) (l4 : Int) (l5 : Int) (h1 : inI l1) (h2 : inI l2) (h3 : inI l3) (h4 : inI l4) (h5 : inI l5) : hSim C (some .int) 0 0 6 74 [(0, vR C.1.1 l0), (1, vI l1), (2, vI l2), (3, vI l3), (4, vI l4), (5, vI l5)] [] 0 0 (m_X10_best_L74 k32 l0 l1 l2 l3 l4 l5) := by
  obtain ⟨⟨hf, hlo⟩, ⟨hc1, hc2⟩, hf1, hl1⟩ := K_room K (by omega)
  have hcs : 0 ≤ C.2.2.2.2.1.cells ∧ 0 ≤ C.2.2.2.2.1.slots := ⟨Nat.zero_le _, Nat.zero_le _⟩
  unfold m_X10_best_L74
  refine s_iinc (j := 5) (pc2 := 77) X dX10_best_74 rfl (by decide) rfl rfl rfl cat1_I (fun w1 hw1 => ?_)
  refine s_goto (pc2 := 32) X dX10_best_77 (by decide) ?_
  refine s_sub (lv2 := [(0, vR C.1.1 l0), (1, vI l1), (2, vI l2), (3, vI l3), (4, vI l4), (5, vI w1)]) [1, 2, 3, 4, 5, 0] rfl ?_
  exact hk32 l0 l1 l2 l3 l4 w1 h1 h2 h3 h4 hw1
set_option maxRecDepth 4000 in
theorem z_X10_best_L32 (d : Nat) (hd : 6 ≤ d) {C : hCx} (K : hCtx C.1 C.2.2.1 d 0 0 "best" C) (X : hOK C cX10_best RX10 6 (some .int)) : ∀ (n : Nat) (l0 : Nat) (l1 : Int) (l2 : Int) (l3 : Int) (l4 : Int) (l5 : Int) (h1 : inI l1) (h2 : inI l2) (h3 : inI l3) (h4 : inI l4) (h5 : inI l5), hSim C (some .int) 0 0 6 32 [(0, vR C.1.1 l0), (1, vI l1), (2, vI l2), (3, vI l3), (4, vI l4), (5, vI l5)] [] 0 0 (m_X10_best_L32 n l0 l1 l2 l3 l4 l5) := by
  obtain ⟨⟨hf, hlo⟩, ⟨hc1, hc2⟩, hf1, hl1⟩ := K_room K (by omega)
  have hcs : 0 ≤ C.2.2.2.2.1.cells ∧ 0 ≤ C.2.2.2.2.1.slots := ⟨Nat.zero_le _, Nat.zero_le _⟩
  intro n
  induction n with
  | zero => intros; exact s_none (fun _ => rfl)
  | succ n ih =>
    intro l0 l1 l2 l3 l4 l5 h1 h2 h3 h4 h5
    unfold m_X10_best_L32
    refine s_iload (j := 5) (pc2 := 34) X dX10_best_32 rfl rfl ?_
    refine s_aload_n (j := 0) (pc2 := 35) X dX10_best_34 rfl rfl ?_
    refine s_getR (pc2 := 38) X dX10_best_35 rfl fl_RX10_39 rfl (fun v1 => ?_)
    refine s_iconst (n := 2) (pc2 := 39) X dX10_best_38 rfl ?_
    refine s_iald (pc2 := 40) X dX10_best_39 rfl (fun v2 hv2 => ?_)
    refine s_icge (tgt := 80) X dX10_best_40 (by decide) rfl h5 hv2 ?_ ?_
    · refine s_iload_n (j := 1) (pc2 := 81) X dX10_best_80 rfl rfl ?_
      refine s_ifne (tgt := 88) X dX10_best_81 (by decide) rfl h1 ?_ ?_
      · refine s_iload_n (j := 1) (pc2 := 89) X dX10_best_88 rfl rfl ?_
        refine s_iconst (n := 1) (pc2 := 90) X dX10_best_89 rfl ?_
        refine s_icne (tgt := 97) X dX10_best_90 (by decide) rfl h1 (inI_c 1 rfl) ?_ ?_
        · refine s_iload (j := 4) (pc2 := 99) X dX10_best_97 rfl rfl ?_
          refine s_sub (lv2 := []) [] rfl ?_
          exact z_X10_best_L99 d hd K X l4 h4
        · refine s_iload_n (j := 3) (pc2 := 94) X dX10_best_93 rfl rfl ?_
          refine s_goto (pc2 := 99) X dX10_best_94 (by decide) ?_
          refine s_sub (lv2 := []) [] rfl ?_
          exact z_X10_best_L99 d hd K X l3 h3
      · refine s_iload_n (j := 2) (pc2 := 85) X dX10_best_84 rfl rfl ?_
        refine s_goto (pc2 := 99) X dX10_best_85 (by decide) ?_
        refine s_sub (lv2 := []) [] rfl ?_
        exact z_X10_best_L99 d hd K X l2 h2
    · refine s_aload_n (j := 0) (pc2 := 44) X dX10_best_43 rfl rfl ?_
      refine s_iload (j := 5) (pc2 := 46) X dX10_best_44 rfl rfl ?_
      refine s_callVV (d2 := d - 1) (As := [vI l5]) (st := []) (pc2 := 49) X dX10_best_46 rfl ml_RX10_423 im_X10_grows se_X10_grows kX10 rfl (c_X10_grows (d - 1) (by omega) C.1 C.2.2.1 l0 l5 h5) hy_X10_grows rfl rfl hf hlo (st_room (Nat.le_of_ble_eq_true rfl)) hcs (fun _ => ?_)
      refine s_aload_n (j := 0) (pc2 := 50) X dX10_best_49 rfl rfl ?_
      refine s_getI (pc2 := 53) X dX10_best_50 rfl fl_RX10_414 rfl (fun v3 hv3 => ?_)
      refine s_iload_n (j := 3) (pc2 := 54) X dX10_best_53 rfl rfl ?_
      refine s_icgt (tgt := 60) X dX10_best_54 (by decide) rfl hv3 h3 ?_ ?_
      · refine s_iload (j := 5) (pc2 := 62) X dX10_best_60 rfl rfl ?_
        refine s_istore_n (pc2 := 63) X dX10_best_62 rfl (by decide) rfl rfl cat1_I h5 (fun w4 hw4 => ?_)
        refine s_aload_n (j := 1) (pc2 := 64) X dX10_best_63 rfl rfl ?_
        refine s_getI (pc2 := 67) X dX10_best_64 rfl fl_RX10_414 rfl (fun v5 hv5 => ?_)
        refine s_istore_n (pc2 := 68) X dX10_best_67 rfl (by decide) rfl rfl cat1_I hv5 (fun w6 hw6 => ?_)
        refine s_aload_n (j := 2) (pc2 := 69) X dX10_best_68 rfl rfl ?_
        refine s_getI (pc2 := 72) X dX10_best_69 rfl fl_RX10_417 rfl (fun v7 hv7 => ?_)
        refine s_istore (pc2 := 74) X dX10_best_72 rfl (by decide) rfl rfl cat1_I hv7 (fun w8 hw8 => ?_)
        refine s_sub (lv2 := [(0, vR C.1.1 l0), (1, vI l1), (2, vI w4), (3, vI w6), (4, vI w8), (5, vI l5)]) [3, 4, 2, 1, 0, 5] rfl ?_
        exact z_X10_best_L74 d hd K X (m_X10_best_L32 n) ih l0 l1 w4 w6 w8 l5 h1 hw4 hw6 hw8 h5
      · refine s_goto (pc2 := 74) X dX10_best_57 (by decide) ?_
        exact z_X10_best_L74 d hd K X (m_X10_best_L32 n) ih l0 l1 l2 l3 l4 l5 h1 h2 h3 h4 h5
set_option maxRecDepth 4000 in
set_option maxHeartbeats 20000000 in
theorem z_X10_best (d : Nat) (hd : 6 ≤ d) {C : hCx} (K : hCtx C.1 C.2.2.1 d 0 0 "best" C) (X : hOK C cX10_best RX10 6 (some .int)) (l0 : Nat) (l1 : Int) (h1 : inI l1) : hSim C (some .int) 0 0 6 0 [(0, vR C.1.1 l0), (1, vI l1)] [] 0 0 (m_X10_best l0 l1) := by
  obtain ⟨⟨hf, hlo⟩, ⟨hc1, hc2⟩, hf1, hl1⟩ := K_room K (by omega)
  have hcs : 0 ≤ C.2.2.2.2.1.cells ∧ 0 ≤ C.2.2.2.2.1.slots := ⟨Nat.zero_le _, Nat.zero_le _⟩
  unfold m_X10_best
  refine s_aload_n (j := 0) (pc2 := 1) X dX10_best_0 rfl rfl ?_
  refine s_callVZ (d2 := d - 1) (As := []) (st := []) (pc2 := 4) X dX10_best_1 rfl ml_RX10_358 im_X10_isTown se_X10_isTown kX10 rfl (c_X10_isTown (d - 1) (by omega) C.1 C.2.2.1 l0) hy_X10_isTown rfl rfl hf hlo (st_room (Nat.le_of_ble_eq_true rfl)) hcs (fun v1 hv1 => ?_)
  refine s_ifeq (tgt := 19) X dX10_best_4 (by decide) rfl hv1 ?_ ?_
  · refine s_sub (lv2 := []) [] rfl ?_
    exact z_X10_best_L19 d hd K X
  · refine s_iload_n (j := 1) (pc2 := 8) X dX10_best_7 rfl rfl ?_
    refine s_i2l (pc2 := 9) X dX10_best_8 rfl h1 ?_
    refine s_lconst (z := 0) (pc2 := 10) X dX10_best_9 rfl rfl ?_
    refine s_ldc2 (z := 2) (pc2 := 13) X dX10_best_10 rfl kc_RX10_331 ?_
    refine s_callSZ (d2 := d - 1) (As := [vL l1, vL 0, vL 2]) (st := []) (pc2 := 16) X dX10_best_13 rfl ml_RX10_118 sm_X10_in (c_X10_in (d - 1) (by omega) C.1 C.2.2.1 l1 0 2 (inL_of h1) (inL_c 0 rfl) (inL_c 2 rfl)) hy_X10_in rfl rfl hf hlo (st_room (Nat.le_of_ble_eq_true rfl)) hcs (fun v2 hv2 => ?_)
    refine s_ifne (tgt := 21) X dX10_best_16 (by decide) rfl hv2 ?_ ?_
    · refine s_bipush (n := (-2)) (pc2 := 23) X dX10_best_21 rfl rfl ?_
      refine s_istore_n (pc2 := 24) X dX10_best_23 rfl (by decide) rfl rfl cat1_I (inI_c (-2) rfl) (fun w3 hw3 => ?_)
      refine s_iconst (n := 0) (pc2 := 25) X dX10_best_24 rfl ?_
      refine s_istore_n (pc2 := 26) X dX10_best_25 rfl (by decide) rfl rfl cat1_I (inI_c 0 rfl) (fun w4 hw4 => ?_)
      refine s_iconst (n := 0) (pc2 := 27) X dX10_best_26 rfl ?_
      refine s_istore (pc2 := 29) X dX10_best_27 rfl (by decide) rfl rfl cat1_I (inI_c 0 rfl) (fun w5 hw5 => ?_)
      refine s_iconst (n := 0) (pc2 := 30) X dX10_best_29 rfl ?_
      refine s_istore (pc2 := 32) X dX10_best_30 rfl (by decide) rfl rfl cat1_I (inI_c 0 rfl) (fun w6 hw6 => ?_)
      refine s_sub (lv2 := [(0, vR C.1.1 l0), (1, vI l1), (2, vI w3), (3, vI w4), (4, vI w5), (5, vI w6)]) [4, 5, 3, 2, 1, 0] rfl ?_
      exact z_X10_best_L32 d hd K X 1000000000 l0 l1 w3 w4 w5 w6 h1 hw3 hw4 hw5 hw6
    · refine s_sub (lv2 := []) [] rfl ?_
      exact z_X10_best_L19 d hd K X
theorem c_X10_best (d : Nat) (hd : 6 ≤ d) (G : hG) (l : Launch) (l0 : Nat) (l1 : Int) (h1 : inI l1) : hMet G l yX10_best cX10_best 6 (some .int) d 0 0 [vR G.1 l0, vI l1] (m_X10_best l0 l1) := by
  refine hMet.of (lv := [(0, vR G.1 l0), (1, vI l1)]) (by decide +kernel) (by simp [lg_sl, vR_cat, vI_cat, vL_cat, vS_cat2, vT_cat2]) (by simp [lv_args, vR_cat, vI_cat, vL_cat, vS_cat2, vT_cat2]) (fun C K X => ?_)
  obtain ⟨rfl, rfl, K⟩ := K
  exact z_X10_best d hd ⟨rfl, rfl, K⟩ X l0 l1 h1
def m_X10_alone_L91 (k13 : Nat → Int → Int → hM) (l0 : Nat) (l2 : Int) (s0 : Int) (s1 : Int) : hM :=
  hlet ((iorZ s0 s1)) fun (w1 : Int) =>
  hlet (w32 (l2 + 1)) fun (w2 : Int) =>
  k13 l0 w1 w2
def m_X10_alone_L72 (k13 : Nat → Int → Int → hM) (k28 : Nat → Int → Int → Int → Int → hM) (l0 : Nat) (l1 : Int) (l2 : Int) (l4 : Int) (s0 : Int) : hM :=
  hlet s0 fun (w1 : Int) =>
  hlet (w32 (l4 + 1)) fun (w2 : Int) =>
  k28 l0 l1 l2 w1 w2
def m_X10_alone_L71 (k13 : Nat → Int → Int → hM) (k28 : Nat → Int → Int → Int → Int → hM) (l0 : Nat) (l1 : Int) (l2 : Int) (l4 : Int) : hM :=
  m_X10_alone_L72 k13 k28 l0 l1 l2 l4 0
def m_X10_alone_L67 (k13 : Nat → Int → Int → hM) (k28 : Nat → Int → Int → Int → Int → hM) (l0 : Nat) (l1 : Int) (l2 : Int) (l4 : Int) : hM :=
  m_X10_alone_L72 k13 k28 l0 l1 l2 l4 1
def m_X10_alone_L28 (k13 : Nat → Int → Int → hM) : Nat → Nat → Int → Int → Int → Int → hM
  | 0, _, _, _, _, _ => hfail
  | n + 1, l0, l1, l2, l3, l4 =>
    hgR 10 l0 20 fun v1 =>
  haI 20 v1 4 fun v2 =>
  hif (l4 ≥ v2) (
hif (l3 = 0) (
m_X10_alone_L91 k13 l0 l2 l1 0) (
m_X10_alone_L91 k13 l0 l2 l1 ((ishlZ 1 l2)))) (
hif (l3 = 0) (
m_X10_alone_L71 k13 (m_X10_alone_L28 k13 n) l0 l1 l2 l4) (
hif (l4 = l2) (
m_X10_alone_L67 k13 (m_X10_alone_L28 k13 n) l0 l1 l2 l4) (
hcallV 10 l0 (m_X10_reachOf l0 l4) fun v3 =>
  hcallV 10 l0 (m_X10_personOf l0 l2 0) fun v4 =>
  hcall (m_X10_isOf v3 v4) fun v5 =>
  hif (v5 ≠ 0) (
m_X10_alone_L71 k13 (m_X10_alone_L28 k13 n) l0 l1 l2 l4) (
m_X10_alone_L67 k13 (m_X10_alone_L28 k13 n) l0 l1 l2 l4))))
def m_X10_alone_L13 : Nat → Nat → Int → Int → hM
  | 0, _, _, _ => hfail
  | n + 1, l0, l1, l2 =>
    hgR 10 l0 20 fun v1 =>
  haI 20 v1 4 fun v2 =>
  hif (l2 ≥ v2) (
hret l1) (
hlet (1 : Int) fun (w3 : Int) =>
  hlet (0 : Int) fun (w4 : Int) =>
  m_X10_alone_L28 (m_X10_alone_L13 n) 1000000000 l0 l1 l2 w3 w4)
def m_X10_alone (l0 : Nat) : hM :=
  hcallV 10 l0 (m_X10_isTown l0) fun v1 =>
  hif (v1 ≠ 0) (
hlet (0 : Int) fun (w2 : Int) =>
  hlet (0 : Int) fun (w3 : Int) =>
  m_X10_alone_L13 1000000000 l0 w2 w3) (
hret ((-1)))
set_option maxRecDepth 4000 in
theorem z_X10_alone_L91 (d : Nat) (hd : 5 ≤ d) {C : hCx} (K : hCtx C.1 C.2.2.1 d 0 0 "alone" C) (X : hOK C cX10_alone RX10 5 (some .int)) (k13 : Nat → Int → Int → hM) (hk13 : ∀ (l0 : Nat) (l1 : Int) (l2 : Int), inI l1 → inI l2 → hSim C (some .int) 0 0 5 13 [(0, vR C.1.1 l0), (1, vI l1), (2, vI l2)] [] 0 0 (k13 l0 l1 l2)) (l0 : Nat) (l2 : Int) (s0 : Int) (s1 : Int) (h2 : inI l2) (g0 : inI s0) (g1 : inI s1) : hSim C (some .int) 0 0 5 91 [(0, vR C.1.1 l0), (2, vI l2)] [vI s1, vI s0] 0 0 (m_X10_alone_L91 k13 l0 l2 s0 s1) := by
  obtain ⟨⟨hf, hlo⟩, ⟨hc1, hc2⟩, hf1, hl1⟩ := K_room K (by omega)
  have hcs : 0 ≤ C.2.2.2.2.1.cells ∧ 0 ≤ C.2.2.2.2.1.slots := ⟨Nat.zero_le _, Nat.zero_le _⟩
  unfold m_X10_alone_L91
  refine s_ior (pc2 := 92) X dX10_alone_91 rfl ?_
  refine s_istore_n (pc2 := 93) X dX10_alone_92 rfl (by decide) rfl rfl cat1_R (iorZ_in _ _) (fun w1 hw1 => ?_)
  refine s_iinc (j := 2) (pc2 := 96) X dX10_alone_93 rfl (by decide) rfl rfl rfl cat1_I (fun w2 hw2 => ?_)
  refine s_goto (pc2 := 13) X dX10_alone_96 (by decide) ?_
  refine s_sub (lv2 := [(0, vR C.1.1 l0), (1, vI w1), (2, vI w2)]) [2, 1, 0] rfl ?_
  exact hk13 l0 w1 w2 hw1 hw2
set_option maxRecDepth 4000 in
theorem z_X10_alone_L72 (d : Nat) (hd : 5 ≤ d) {C : hCx} (K : hCtx C.1 C.2.2.1 d 0 0 "alone" C) (X : hOK C cX10_alone RX10 5 (some .int)) (k13 : Nat → Int → Int → hM) (hk13 : ∀ (l0 : Nat) (l1 : Int) (l2 : Int), inI l1 → inI l2 → hSim C (some .int) 0 0 5 13 [(0, vR C.1.1 l0), (1, vI l1), (2, vI l2)] [] 0 0 (k13 l0 l1 l2)) (k28 : Nat → Int → Int → Int → Int → hM) (hk28 : ∀ (l0 : Nat) (l1 : Int) (l2 : Int) (l3 : Int) (l4 : Int), inI l1 → inI l2 → inI l3 → inI l4 → hSim C (some .int) 0 0 5 28 [(0, vR C.1.1 l0), (1, vI l1), (2, vI l2), (3, vI l3), (4, vI l4)] [] 0 0 (k28 l0 l1 l2 l3 l4)) (l0 : Nat) (l1 : Int) (l2 : Int) (l4 : Int) (s0 : Int) (h1 : inI l1) (h2 : inI l2) (h4 : inI l4) (g0 : inI s0) : hSim C (some .int) 0 0 5 72 [(0, vR C.1.1 l0), (1, vI l1), (2, vI l2), (4, vI l4)] [vI s0] 0 0 (m_X10_alone_L72 k13 k28 l0 l1 l2 l4 s0) := by
  obtain ⟨⟨hf, hlo⟩, ⟨hc1, hc2⟩, hf1, hl1⟩ := K_room K (by omega)
  have hcs : 0 ≤ C.2.2.2.2.1.cells ∧ 0 ≤ C.2.2.2.2.1.slots := ⟨Nat.zero_le _, Nat.zero_le _⟩
  unfold m_X10_alone_L72
  refine s_istore_n (pc2 := 73) X dX10_alone_72 rfl (by decide) rfl rfl cat1_I g0 (fun w1 hw1 => ?_)
  refine s_iinc (j := 4) (pc2 := 76) X dX10_alone_73 rfl (by decide) rfl rfl rfl cat1_I (fun w2 hw2 => ?_)
  refine s_goto (pc2 := 28) X dX10_alone_76 (by decide) ?_
  refine s_sub (lv2 := [(0, vR C.1.1 l0), (1, vI l1), (2, vI l2), (3, vI w1), (4, vI w2)]) [2, 3, 4, 1, 0] rfl ?_
  exact hk28 l0 l1 l2 w1 w2 h1 h2 hw1 hw2
set_option maxRecDepth 4000 in
theorem z_X10_alone_L71 (d : Nat) (hd : 5 ≤ d) {C : hCx} (K : hCtx C.1 C.2.2.1 d 0 0 "alone" C) (X : hOK C cX10_alone RX10 5 (some .int)) (k13 : Nat → Int → Int → hM) (hk13 : ∀ (l0 : Nat) (l1 : Int) (l2 : Int), inI l1 → inI l2 → hSim C (some .int) 0 0 5 13 [(0, vR C.1.1 l0), (1, vI l1), (2, vI l2)] [] 0 0 (k13 l0 l1 l2)) (k28 : Nat → Int → Int → Int → Int → hM) (hk28 : ∀ (l0 : Nat) (l1 : Int) (l2 : Int) (l3 : Int) (l4 : Int), inI l1 → inI l2 → inI l3 → inI l4 → hSim C (some .int) 0 0 5 28 [(0, vR C.1.1 l0), (1, vI l1), (2, vI l2), (3, vI l3), (4, vI l4)] [] 0 0 (k28 l0 l1 l2 l3 l4)) (l0 : Nat) (l1 : Int) (l2 : Int) (l4 : Int) (h1 : inI l1) (h2 : inI l2) (h4 : inI l4) : hSim C (some .int) 0 0 5 71 [(0, vR C.1.1 l0), (1, vI l1), (2, vI l2), (4, vI l4)] [] 0 0 (m_X10_alone_L71 k13 k28 l0 l1 l2 l4) := by
  obtain ⟨⟨hf, hlo⟩, ⟨hc1, hc2⟩, hf1, hl1⟩ := K_room K (by omega)
  have hcs : 0 ≤ C.2.2.2.2.1.cells ∧ 0 ≤ C.2.2.2.2.1.slots := ⟨Nat.zero_le _, Nat.zero_le _⟩
  unfold m_X10_alone_L71
  refine s_iconst (n := 0) (pc2 := 72) X dX10_alone_71 rfl ?_
  exact z_X10_alone_L72 d hd K X k13 hk13 k28 hk28 l0 l1 l2 l4 0 h1 h2 h4 (inI_c 0 rfl)
set_option maxRecDepth 4000 in
theorem z_X10_alone_L67 (d : Nat) (hd : 5 ≤ d) {C : hCx} (K : hCtx C.1 C.2.2.1 d 0 0 "alone" C) (X : hOK C cX10_alone RX10 5 (some .int)) (k13 : Nat → Int → Int → hM) (hk13 : ∀ (l0 : Nat) (l1 : Int) (l2 : Int), inI l1 → inI l2 → hSim C (some .int) 0 0 5 13 [(0, vR C.1.1 l0), (1, vI l1), (2, vI l2)] [] 0 0 (k13 l0 l1 l2)) (k28 : Nat → Int → Int → Int → Int → hM) (hk28 : ∀ (l0 : Nat) (l1 : Int) (l2 : Int) (l3 : Int) (l4 : Int), inI l1 → inI l2 → inI l3 → inI l4 → hSim C (some .int) 0 0 5 28 [(0, vR C.1.1 l0), (1, vI l1), (2, vI l2), (3, vI l3), (4, vI l4)] [] 0 0 (k28 l0 l1 l2 l3 l4)) (l0 : Nat) (l1 : Int) (l2 : Int) (l4 : Int) (h1 : inI l1) (h2 : inI l2) (h4 : inI l4) : hSim C (some .int) 0 0 5 67 [(0, vR C.1.1 l0), (1, vI l1), (2, vI l2), (4, vI l4)] [] 0 0 (m_X10_alone_L67 k13 k28 l0 l1 l2 l4) := by
  obtain ⟨⟨hf, hlo⟩, ⟨hc1, hc2⟩, hf1, hl1⟩ := K_room K (by omega)
  have hcs : 0 ≤ C.2.2.2.2.1.cells ∧ 0 ≤ C.2.2.2.2.1.slots := ⟨Nat.zero_le _, Nat.zero_le _⟩
  unfold m_X10_alone_L67
  refine s_iconst (n := 1) (pc2 := 68) X dX10_alone_67 rfl ?_
  refine s_goto (pc2 := 72) X dX10_alone_68 (by decide) ?_
  exact z_X10_alone_L72 d hd K X k13 hk13 k28 hk28 l0 l1 l2 l4 1 h1 h2 h4 (inI_c 1 rfl)
set_option maxRecDepth 4000 in
theorem z_X10_alone_L28 (d : Nat) (hd : 5 ≤ d) {C : hCx} (K : hCtx C.1 C.2.2.1 d 0 0 "alone" C) (X : hOK C cX10_alone RX10 5 (some .int)) (k13 : Nat → Int → Int → hM) (hk13 : ∀ (l0 : Nat) (l1 : Int) (l2 : Int), inI l1 → inI l2 → hSim C (some .int) 0 0 5 13 [(0, vR C.1.1 l0), (1, vI l1), (2, vI l2)] [] 0 0 (k13 l0 l1 l2)) : ∀ (n : Nat) (l0 : Nat) (l1 : Int) (l2 : Int) (l3 : Int) (l4 : Int) (h1 : inI l1) (h2 : inI l2) (h3 : inI l3) (h4 : inI l4), hSim C (some .int) 0 0 5 28 [(0, vR C.1.1 l0), (1, vI l1), (2, vI l2), (3, vI l3), (4, vI l4)] [] 0 0 (m_X10_alone_L28 k13 n l0 l1 l2 l3 l4) := by
  obtain ⟨⟨hf, hlo⟩, ⟨hc1, hc2⟩, hf1, hl1⟩ := K_room K (by omega)
  have hcs : 0 ≤ C.2.2.2.2.1.cells ∧ 0 ≤ C.2.2.2.2.1.slots := ⟨Nat.zero_le _, Nat.zero_le _⟩
  intro n
  induction n with
  | zero => intros; exact s_none (fun _ => rfl)
  | succ n ih =>
    intro l0 l1 l2 l3 l4 h1 h2 h3 h4
    unfold m_X10_alone_L28
    refine s_iload (j := 4) (pc2 := 30) X dX10_alone_28 rfl rfl ?_
    refine s_aload_n (j := 0) (pc2 := 31) X dX10_alone_30 rfl rfl ?_
    refine s_getR (pc2 := 34) X dX10_alone_31 rfl fl_RX10_39 rfl (fun v1 => ?_)
    refine s_iconst (n := 4) (pc2 := 35) X dX10_alone_34 rfl ?_
    refine s_iald (pc2 := 36) X dX10_alone_35 rfl (fun v2 hv2 => ?_)
    refine s_icge (tgt := 79) X dX10_alone_36 (by decide) rfl h4 hv2 ?_ ?_
    · refine s_iload_n (j := 1) (pc2 := 80) X dX10_alone_79 rfl rfl ?_
      refine s_iload_n (j := 3) (pc2 := 81) X dX10_alone_80 rfl rfl ?_
      refine s_ifeq (tgt := 90) X dX10_alone_81 (by decide) rfl h3 ?_ ?_
      · refine s_iconst (n := 0) (pc2 := 91) X dX10_alone_90 rfl ?_
        refine s_sub (lv2 := [(0, vR C.1.1 l0), (2, vI l2)]) [0, 2] rfl ?_
        exact z_X10_alone_L91 d hd K X k13 hk13 l0 l2 l1 0 h2 h1 (inI_c 0 rfl)
      · refine s_iconst (n := 1) (pc2 := 85) X dX10_alone_84 rfl ?_
        refine s_iload_n (j := 2) (pc2 := 86) X dX10_alone_85 rfl rfl ?_
        refine s_ishl (pc2 := 87) X dX10_alone_86 rfl ?_
        refine s_goto (pc2 := 91) X dX10_alone_87 (by decide) ?_
        refine s_sub (lv2 := [(0, vR C.1.1 l0), (2, vI l2)]) [0, 2] rfl ?_
        exact z_X10_alone_L91 d hd K X k13 hk13 l0 l2 l1 ((ishlZ 1 l2)) h2 h1 (ishlZ_in _ _)
    · refine s_iload_n (j := 3) (pc2 := 40) X dX10_alone_39 rfl rfl ?_
      refine s_ifeq (tgt := 71) X dX10_alone_40 (by decide) rfl h3 ?_ ?_
      · refine s_sub (lv2 := [(0, vR C.1.1 l0), (1, vI l1), (2, vI l2), (4, vI l4)]) [0, 1, 2, 4] rfl ?_
        exact z_X10_alone_L71 d hd K X k13 hk13 (m_X10_alone_L28 k13 n) ih l0 l1 l2 l4 h1 h2 h4
      · refine s_iload (j := 4) (pc2 := 45) X dX10_alone_43 rfl rfl ?_
        refine s_iload_n (j := 2) (pc2 := 46) X dX10_alone_45 rfl rfl ?_
        refine s_iceq (tgt := 67) X dX10_alone_46 (by decide) rfl h4 h2 ?_ ?_
        · refine s_sub (lv2 := [(0, vR C.1.1 l0), (1, vI l1), (2, vI l2), (4, vI l4)]) [0, 1, 2, 4] rfl ?_
          exact z_X10_alone_L67 d hd K X k13 hk13 (m_X10_alone_L28 k13 n) ih l0 l1 l2 l4 h1 h2 h4
        · refine s_aload_n (j := 0) (pc2 := 50) X dX10_alone_49 rfl rfl ?_
          refine s_iload (j := 4) (pc2 := 52) X dX10_alone_50 rfl rfl ?_
          refine s_callVI (d2 := d - 1) (As := [vI l4]) (st := []) (pc2 := 55) X dX10_alone_52 rfl ml_RX10_319 im_X10_reachOf se_X10_reachOf kX10 rfl (c_X10_reachOf (d - 1) (by omega) C.1 C.2.2.1 l0 l4 h4) hy_X10_reachOf rfl rfl hf hlo (st_room (Nat.le_of_ble_eq_true rfl)) hcs (fun v3 hv3 => ?_)
          refine s_aload_n (j := 0) (pc2 := 56) X dX10_alone_55 rfl rfl ?_
          refine s_iload_n (j := 2) (pc2 := 57) X dX10_alone_56 rfl rfl ?_
          refine s_iconst (n := 0) (pc2 := 58) X dX10_alone_57 rfl ?_
          refine s_callVI (d2 := d - 1) (As := [vI l2, vI 0]) (st := [vI v3]) (pc2 := 61) X dX10_alone_58 rfl ml_RX10_307 im_X10_personOf se_X10_personOf kX10 rfl (c_X10_personOf (d - 1) (by omega) C.1 C.2.2.1 l0 l2 0 h2 (inI_c 0 rfl)) hy_X10_personOf rfl rfl hf hlo (st_room (Nat.le_of_ble_eq_true rfl)) hcs (fun v4 hv4 => ?_)
          refine s_callSZ (d2 := d - 1) (As := [vI v3, vI v4]) (st := []) (pc2 := 64) X dX10_alone_61 rfl ml_RX10_426 sm_X10_isOf (c_X10_isOf (d - 1) (by omega) C.1 C.2.2.1 v3 v4 hv3 hv4) hy_X10_isOf rfl rfl hf hlo (st_room (Nat.le_of_ble_eq_true rfl)) hcs (fun v5 hv5 => ?_)
          refine s_ifne (tgt := 71) X dX10_alone_64 (by decide) rfl hv5 ?_ ?_
          · refine s_sub (lv2 := [(0, vR C.1.1 l0), (1, vI l1), (2, vI l2), (4, vI l4)]) [0, 1, 2, 4] rfl ?_
            exact z_X10_alone_L71 d hd K X k13 hk13 (m_X10_alone_L28 k13 n) ih l0 l1 l2 l4 h1 h2 h4
          · refine s_sub (lv2 := [(0, vR C.1.1 l0), (1, vI l1), (2, vI l2), (4, vI l4)]) [0, 1, 2, 4] rfl ?_
            exact z_X10_alone_L67 d hd K X k13 hk13 (m_X10_alone_L28 k13 n) ih l0 l1 l2 l4 h1 h2 h4
set_option maxRecDepth 4000 in
theorem z_X10_alone_L13 (d : Nat) (hd : 5 ≤ d) {C : hCx} (K : hCtx C.1 C.2.2.1 d 0 0 "alone" C) (X : hOK C cX10_alone RX10 5 (some .int)) : ∀ (n : Nat) (l0 : Nat) (l1 : Int) (l2 : Int) (h1 : inI l1) (h2 : inI l2), hSim C (some .int) 0 0 5 13 [(0, vR C.1.1 l0), (1, vI l1), (2, vI l2)] [] 0 0 (m_X10_alone_L13 n l0 l1 l2) := by
  obtain ⟨⟨hf, hlo⟩, ⟨hc1, hc2⟩, hf1, hl1⟩ := K_room K (by omega)
  have hcs : 0 ≤ C.2.2.2.2.1.cells ∧ 0 ≤ C.2.2.2.2.1.slots := ⟨Nat.zero_le _, Nat.zero_le _⟩
  intro n
  induction n with
  | zero => intros; exact s_none (fun _ => rfl)
  | succ n ih =>
    intro l0 l1 l2 h1 h2
    unfold m_X10_alone_L13
    refine s_iload_n (j := 2) (pc2 := 14) X dX10_alone_13 rfl rfl ?_
    refine s_aload_n (j := 0) (pc2 := 15) X dX10_alone_14 rfl rfl ?_
    refine s_getR (pc2 := 18) X dX10_alone_15 rfl fl_RX10_39 rfl (fun v1 => ?_)
    refine s_iconst (n := 4) (pc2 := 19) X dX10_alone_18 rfl ?_
    refine s_iald (pc2 := 20) X dX10_alone_19 rfl (fun v2 hv2 => ?_)
    refine s_icge (tgt := 99) X dX10_alone_20 (by decide) rfl h2 hv2 ?_ ?_
    · refine s_iload_n (j := 1) (pc2 := 100) X dX10_alone_99 rfl rfl ?_
      exact s_iret X dX10_alone_100 h1
    · refine s_iconst (n := 1) (pc2 := 24) X dX10_alone_23 rfl ?_
      refine s_istore_n (pc2 := 25) X dX10_alone_24 rfl (by decide) rfl rfl cat1_I (inI_c 1 rfl) (fun w3 hw3 => ?_)
      refine s_iconst (n := 0) (pc2 := 26) X dX10_alone_25 rfl ?_
      refine s_istore (pc2 := 28) X dX10_alone_26 rfl (by decide) rfl rfl cat1_I (inI_c 0 rfl) (fun w4 hw4 => ?_)
      refine s_sub (lv2 := [(0, vR C.1.1 l0), (1, vI l1), (2, vI l2), (3, vI w3), (4, vI w4)]) [2, 3, 4, 1, 0] rfl ?_
      exact z_X10_alone_L28 d hd K X (m_X10_alone_L13 n) ih 1000000000 l0 l1 l2 w3 w4 h1 h2 hw3 hw4
set_option maxRecDepth 4000 in
set_option maxHeartbeats 20000000 in
theorem z_X10_alone (d : Nat) (hd : 5 ≤ d) {C : hCx} (K : hCtx C.1 C.2.2.1 d 0 0 "alone" C) (X : hOK C cX10_alone RX10 5 (some .int)) (l0 : Nat) : hSim C (some .int) 0 0 5 0 [(0, vR C.1.1 l0)] [] 0 0 (m_X10_alone l0) := by
  obtain ⟨⟨hf, hlo⟩, ⟨hc1, hc2⟩, hf1, hl1⟩ := K_room K (by omega)
  have hcs : 0 ≤ C.2.2.2.2.1.cells ∧ 0 ≤ C.2.2.2.2.1.slots := ⟨Nat.zero_le _, Nat.zero_le _⟩
  unfold m_X10_alone
  refine s_aload_n (j := 0) (pc2 := 1) X dX10_alone_0 rfl rfl ?_
  refine s_callVZ (d2 := d - 1) (As := []) (st := []) (pc2 := 4) X dX10_alone_1 rfl ml_RX10_358 im_X10_isTown se_X10_isTown kX10 rfl (c_X10_isTown (d - 1) (by omega) C.1 C.2.2.1 l0) hy_X10_isTown rfl rfl hf hlo (st_room (Nat.le_of_ble_eq_true rfl)) hcs (fun v1 hv1 => ?_)
  refine s_ifne (tgt := 9) X dX10_alone_4 (by decide) rfl hv1 ?_ ?_
  · refine s_iconst (n := 0) (pc2 := 10) X dX10_alone_9 rfl ?_
    refine s_istore_n (pc2 := 11) X dX10_alone_10 rfl (by decide) rfl rfl cat1_R (inI_c 0 rfl) (fun w2 hw2 => ?_)
    refine s_iconst (n := 0) (pc2 := 12) X dX10_alone_11 rfl ?_
    refine s_istore_n (pc2 := 13) X dX10_alone_12 rfl (by decide) rfl rfl cat1_I (inI_c 0 rfl) (fun w3 hw3 => ?_)
    refine s_sub (lv2 := [(0, vR C.1.1 l0), (1, vI w2), (2, vI w3)]) [2, 1, 0] rfl ?_
    exact z_X10_alone_L13 d hd K X 1000000000 l0 w2 w3 hw2 hw3
  · refine s_iconst (n := (-1)) (pc2 := 8) X dX10_alone_7 rfl ?_
    exact s_iret X dX10_alone_8 (inI_c (-1) rfl)
theorem c_X10_alone (d : Nat) (hd : 5 ≤ d) (G : hG) (l : Launch) (l0 : Nat) : hMet G l yX10_alone cX10_alone 5 (some .int) d 0 0 [vR G.1 l0] (m_X10_alone l0) := by
  refine hMet.of (lv := [(0, vR G.1 l0)]) (by decide +kernel) (by simp [lg_sl, vR_cat, vI_cat, vL_cat, vS_cat2, vT_cat2]) (by simp [lv_args, vR_cat, vI_cat, vL_cat, vS_cat2, vT_cat2]) (fun C K X => ?_)
  obtain ⟨rfl, rfl, K⟩ := K
  exact z_X10_alone d hd ⟨rfl, rfl, K⟩ X l0
def m_X10_handsBetween_L184 (k71 : Nat → Int → Int → Int → hM) (k84 : Nat → Int → Int → Int → Int → hM) (l0 : Nat) (l1 : Int) (l2 : Int) (l3 : Int) (l4 : Int) : hM :=
  hlet (w32 (l4 + 1)) fun (w1 : Int) =>
  k84 l0 l1 l2 l3 w1
def m_X10_handsBetween_L128 (k71 : Nat → Int → Int → Int → hM) (k84 : Nat → Int → Int → Int → Int → hM) (l0 : Nat) (l1 : Int) (l2 : Int) (l3 : Int) (l4 : Int) (s0 : Int) : hM :=
  hlet s0 fun (w1 : Int) =>
  hif (w1 = 0) (
m_X10_handsBetween_L184 k71 k84 l0 l1 l2 l3 l4) (
hcallV 10 l0 (m_X10_canMeet l0 l1 l3) fun v2 =>
  hif (v2 = 0) (
m_X10_handsBetween_L184 k71 k84 l0 l1 l2 l3 l4) (
hcallV 10 l0 (m_X10_canMeet l0 l3 l4) fun v3 =>
  hif (v3 = 0) (
m_X10_handsBetween_L184 k71 k84 l0 l1 l2 l3 l4) (
hcallV 10 l0 (m_X10_canMeet l0 l4 l2) fun v4 =>
  hif (v4 ≠ 0) (
hgR 10 l0 32 fun v5 =>
  hsI 20 v5 0 l3 <|
  hgR 10 l0 32 fun v6 =>
  hsI 20 v6 1 l4 <|
  hret 2) (
m_X10_handsBetween_L184 k71 k84 l0 l1 l2 l3 l4))))
def m_X10_handsBetween_L127 (k71 : Nat → Int → Int → Int → hM) (k84 : Nat → Int → Int → Int → Int → hM) (l0 : Nat) (l1 : Int) (l2 : Int) (l3 : Int) (l4 : Int) : hM :=
  m_X10_handsBetween_L128 k71 k84 l0 l1 l2 l3 l4 0
def m_X10_handsBetween_L84 (k71 : Nat → Int → Int → Int → hM) : Nat → Nat → Int → Int → Int → Int → hM
  | 0, _, _, _, _, _ => hfail
  | n + 1, l0, l1, l2, l3, l4 =>
    hgR 10 l0 20 fun v1 =>
  haI 20 v1 4 fun v2 =>
  hif (l4 ≥ v2) (
hlet (w32 (l3 + 1)) fun (w3 : Int) =>
  k71 l0 l1 l2 w3) (
hif (l3 = l1) (
m_X10_handsBetween_L127 k71 (m_X10_handsBetween_L84 k71 n) l0 l1 l2 l3 l4) (
hif (l3 = l2) (
m_X10_handsBetween_L127 k71 (m_X10_handsBetween_L84 k71 n) l0 l1 l2 l3 l4) (
hif (l4 = l1) (
m_X10_handsBetween_L127 k71 (m_X10_handsBetween_L84 k71 n) l0 l1 l2 l3 l4) (
hif (l4 = l2) (
m_X10_handsBetween_L127 k71 (m_X10_handsBetween_L84 k71 n) l0 l1 l2 l3 l4) (
hif (l3 = l4) (
m_X10_handsBetween_L127 k71 (m_X10_handsBetween_L84 k71 n) l0 l1 l2 l3 l4) (
m_X10_handsBetween_L128 k71 (m_X10_handsBetween_L84 k71 n) l0 l1 l2 l3 l4 1))))))
def m_X10_handsBetween_L71 : Nat → Nat → Int → Int → Int → hM
  | 0, _, _, _, _ => hfail
  | n + 1, l0, l1, l2, l3 =>
    hgR 10 l0 20 fun v1 =>
  haI 20 v1 4 fun v2 =>
  hif (l3 ≥ v2) (
hret ((-1))) (
hlet (0 : Int) fun (w3 : Int) =>
  m_X10_handsBetween_L84 (m_X10_handsBetween_L71 n) 1000000000 l0 l1 l2 l3 w3)
def m_X10_handsBetween_L63 (k13 : Nat → Int → Int → Int → hM) (l0 : Nat) (l1 : Int) (l2 : Int) (l3 : Int) : hM :=
  hlet (w32 (l3 + 1)) fun (w1 : Int) =>
  k13 l0 l1 l2 w1
def m_X10_handsBetween_L13 : Nat → Nat → Int → Int → Int → hM
  | 0, _, _, _, _ => hfail
  | n + 1, l0, l1, l2, l3 =>
    hgR 10 l0 20 fun v1 =>
  haI 20 v1 4 fun v2 =>
  hif (l3 ≥ v2) (
hlet (0 : Int) fun (w3 : Int) =>
  m_X10_handsBetween_L71 1000000000 l0 l1 l2 w3) (
hif (l3 = l1) (
m_X10_handsBetween_L63 (m_X10_handsBetween_L13 n) l0 l1 l2 l3) (
hif (l3 = l2) (
m_X10_handsBetween_L63 (m_X10_handsBetween_L13 n) l0 l1 l2 l3) (
hcallV 10 l0 (m_X10_canMeet l0 l1 l3) fun v4 =>
  hif (v4 = 0) (
m_X10_handsBetween_L63 (m_X10_handsBetween_L13 n) l0 l1 l2 l3) (
hcallV 10 l0 (m_X10_canMeet l0 l3 l2) fun v5 =>
  hif (v5 ≠ 0) (
hgR 10 l0 32 fun v6 =>
  hsI 20 v6 0 l3 <|
  hret 1) (
m_X10_handsBetween_L63 (m_X10_handsBetween_L13 n) l0 l1 l2 l3)))))
def m_X10_handsBetween (l0 : Nat) (l1 : Int) (l2 : Int) : hM :=
  hcallV 10 l0 (m_X10_canMeet l0 l1 l2) fun v1 =>
  hif (v1 = 0) (
hlet (0 : Int) fun (w2 : Int) =>
  m_X10_handsBetween_L13 1000000000 l0 l1 l2 w2) (
hret 0)
set_option maxRecDepth 4000 in
theorem z_X10_handsBetween_L184 (d : Nat) (hd : 6 ≤ d) {C : hCx} (K : hCtx C.1 C.2.2.1 d 0 0 "handsBetween" C) (X : hOK C cX10_handsBetween RX10 6 (some .int)) (k71 : Nat → Int → Int → Int → hM) (hk71 : ∀ (l0 : Nat) (l1 : Int) (l2 : Int) (l3 : Int), inI l1 → inI l2 → inI l3 → hSim C (some .int) 0 0 6 71 [(0, vR C.1.1 l0), (1, vI l1), (2, vI l2), (3, vI l3)] [] 0 0 (k71 l0 l1 l2 l3)) (k84 : Nat → Int → Int → Int → Int → hM) (hk84 : ∀ (l0 : Nat) (l1 : Int) (l2 : Int) (l3 : Int) (l4 : Int), inI l1 → inI l2 → inI l3 → inI l4 → hSim C (some .int) 0 0 6 84 [(0, vR C.1.1 l0), (1, vI l1), (2, vI l2), (3, vI l3), (4, vI l4)] [] 0 0 (k84 l0 l1 l2 l3 l4)) (l0 : Nat) (l1 : Int) (l2 : Int) (l3 : Int) (l4 : Int) (h1 : inI l1) (h2 : inI l2) (h3 : inI l3) (h4 : inI l4) : hSim C (some .int) 0 0 6 184 [(0, vR C.1.1 l0), (1, vI l1), (2, vI l2), (3, vI l3), (4, vI l4)] [] 0 0 (m_X10_handsBetween_L184 k71 k84 l0 l1 l2 l3 l4) := by
  obtain ⟨⟨hf, hlo⟩, ⟨hc1, hc2⟩, hf1, hl1⟩ := K_room K (by omega)
  have hcs : 0 ≤ C.2.2.2.2.1.cells ∧ 0 ≤ C.2.2.2.2.1.slots := ⟨Nat.zero_le _, Nat.zero_le _⟩
  unfold m_X10_handsBetween_L184
  refine s_iinc (j := 4) (pc2 := 187) X dX10_handsBetween_184 rfl (by decide) rfl rfl rfl cat1_I (fun w1 hw1 => ?_)
  refine s_goto (pc2 := 84) X dX10_handsBetween_187 (by decide) ?_
  refine s_sub (lv2 := [(0, vR C.1.1 l0), (1, vI l1), (2, vI l2), (3, vI l3), (4, vI w1)]) [1, 2, 3, 4, 0] rfl ?_
  exact hk84 l0 l1 l2 l3 w1 h1 h2 h3 hw1
set_option maxRecDepth 4000 in
theorem z_X10_handsBetween_L128 (d : Nat) (hd : 6 ≤ d) {C : hCx} (K : hCtx C.1 C.2.2.1 d 0 0 "handsBetween" C) (X : hOK C cX10_handsBetween RX10 6 (some .int)) (k71 : Nat → Int → Int → Int → hM) (hk71 : ∀ (l0 : Nat) (l1 : Int) (l2 : Int) (l3 : Int), inI l1 → inI l2 → inI l3 → hSim C (some .int) 0 0 6 71 [(0, vR C.1.1 l0), (1, vI l1), (2, vI l2), (3, vI l3)] [] 0 0 (k71 l0 l1 l2 l3)) (k84 : Nat → Int → Int → Int → Int → hM) (hk84 : ∀ (l0 : Nat) (l1 : Int) (l2 : Int) (l3 : Int) (l4 : Int), inI l1 → inI l2 → inI l3 → inI l4 → hSim C (some .int) 0 0 6 84 [(0, vR C.1.1 l0), (1, vI l1), (2, vI l2), (3, vI l3), (4, vI l4)] [] 0 0 (k84 l0 l1 l2 l3 l4)) (l0 : Nat) (l1 : Int) (l2 : Int) (l3 : Int) (l4 : Int) (s0 : Int) (h1 : inI l1) (h2 : inI l2) (h3 : inI l3) (h4 : inI l4) (g0 : inI s0) : hSim C (some .int) 0 0 6 128 [(0, vR C.1.1 l0), (1, vI l1), (2, vI l2), (3, vI l3), (4, vI l4)] [vI s0] 0 0 (m_X10_handsBetween_L128 k71 k84 l0 l1 l2 l3 l4 s0) := by
  obtain ⟨⟨hf, hlo⟩, ⟨hc1, hc2⟩, hf1, hl1⟩ := K_room K (by omega)
  have hcs : 0 ≤ C.2.2.2.2.1.cells ∧ 0 ≤ C.2.2.2.2.1.slots := ⟨Nat.zero_le _, Nat.zero_le _⟩
  unfold m_X10_handsBetween_L128
  refine s_istore (pc2 := 130) X dX10_handsBetween_128 rfl (by decide) rfl rfl cat1_I g0 (fun w1 hw1 => ?_)
  refine s_iload (j := 0) (pc2 := 132) X dX10_handsBetween_130 rfl rfl ?_
  refine s_ifeq (tgt := 184) X dX10_handsBetween_132 (by decide) rfl hw1 ?_ ?_
  · refine s_sub (lv2 := [(0, vR C.1.1 l0), (1, vI l1), (2, vI l2), (3, vI l3), (4, vI l4)]) [1, 2, 3, 4, 5] rfl ?_
    exact z_X10_handsBetween_L184 d hd K X k71 hk71 k84 hk84 l0 l1 l2 l3 l4 h1 h2 h3 h4
  · refine s_aload_n (j := 1) (pc2 := 136) X dX10_handsBetween_135 rfl rfl ?_
    refine s_iload_n (j := 2) (pc2 := 137) X dX10_handsBetween_136 rfl rfl ?_
    refine s_iload_n (j := 4) (pc2 := 138) X dX10_handsBetween_137 rfl rfl ?_
    refine s_callVZ (d2 := d - 1) (As := [vI l1, vI l3]) (st := []) (pc2 := 141) X dX10_handsBetween_138 rfl ml_RX10_429 im_X10_canMeet se_X10_canMeet kX10 rfl (c_X10_canMeet (d - 1) (by omega) C.1 C.2.2.1 l0 l1 l3 h1 h3) hy_X10_canMeet rfl rfl hf hlo (st_room (Nat.le_of_ble_eq_true rfl)) hcs (fun v2 hv2 => ?_)
    refine s_ifeq (tgt := 184) X dX10_handsBetween_141 (by decide) rfl hv2 ?_ ?_
    · refine s_sub (lv2 := [(0, vR C.1.1 l0), (1, vI l1), (2, vI l2), (3, vI l3), (4, vI l4)]) [1, 2, 3, 4, 5] rfl ?_
      exact z_X10_handsBetween_L184 d hd K X k71 hk71 k84 hk84 l0 l1 l2 l3 l4 h1 h2 h3 h4
    · refine s_aload_n (j := 1) (pc2 := 145) X dX10_handsBetween_144 rfl rfl ?_
      refine s_iload_n (j := 4) (pc2 := 146) X dX10_handsBetween_145 rfl rfl ?_
      refine s_iload (j := 5) (pc2 := 148) X dX10_handsBetween_146 rfl rfl ?_
      refine s_callVZ (d2 := d - 1) (As := [vI l3, vI l4]) (st := []) (pc2 := 151) X dX10_handsBetween_148 rfl ml_RX10_429 im_X10_canMeet se_X10_canMeet kX10 rfl (c_X10_canMeet (d - 1) (by omega) C.1 C.2.2.1 l0 l3 l4 h3 h4) hy_X10_canMeet rfl rfl hf hlo (st_room (Nat.le_of_ble_eq_true rfl)) hcs (fun v3 hv3 => ?_)
      refine s_ifeq (tgt := 184) X dX10_handsBetween_151 (by decide) rfl hv3 ?_ ?_
      · refine s_sub (lv2 := [(0, vR C.1.1 l0), (1, vI l1), (2, vI l2), (3, vI l3), (4, vI l4)]) [1, 2, 3, 4, 5] rfl ?_
        exact z_X10_handsBetween_L184 d hd K X k71 hk71 k84 hk84 l0 l1 l2 l3 l4 h1 h2 h3 h4
      · refine s_aload_n (j := 1) (pc2 := 155) X dX10_handsBetween_154 rfl rfl ?_
        refine s_iload (j := 5) (pc2 := 157) X dX10_handsBetween_155 rfl rfl ?_
        refine s_iload_n (j := 3) (pc2 := 158) X dX10_handsBetween_157 rfl rfl ?_
        refine s_callVZ (d2 := d - 1) (As := [vI l4, vI l2]) (st := []) (pc2 := 161) X dX10_handsBetween_158 rfl ml_RX10_429 im_X10_canMeet se_X10_canMeet kX10 rfl (c_X10_canMeet (d - 1) (by omega) C.1 C.2.2.1 l0 l4 l2 h4 h2) hy_X10_canMeet rfl rfl hf hlo (st_room (Nat.le_of_ble_eq_true rfl)) hcs (fun v4 hv4 => ?_)
        refine s_ifne (tgt := 167) X dX10_handsBetween_161 (by decide) rfl hv4 ?_ ?_
        · refine s_aload_n (j := 1) (pc2 := 168) X dX10_handsBetween_167 rfl rfl ?_
          refine s_getR (pc2 := 171) X dX10_handsBetween_168 rfl fl_RX10_60 rfl (fun v5 => ?_)
          refine s_iconst (n := 0) (pc2 := 172) X dX10_handsBetween_171 rfl ?_
          refine s_iload_n (j := 4) (pc2 := 173) X dX10_handsBetween_172 rfl rfl ?_
          refine s_iast (pc2 := 174) X dX10_handsBetween_173 rfl h3 ?_
          refine s_aload_n (j := 1) (pc2 := 175) X dX10_handsBetween_174 rfl rfl ?_
          refine s_getR (pc2 := 178) X dX10_handsBetween_175 rfl fl_RX10_60 rfl (fun v6 => ?_)
          refine s_iconst (n := 1) (pc2 := 179) X dX10_handsBetween_178 rfl ?_
          refine s_iload (j := 5) (pc2 := 181) X dX10_handsBetween_179 rfl rfl ?_
          refine s_iast (pc2 := 182) X dX10_handsBetween_181 rfl h4 ?_
          refine s_iconst (n := 2) (pc2 := 183) X dX10_handsBetween_182 rfl ?_
          exact s_iret X dX10_handsBetween_183 (inI_c 2 rfl)
        · refine s_goto (pc2 := 184) X dX10_handsBetween_164 (by decide) ?_
          refine s_sub (lv2 := [(0, vR C.1.1 l0), (1, vI l1), (2, vI l2), (3, vI l3), (4, vI l4)]) [1, 2, 3, 4, 5] rfl ?_
          exact z_X10_handsBetween_L184 d hd K X k71 hk71 k84 hk84 l0 l1 l2 l3 l4 h1 h2 h3 h4
set_option maxRecDepth 4000 in
theorem z_X10_handsBetween_L127 (d : Nat) (hd : 6 ≤ d) {C : hCx} (K : hCtx C.1 C.2.2.1 d 0 0 "handsBetween" C) (X : hOK C cX10_handsBetween RX10 6 (some .int)) (k71 : Nat → Int → Int → Int → hM) (hk71 : ∀ (l0 : Nat) (l1 : Int) (l2 : Int) (l3 : Int), inI l1 → inI l2 → inI l3 → hSim C (some .int) 0 0 6 71 [(0, vR C.1.1 l0), (1, vI l1), (2, vI l2), (3, vI l3)] [] 0 0 (k71 l0 l1 l2 l3)) (k84 : Nat → Int → Int → Int → Int → hM) (hk84 : ∀ (l0 : Nat) (l1 : Int) (l2 : Int) (l3 : Int) (l4 : Int), inI l1 → inI l2 → inI l3 → inI l4 → hSim C (some .int) 0 0 6 84 [(0, vR C.1.1 l0), (1, vI l1), (2, vI l2), (3, vI l3), (4, vI l4)] [] 0 0 (k84 l0 l1 l2 l3 l4)) (l0 : Nat) (l1 : Int) (l2 : Int) (l3 : Int) (l4 : Int) (h1 : inI l1) (h2 : inI l2) (h3 : inI l3) (h4 : inI l4) : hSim C (some .int) 0 0 6 127 [(0, vR C.1.1 l0), (1, vI l1), (2, vI l2), (3, vI l3), (4, vI l4)] [] 0 0 (m_X10_handsBetween_L127 k71 k84 l0 l1 l2 l3 l4) := by
  obtain ⟨⟨hf, hlo⟩, ⟨hc1, hc2⟩, hf1, hl1⟩ := K_room K (by omega)
  have hcs : 0 ≤ C.2.2.2.2.1.cells ∧ 0 ≤ C.2.2.2.2.1.slots := ⟨Nat.zero_le _, Nat.zero_le _⟩
  unfold m_X10_handsBetween_L127
  refine s_iconst (n := 0) (pc2 := 128) X dX10_handsBetween_127 rfl ?_
  exact z_X10_handsBetween_L128 d hd K X k71 hk71 k84 hk84 l0 l1 l2 l3 l4 0 h1 h2 h3 h4 (inI_c 0 rfl)
set_option maxRecDepth 4000 in
theorem z_X10_handsBetween_L84 (d : Nat) (hd : 6 ≤ d) {C : hCx} (K : hCtx C.1 C.2.2.1 d 0 0 "handsBetween" C) (X : hOK C cX10_handsBetween RX10 6 (some .int)) (k71 : Nat → Int → Int → Int → hM) (hk71 : ∀ (l0 : Nat) (l1 : Int) (l2 : Int) (l3 : Int), inI l1 → inI l2 → inI l3 → hSim C (some .int) 0 0 6 71 [(0, vR C.1.1 l0), (1, vI l1), (2, vI l2), (3, vI l3)] [] 0 0 (k71 l0 l1 l2 l3)) : ∀ (n : Nat) (l0 : Nat) (l1 : Int) (l2 : Int) (l3 : Int) (l4 : Int) (h1 : inI l1) (h2 : inI l2) (h3 : inI l3) (h4 : inI l4), hSim C (some .int) 0 0 6 84 [(0, vR C.1.1 l0), (1, vI l1), (2, vI l2), (3, vI l3), (4, vI l4)] [] 0 0 (m_X10_handsBetween_L84 k71 n l0 l1 l2 l3 l4) := by
  obtain ⟨⟨hf, hlo⟩, ⟨hc1, hc2⟩, hf1, hl1⟩ := K_room K (by omega)
  have hcs : 0 ≤ C.2.2.2.2.1.cells ∧ 0 ≤ C.2.2.2.2.1.slots := ⟨Nat.zero_le _, Nat.zero_le _⟩
  intro n
  induction n with
  | zero => intros; exact s_none (fun _ => rfl)
  | succ n ih =>
    intro l0 l1 l2 l3 l4 h1 h2 h3 h4
    unfold m_X10_handsBetween_L84
    refine s_iload (j := 4) (pc2 := 86) X dX10_handsBetween_84 rfl rfl ?_
    refine s_aload_n (j := 0) (pc2 := 87) X dX10_handsBetween_86 rfl rfl ?_
    refine s_getR (pc2 := 90) X dX10_handsBetween_87 rfl fl_RX10_39 rfl (fun v1 => ?_)
    refine s_iconst (n := 4) (pc2 := 91) X dX10_handsBetween_90 rfl ?_
    refine s_iald (pc2 := 92) X dX10_handsBetween_91 rfl (fun v2 hv2 => ?_)
    refine s_icge (tgt := 190) X dX10_handsBetween_92 (by decide) rfl h4 hv2 ?_ ?_
    · refine s_iinc (j := 3) (pc2 := 193) X dX10_handsBetween_190 rfl (by decide) rfl rfl rfl cat1_I (fun w3 hw3 => ?_)
      refine s_goto (pc2 := 71) X dX10_handsBetween_193 (by decide) ?_
      refine s_sub (lv2 := [(0, vR C.1.1 l0), (1, vI l1), (2, vI l2), (3, vI w3)]) [1, 2, 3, 0] rfl ?_
      exact hk71 l0 l1 l2 w3 h1 h2 hw3
    · refine s_iload_n (j := 3) (pc2 := 96) X dX10_handsBetween_95 rfl rfl ?_
      refine s_iload_n (j := 1) (pc2 := 97) X dX10_handsBetween_96 rfl rfl ?_
      refine s_iceq (tgt := 127) X dX10_handsBetween_97 (by decide) rfl h3 h1 ?_ ?_
      · exact z_X10_handsBetween_L127 d hd K X k71 hk71 (m_X10_handsBetween_L84 k71 n) ih l0 l1 l2 l3 l4 h1 h2 h3 h4
      · refine s_iload_n (j := 3) (pc2 := 101) X dX10_handsBetween_100 rfl rfl ?_
        refine s_iload_n (j := 2) (pc2 := 102) X dX10_handsBetween_101 rfl rfl ?_
        refine s_iceq (tgt := 127) X dX10_handsBetween_102 (by decide) rfl h3 h2 ?_ ?_
        · exact z_X10_handsBetween_L127 d hd K X k71 hk71 (m_X10_handsBetween_L84 k71 n) ih l0 l1 l2 l3 l4 h1 h2 h3 h4
        · refine s_iload (j := 4) (pc2 := 107) X dX10_handsBetween_105 rfl rfl ?_
          refine s_iload_n (j := 1) (pc2 := 108) X dX10_handsBetween_107 rfl rfl ?_
          refine s_iceq (tgt := 127) X dX10_handsBetween_108 (by decide) rfl h4 h1 ?_ ?_
          · exact z_X10_handsBetween_L127 d hd K X k71 hk71 (m_X10_handsBetween_L84 k71 n) ih l0 l1 l2 l3 l4 h1 h2 h3 h4
          · refine s_iload (j := 4) (pc2 := 113) X dX10_handsBetween_111 rfl rfl ?_
            refine s_iload_n (j := 2) (pc2 := 114) X dX10_handsBetween_113 rfl rfl ?_
            refine s_iceq (tgt := 127) X dX10_handsBetween_114 (by decide) rfl h4 h2 ?_ ?_
            · exact z_X10_handsBetween_L127 d hd K X k71 hk71 (m_X10_handsBetween_L84 k71 n) ih l0 l1 l2 l3 l4 h1 h2 h3 h4
            · refine s_iload_n (j := 3) (pc2 := 118) X dX10_handsBetween_117 rfl rfl ?_
              refine s_iload (j := 4) (pc2 := 120) X dX10_handsBetween_118 rfl rfl ?_
              refine s_iceq (tgt := 127) X dX10_handsBetween_120 (by decide) rfl h3 h4 ?_ ?_
              · exact z_X10_handsBetween_L127 d hd K X k71 hk71 (m_X10_handsBetween_L84 k71 n) ih l0 l1 l2 l3 l4 h1 h2 h3 h4
              · refine s_iconst (n := 1) (pc2 := 124) X dX10_handsBetween_123 rfl ?_
                refine s_goto (pc2 := 128) X dX10_handsBetween_124 (by decide) ?_
                exact z_X10_handsBetween_L128 d hd K X k71 hk71 (m_X10_handsBetween_L84 k71 n) ih l0 l1 l2 l3 l4 1 h1 h2 h3 h4 (inI_c 1 rfl)
set_option maxRecDepth 4000 in
theorem z_X10_handsBetween_L71 (d : Nat) (hd : 6 ≤ d) {C : hCx} (K : hCtx C.1 C.2.2.1 d 0 0 "handsBetween" C) (X : hOK C cX10_handsBetween RX10 6 (some .int)) : ∀ (n : Nat) (l0 : Nat) (l1 : Int) (l2 : Int) (l3 : Int) (h1 : inI l1) (h2 : inI l2) (h3 : inI l3), hSim C (some .int) 0 0 6 71 [(0, vR C.1.1 l0), (1, vI l1), (2, vI l2), (3, vI l3)] [] 0 0 (m_X10_handsBetween_L71 n l0 l1 l2 l3) := by
  obtain ⟨⟨hf, hlo⟩, ⟨hc1, hc2⟩, hf1, hl1⟩ := K_room K (by omega)
  have hcs : 0 ≤ C.2.2.2.2.1.cells ∧ 0 ≤ C.2.2.2.2.1.slots := ⟨Nat.zero_le _, Nat.zero_le _⟩
  intro n
  induction n with
  | zero => intros; exact s_none (fun _ => rfl)
  | succ n ih =>
    intro l0 l1 l2 l3 h1 h2 h3
    unfold m_X10_handsBetween_L71
    refine s_iload_n (j := 3) (pc2 := 72) X dX10_handsBetween_71 rfl rfl ?_
    refine s_aload_n (j := 0) (pc2 := 73) X dX10_handsBetween_72 rfl rfl ?_
    refine s_getR (pc2 := 76) X dX10_handsBetween_73 rfl fl_RX10_39 rfl (fun v1 => ?_)
    refine s_iconst (n := 4) (pc2 := 77) X dX10_handsBetween_76 rfl ?_
    refine s_iald (pc2 := 78) X dX10_handsBetween_77 rfl (fun v2 hv2 => ?_)
    refine s_icge (tgt := 196) X dX10_handsBetween_78 (by decide) rfl h3 hv2 ?_ ?_
    · refine s_iconst (n := (-1)) (pc2 := 197) X dX10_handsBetween_196 rfl ?_
      exact s_iret X dX10_handsBetween_197 (inI_c (-1) rfl)
    · refine s_iconst (n := 0) (pc2 := 82) X dX10_handsBetween_81 rfl ?_
      refine s_istore (pc2 := 84) X dX10_handsBetween_82 rfl (by decide) rfl rfl cat1_I (inI_c 0 rfl) (fun w3 hw3 => ?_)
      refine s_sub (lv2 := [(0, vR C.1.1 l0), (1, vI l1), (2, vI l2), (3, vI l3), (4, vI w3)]) [1, 2, 3, 4, 0] rfl ?_
      exact z_X10_handsBetween_L84 d hd K X (m_X10_handsBetween_L71 n) ih 1000000000 l0 l1 l2 l3 w3 h1 h2 h3 hw3
set_option maxRecDepth 4000 in
theorem z_X10_handsBetween_L63 (d : Nat) (hd : 6 ≤ d) {C : hCx} (K : hCtx C.1 C.2.2.1 d 0 0 "handsBetween" C) (X : hOK C cX10_handsBetween RX10 6 (some .int)) (k13 : Nat → Int → Int → Int → hM) (hk13 : ∀ (l0 : Nat) (l1 : Int) (l2 : Int) (l3 : Int), inI l1 → inI l2 → inI l3 → hSim C (some .int) 0 0 6 13 [(0, vR C.1.1 l0), (1, vI l1), (2, vI l2), (3, vI l3)] [] 0 0 (k13 l0 l1 l2 l3)) (l0 : Nat) (l1 : Int) (l2 : Int) (l3 : Int) (h1 : inI l1) (h2 : inI l2) (h3 : inI l3) : hSim C (some .int) 0 0 6 63 [(0, vR C.1.1 l0), (1, vI l1), (2, vI l2), (3, vI l3)] [] 0 0 (m_X10_handsBetween_L63 k13 l0 l1 l2 l3) := by
  obtain ⟨⟨hf, hlo⟩, ⟨hc1, hc2⟩, hf1, hl1⟩ := K_room K (by omega)
  have hcs : 0 ≤ C.2.2.2.2.1.cells ∧ 0 ≤ C.2.2.2.2.1.slots := ⟨Nat.zero_le _, Nat.zero_le _⟩
  unfold m_X10_handsBetween_L63
  refine s_iinc (j := 3) (pc2 := 66) X dX10_handsBetween_63 rfl (by decide) rfl rfl rfl cat1_I (fun w1 hw1 => ?_)
  refine s_goto (pc2 := 13) X dX10_handsBetween_66 (by decide) ?_
  refine s_sub (lv2 := [(0, vR C.1.1 l0), (1, vI l1), (2, vI l2), (3, vI w1)]) [1, 2, 3, 0] rfl ?_
  exact hk13 l0 l1 l2 w1 h1 h2 hw1
set_option maxRecDepth 4000 in
theorem z_X10_handsBetween_L13 (d : Nat) (hd : 6 ≤ d) {C : hCx} (K : hCtx C.1 C.2.2.1 d 0 0 "handsBetween" C) (X : hOK C cX10_handsBetween RX10 6 (some .int)) : ∀ (n : Nat) (l0 : Nat) (l1 : Int) (l2 : Int) (l3 : Int) (h1 : inI l1) (h2 : inI l2) (h3 : inI l3), hSim C (some .int) 0 0 6 13 [(0, vR C.1.1 l0), (1, vI l1), (2, vI l2), (3, vI l3)] [] 0 0 (m_X10_handsBetween_L13 n l0 l1 l2 l3) := by
  obtain ⟨⟨hf, hlo⟩, ⟨hc1, hc2⟩, hf1, hl1⟩ := K_room K (by omega)
  have hcs : 0 ≤ C.2.2.2.2.1.cells ∧ 0 ≤ C.2.2.2.2.1.slots := ⟨Nat.zero_le _, Nat.zero_le _⟩
  intro n
  induction n with
  | zero => intros; exact s_none (fun _ => rfl)
  | succ n ih =>
    intro l0 l1 l2 l3 h1 h2 h3
    unfold m_X10_handsBetween_L13
    refine s_iload_n (j := 3) (pc2 := 14) X dX10_handsBetween_13 rfl rfl ?_
    refine s_aload_n (j := 0) (pc2 := 15) X dX10_handsBetween_14 rfl rfl ?_
    refine s_getR (pc2 := 18) X dX10_handsBetween_15 rfl fl_RX10_39 rfl (fun v1 => ?_)
    refine s_iconst (n := 4) (pc2 := 19) X dX10_handsBetween_18 rfl ?_
    refine s_iald (pc2 := 20) X dX10_handsBetween_19 rfl (fun v2 hv2 => ?_)
    refine s_icge (tgt := 69) X dX10_handsBetween_20 (by decide) rfl h3 hv2 ?_ ?_
    · refine s_iconst (n := 0) (pc2 := 70) X dX10_handsBetween_69 rfl ?_
      refine s_istore_n (pc2 := 71) X dX10_handsBetween_70 rfl (by decide) rfl rfl cat1_I (inI_c 0 rfl) (fun w3 hw3 => ?_)
      refine s_sub (lv2 := [(0, vR C.1.1 l0), (1, vI l1), (2, vI l2), (3, vI w3)]) [1, 2, 3, 0] rfl ?_
      exact z_X10_handsBetween_L71 d hd K X 1000000000 l0 l1 l2 w3 h1 h2 hw3
    · refine s_iload_n (j := 3) (pc2 := 24) X dX10_handsBetween_23 rfl rfl ?_
      refine s_iload_n (j := 1) (pc2 := 25) X dX10_handsBetween_24 rfl rfl ?_
      refine s_iceq (tgt := 63) X dX10_handsBetween_25 (by decide) rfl h3 h1 ?_ ?_
      · exact z_X10_handsBetween_L63 d hd K X (m_X10_handsBetween_L13 n) ih l0 l1 l2 l3 h1 h2 h3
      · refine s_iload_n (j := 3) (pc2 := 29) X dX10_handsBetween_28 rfl rfl ?_
        refine s_iload_n (j := 2) (pc2 := 30) X dX10_handsBetween_29 rfl rfl ?_
        refine s_iceq (tgt := 63) X dX10_handsBetween_30 (by decide) rfl h3 h2 ?_ ?_
        · exact z_X10_handsBetween_L63 d hd K X (m_X10_handsBetween_L13 n) ih l0 l1 l2 l3 h1 h2 h3
        · refine s_aload_n (j := 0) (pc2 := 34) X dX10_handsBetween_33 rfl rfl ?_
          refine s_iload_n (j := 1) (pc2 := 35) X dX10_handsBetween_34 rfl rfl ?_
          refine s_iload_n (j := 3) (pc2 := 36) X dX10_handsBetween_35 rfl rfl ?_
          refine s_callVZ (d2 := d - 1) (As := [vI l1, vI l3]) (st := []) (pc2 := 39) X dX10_handsBetween_36 rfl ml_RX10_429 im_X10_canMeet se_X10_canMeet kX10 rfl (c_X10_canMeet (d - 1) (by omega) C.1 C.2.2.1 l0 l1 l3 h1 h3) hy_X10_canMeet rfl rfl hf hlo (st_room (Nat.le_of_ble_eq_true rfl)) hcs (fun v4 hv4 => ?_)
          refine s_ifeq (tgt := 63) X dX10_handsBetween_39 (by decide) rfl hv4 ?_ ?_
          · exact z_X10_handsBetween_L63 d hd K X (m_X10_handsBetween_L13 n) ih l0 l1 l2 l3 h1 h2 h3
          · refine s_aload_n (j := 0) (pc2 := 43) X dX10_handsBetween_42 rfl rfl ?_
            refine s_iload_n (j := 3) (pc2 := 44) X dX10_handsBetween_43 rfl rfl ?_
            refine s_iload_n (j := 2) (pc2 := 45) X dX10_handsBetween_44 rfl rfl ?_
            refine s_callVZ (d2 := d - 1) (As := [vI l3, vI l2]) (st := []) (pc2 := 48) X dX10_handsBetween_45 rfl ml_RX10_429 im_X10_canMeet se_X10_canMeet kX10 rfl (c_X10_canMeet (d - 1) (by omega) C.1 C.2.2.1 l0 l3 l2 h3 h2) hy_X10_canMeet rfl rfl hf hlo (st_room (Nat.le_of_ble_eq_true rfl)) hcs (fun v5 hv5 => ?_)
            refine s_ifne (tgt := 54) X dX10_handsBetween_48 (by decide) rfl hv5 ?_ ?_
            · refine s_aload_n (j := 0) (pc2 := 55) X dX10_handsBetween_54 rfl rfl ?_
              refine s_getR (pc2 := 58) X dX10_handsBetween_55 rfl fl_RX10_60 rfl (fun v6 => ?_)
              refine s_iconst (n := 0) (pc2 := 59) X dX10_handsBetween_58 rfl ?_
              refine s_iload_n (j := 3) (pc2 := 60) X dX10_handsBetween_59 rfl rfl ?_
              refine s_iast (pc2 := 61) X dX10_handsBetween_60 rfl h3 ?_
              refine s_iconst (n := 1) (pc2 := 62) X dX10_handsBetween_61 rfl ?_
              exact s_iret X dX10_handsBetween_62 (inI_c 1 rfl)
            · refine s_goto (pc2 := 63) X dX10_handsBetween_51 (by decide) ?_
              exact z_X10_handsBetween_L63 d hd K X (m_X10_handsBetween_L13 n) ih l0 l1 l2 l3 h1 h2 h3
set_option maxRecDepth 4000 in
set_option maxHeartbeats 20000000 in
theorem z_X10_handsBetween (d : Nat) (hd : 6 ≤ d) {C : hCx} (K : hCtx C.1 C.2.2.1 d 0 0 "handsBetween" C) (X : hOK C cX10_handsBetween RX10 6 (some .int)) (l0 : Nat) (l1 : Int) (l2 : Int) (h1 : inI l1) (h2 : inI l2) : hSim C (some .int) 0 0 6 0 [(0, vR C.1.1 l0), (1, vI l1), (2, vI l2)] [] 0 0 (m_X10_handsBetween l0 l1 l2) := by
  obtain ⟨⟨hf, hlo⟩, ⟨hc1, hc2⟩, hf1, hl1⟩ := K_room K (by omega)
  have hcs : 0 ≤ C.2.2.2.2.1.cells ∧ 0 ≤ C.2.2.2.2.1.slots := ⟨Nat.zero_le _, Nat.zero_le _⟩
  unfold m_X10_handsBetween
  refine s_aload_n (j := 0) (pc2 := 1) X dX10_handsBetween_0 rfl rfl ?_
  refine s_iload_n (j := 1) (pc2 := 2) X dX10_handsBetween_1 rfl rfl ?_
  refine s_iload_n (j := 2) (pc2 := 3) X dX10_handsBetween_2 rfl rfl ?_
  refine s_callVZ (d2 := d - 1) (As := [vI l1, vI l2]) (st := []) (pc2 := 6) X dX10_handsBetween_3 rfl ml_RX10_429 im_X10_canMeet se_X10_canMeet kX10 rfl (c_X10_canMeet (d - 1) (by omega) C.1 C.2.2.1 l0 l1 l2 h1 h2) hy_X10_canMeet rfl rfl hf hlo (st_room (Nat.le_of_ble_eq_true rfl)) hcs (fun v1 hv1 => ?_)
  refine s_ifeq (tgt := 11) X dX10_handsBetween_6 (by decide) rfl hv1 ?_ ?_
  · refine s_iconst (n := 0) (pc2 := 12) X dX10_handsBetween_11 rfl ?_
    refine s_istore_n (pc2 := 13) X dX10_handsBetween_12 rfl (by decide) rfl rfl cat1_I (inI_c 0 rfl) (fun w2 hw2 => ?_)
    refine s_sub (lv2 := [(0, vR C.1.1 l0), (1, vI l1), (2, vI l2), (3, vI w2)]) [1, 2, 3, 0] rfl ?_
    exact z_X10_handsBetween_L13 d hd K X 1000000000 l0 l1 l2 w2 h1 h2 hw2
  · refine s_iconst (n := 0) (pc2 := 10) X dX10_handsBetween_9 rfl ?_
    exact s_iret X dX10_handsBetween_10 (inI_c 0 rfl)
theorem c_X10_handsBetween (d : Nat) (hd : 6 ≤ d) (G : hG) (l : Launch) (l0 : Nat) (l1 : Int) (l2 : Int) (h1 : inI l1) (h2 : inI l2) : hMet G l yX10_handsBetween cX10_handsBetween 6 (some .int) d 0 0 [vR G.1 l0, vI l1, vI l2] (m_X10_handsBetween l0 l1 l2) := by
  refine hMet.of (lv := [(0, vR G.1 l0), (1, vI l1), (2, vI l2)]) (by decide +kernel) (by simp [lg_sl, vR_cat, vI_cat, vL_cat, vS_cat2, vT_cat2]) (by simp [lv_args, vR_cat, vI_cat, vL_cat, vS_cat2, vT_cat2]) (fun C K X => ?_)
  obtain ⟨rfl, rfl, K⟩ := K
  exact z_X10_handsBetween d hd ⟨rfl, rfl, K⟩ X l0 l1 l2 h1 h2
def m_X10_letter_L33 : hM :=
  hret ((-1))
def m_X10_letter_L54 : hM :=
  hret ((-2))
def m_X10_letter_L74 (s0 : Int) : hM :=
  hret s0
def m_X10_letter (l0 : Nat) (l1 : Int) (l2 : Int) (l3 : Int) : hM :=
  hcallV 10 l0 (m_X10_isPerson l0 l1) fun v1 =>
  hif (v1 = 0) (
m_X10_letter_L33) (
hcallV 10 l0 (m_X10_isPerson l0 l2) fun v2 =>
  hif (v2 = 0) (
m_X10_letter_L33) (
hif (l1 = l2) (
m_X10_letter_L33) (
hcall (m_X10_in l3 0 2) fun v3 =>
  hif (v3 ≠ 0) (
hcallV 10 l0 (m_X10_handsBetween l0 l1 l2) fun v4 =>
  hlet v4 fun (w5 : Int) =>
  hif (w5 < 0) (
m_X10_letter_L54) (
hif (l3 ≤ w5) (
hif (l3 ≠ 0) (
hgR 10 l0 32 fun v6 =>
  haI 20 v6 ((w32 (l3 - 1))) fun v7 =>
  m_X10_letter_L74 v7) (
m_X10_letter_L74 w5)) (
m_X10_letter_L54))) (
m_X10_letter_L33))))
set_option maxRecDepth 4000 in
theorem z_X10_letter_L33 (d : Nat) (hd : 7 ≤ d) {C : hCx} (K : hCtx C.1 C.2.2.1 d 0 0 "letter" C) (X : hOK C cX10_letter RX10 5 (some .int)) : hSim C (some .int) 0 0 5 33 [] [] 0 0 (m_X10_letter_L33) := by
  obtain ⟨⟨hf, hlo⟩, ⟨hc1, hc2⟩, hf1, hl1⟩ := K_room K (by omega)
  have hcs : 0 ≤ C.2.2.2.2.1.cells ∧ 0 ≤ C.2.2.2.2.1.slots := ⟨Nat.zero_le _, Nat.zero_le _⟩
  unfold m_X10_letter_L33
  refine s_iconst (n := (-1)) (pc2 := 34) X dX10_letter_33 rfl ?_
  exact s_iret X dX10_letter_34 (inI_c (-1) rfl)
set_option maxRecDepth 4000 in
theorem z_X10_letter_L54 (d : Nat) (hd : 7 ≤ d) {C : hCx} (K : hCtx C.1 C.2.2.1 d 0 0 "letter" C) (X : hOK C cX10_letter RX10 5 (some .int)) : hSim C (some .int) 0 0 5 54 [] [] 0 0 (m_X10_letter_L54) := by
  obtain ⟨⟨hf, hlo⟩, ⟨hc1, hc2⟩, hf1, hl1⟩ := K_room K (by omega)
  have hcs : 0 ≤ C.2.2.2.2.1.cells ∧ 0 ≤ C.2.2.2.2.1.slots := ⟨Nat.zero_le _, Nat.zero_le _⟩
  unfold m_X10_letter_L54
  refine s_bipush (n := (-2)) (pc2 := 56) X dX10_letter_54 rfl rfl ?_
  exact s_iret X dX10_letter_56 (inI_c (-2) rfl)
set_option maxRecDepth 4000 in
theorem z_X10_letter_L74 (d : Nat) (hd : 7 ≤ d) {C : hCx} (K : hCtx C.1 C.2.2.1 d 0 0 "letter" C) (X : hOK C cX10_letter RX10 5 (some .int)) (s0 : Int) (g0 : inI s0) : hSim C (some .int) 0 0 5 74 [] [vI s0] 0 0 (m_X10_letter_L74 s0) := by
  obtain ⟨⟨hf, hlo⟩, ⟨hc1, hc2⟩, hf1, hl1⟩ := K_room K (by omega)
  have hcs : 0 ≤ C.2.2.2.2.1.cells ∧ 0 ≤ C.2.2.2.2.1.slots := ⟨Nat.zero_le _, Nat.zero_le _⟩
  unfold m_X10_letter_L74
  exact s_iret X dX10_letter_74 g0
set_option maxRecDepth 4000 in
set_option maxHeartbeats 20000000 in
theorem z_X10_letter (d : Nat) (hd : 7 ≤ d) {C : hCx} (K : hCtx C.1 C.2.2.1 d 0 0 "letter" C) (X : hOK C cX10_letter RX10 5 (some .int)) (l0 : Nat) (l1 : Int) (l2 : Int) (l3 : Int) (h1 : inI l1) (h2 : inI l2) (h3 : inI l3) : hSim C (some .int) 0 0 5 0 [(0, vR C.1.1 l0), (1, vI l1), (2, vI l2), (3, vI l3)] [] 0 0 (m_X10_letter l0 l1 l2 l3) := by
  obtain ⟨⟨hf, hlo⟩, ⟨hc1, hc2⟩, hf1, hl1⟩ := K_room K (by omega)
  have hcs : 0 ≤ C.2.2.2.2.1.cells ∧ 0 ≤ C.2.2.2.2.1.slots := ⟨Nat.zero_le _, Nat.zero_le _⟩
  unfold m_X10_letter
  refine s_aload_n (j := 0) (pc2 := 1) X dX10_letter_0 rfl rfl ?_
  refine s_iload_n (j := 1) (pc2 := 2) X dX10_letter_1 rfl rfl ?_
  refine s_callVZ (d2 := d - 1) (As := [vI l1]) (st := []) (pc2 := 5) X dX10_letter_2 rfl ml_RX10_316 im_X10_isPerson se_X10_isPerson kX10 rfl (c_X10_isPerson (d - 1) (by omega) C.1 C.2.2.1 l0 l1 h1) hy_X10_isPerson rfl rfl hf hlo (st_room (Nat.le_of_ble_eq_true rfl)) hcs (fun v1 hv1 => ?_)
  refine s_ifeq (tgt := 33) X dX10_letter_5 (by decide) rfl hv1 ?_ ?_
  · refine s_sub (lv2 := []) [] rfl ?_
    exact z_X10_letter_L33 d hd K X
  · refine s_aload_n (j := 0) (pc2 := 9) X dX10_letter_8 rfl rfl ?_
    refine s_iload_n (j := 2) (pc2 := 10) X dX10_letter_9 rfl rfl ?_
    refine s_callVZ (d2 := d - 1) (As := [vI l2]) (st := []) (pc2 := 13) X dX10_letter_10 rfl ml_RX10_316 im_X10_isPerson se_X10_isPerson kX10 rfl (c_X10_isPerson (d - 1) (by omega) C.1 C.2.2.1 l0 l2 h2) hy_X10_isPerson rfl rfl hf hlo (st_room (Nat.le_of_ble_eq_true rfl)) hcs (fun v2 hv2 => ?_)
    refine s_ifeq (tgt := 33) X dX10_letter_13 (by decide) rfl hv2 ?_ ?_
    · refine s_sub (lv2 := []) [] rfl ?_
      exact z_X10_letter_L33 d hd K X
    · refine s_iload_n (j := 1) (pc2 := 17) X dX10_letter_16 rfl rfl ?_
      refine s_iload_n (j := 2) (pc2 := 18) X dX10_letter_17 rfl rfl ?_
      refine s_iceq (tgt := 33) X dX10_letter_18 (by decide) rfl h1 h2 ?_ ?_
      · refine s_sub (lv2 := []) [] rfl ?_
        exact z_X10_letter_L33 d hd K X
      · refine s_iload_n (j := 3) (pc2 := 22) X dX10_letter_21 rfl rfl ?_
        refine s_i2l (pc2 := 23) X dX10_letter_22 rfl h3 ?_
        refine s_lconst (z := 0) (pc2 := 24) X dX10_letter_23 rfl rfl ?_
        refine s_ldc2 (z := 2) (pc2 := 27) X dX10_letter_24 rfl kc_RX10_331 ?_
        refine s_callSZ (d2 := d - 1) (As := [vL l3, vL 0, vL 2]) (st := []) (pc2 := 30) X dX10_letter_27 rfl ml_RX10_118 sm_X10_in (c_X10_in (d - 1) (by omega) C.1 C.2.2.1 l3 0 2 (inL_of h3) (inL_c 0 rfl) (inL_c 2 rfl)) hy_X10_in rfl rfl hf hlo (st_room (Nat.le_of_ble_eq_true rfl)) hcs (fun v3 hv3 => ?_)
        refine s_ifne (tgt := 35) X dX10_letter_30 (by decide) rfl hv3 ?_ ?_
        · refine s_aload_n (j := 0) (pc2 := 36) X dX10_letter_35 rfl rfl ?_
          refine s_iload_n (j := 1) (pc2 := 37) X dX10_letter_36 rfl rfl ?_
          refine s_iload_n (j := 2) (pc2 := 38) X dX10_letter_37 rfl rfl ?_
          refine s_callVI (d2 := d - 1) (As := [vI l1, vI l2]) (st := []) (pc2 := 41) X dX10_letter_38 rfl ml_RX10_432 im_X10_handsBetween se_X10_handsBetween kX10 rfl (c_X10_handsBetween (d - 1) (by omega) C.1 C.2.2.1 l0 l1 l2 h1 h2) hy_X10_handsBetween rfl rfl hf hlo (st_room (Nat.le_of_ble_eq_true rfl)) hcs (fun v4 hv4 => ?_)
          refine s_istore (pc2 := 43) X dX10_letter_41 rfl (by decide) rfl rfl cat1_I hv4 (fun w5 hw5 => ?_)
          refine s_iload (j := 0) (pc2 := 45) X dX10_letter_43 rfl rfl ?_
          refine s_iflt (tgt := 54) X dX10_letter_45 (by decide) rfl hw5 ?_ ?_
          · refine s_sub (lv2 := []) [] rfl ?_
            exact z_X10_letter_L54 d hd K X
          · refine s_iload_n (j := 4) (pc2 := 49) X dX10_letter_48 rfl rfl ?_
            refine s_iload (j := 0) (pc2 := 51) X dX10_letter_49 rfl rfl ?_
            refine s_icle (tgt := 57) X dX10_letter_51 (by decide) rfl h3 hw5 ?_ ?_
            · refine s_iload_n (j := 4) (pc2 := 58) X dX10_letter_57 rfl rfl ?_
              refine s_ifne (tgt := 66) X dX10_letter_58 (by decide) rfl h3 ?_ ?_
              · refine s_aload_n (j := 1) (pc2 := 67) X dX10_letter_66 rfl rfl ?_
                refine s_getR (pc2 := 70) X dX10_letter_67 rfl fl_RX10_60 rfl (fun v6 => ?_)
                refine s_iload_n (j := 4) (pc2 := 71) X dX10_letter_70 rfl rfl ?_
                refine s_iconst (n := 1) (pc2 := 72) X dX10_letter_71 rfl ?_
                refine s_isub (pc2 := 73) X dX10_letter_72 rfl ?_
                refine s_iald (pc2 := 74) X dX10_letter_73 rfl (fun v7 hv7 => ?_)
                refine s_sub (lv2 := []) [] rfl ?_
                exact z_X10_letter_L74 d hd K X v7 hv7
              · refine s_iload (j := 0) (pc2 := 63) X dX10_letter_61 rfl rfl ?_
                refine s_goto (pc2 := 74) X dX10_letter_63 (by decide) ?_
                refine s_sub (lv2 := []) [] rfl ?_
                exact z_X10_letter_L74 d hd K X w5 hw5
            · refine s_sub (lv2 := []) [] rfl ?_
              exact z_X10_letter_L54 d hd K X
        · refine s_sub (lv2 := []) [] rfl ?_
          exact z_X10_letter_L33 d hd K X
theorem c_X10_letter (d : Nat) (hd : 7 ≤ d) (G : hG) (l : Launch) (l0 : Nat) (l1 : Int) (l2 : Int) (l3 : Int) (h1 : inI l1) (h2 : inI l2) (h3 : inI l3) : hMet G l yX10_letter cX10_letter 5 (some .int) d 0 0 [vR G.1 l0, vI l1, vI l2, vI l3] (m_X10_letter l0 l1 l2 l3) := by
  refine hMet.of (lv := [(0, vR G.1 l0), (1, vI l1), (2, vI l2), (3, vI l3)]) (by decide +kernel) (by simp [lg_sl, vR_cat, vI_cat, vL_cat, vS_cat2, vT_cat2]) (by simp [lv_args, vR_cat, vI_cat, vL_cat, vS_cat2, vT_cat2]) (fun C K X => ?_)
  obtain ⟨rfl, rfl, K⟩ := K
  exact z_X10_letter d hd ⟨rfl, rfl, K⟩ X l0 l1 l2 l3 h1 h2 h3
def m_X10_nextToGo_L38 (l3 : Int) : hM :=
  hret l3
def m_X10_nextToGo_L32 (k4 : Nat → Int → Int → hM) (l0 : Nat) (l1 : Int) (l3 : Int) : hM :=
  hlet (w32 (l3 + 1)) fun (w1 : Int) =>
  k4 l0 l1 w1
def m_X10_nextToGo_L4 : Nat → Nat → Int → Int → hM
  | 0, _, _, _ => hfail
  | n + 1, l0, l1, l3 =>
    hgR 10 l0 20 fun v1 =>
  haI 20 v1 2 fun v2 =>
  hif (l3 ≥ v2) (
m_X10_nextToGo_L38 l3) (
hgR 10 l0 33 fun v3 =>
  haI 20 v3 l3 fun v4 =>
  hif (v4 = 0) (
m_X10_nextToGo_L32 (m_X10_nextToGo_L4 n) l0 l1 l3) (
hcallV 10 l0 (m_X10_over l0 l3 l1) fun v5 =>
  hif (v5 ≥ 0) (
m_X10_nextToGo_L38 l3) (
m_X10_nextToGo_L32 (m_X10_nextToGo_L4 n) l0 l1 l3)))
def m_X10_nextToGo (l0 : Nat) (l1 : Int) (l2 : Int) : hM :=
  hlet ((w32 (l2 + 1))) fun (w1 : Int) =>
  m_X10_nextToGo_L4 1000000000 l0 l1 w1
set_option maxRecDepth 4000 in
theorem z_X10_nextToGo_L38 (d : Nat) (hd : 3 ≤ d) {C : hCx} (K : hCtx C.1 C.2.2.1 d 0 0 "nextToGo" C) (X : hOK C cX10_nextToGo RX10 4 (some .int)) (l3 : Int) (h3 : inI l3) : hSim C (some .int) 0 0 4 38 [(3, vI l3)] [] 0 0 (m_X10_nextToGo_L38 l3) := by
  obtain ⟨⟨hf, hlo⟩, ⟨hc1, hc2⟩, hf1, hl1⟩ := K_room K (by omega)
  have hcs : 0 ≤ C.2.2.2.2.1.cells ∧ 0 ≤ C.2.2.2.2.1.slots := ⟨Nat.zero_le _, Nat.zero_le _⟩
  unfold m_X10_nextToGo_L38
  refine s_iload_n (j := 0) (pc2 := 39) X dX10_nextToGo_38 rfl rfl ?_
  exact s_iret X dX10_nextToGo_39 h3
set_option maxRecDepth 4000 in
theorem z_X10_nextToGo_L32 (d : Nat) (hd : 3 ≤ d) {C : hCx} (K : hCtx C.1 C.2.2.1 d 0 0 "nextToGo" C) (X : hOK C cX10_nextToGo RX10 4 (some .int)) (k4 : Nat → Int → Int → hM) (hk4 : ∀ (l0 : Nat) (l1 : Int) (l3 : Int), inI l1 → inI l3 → hSim C (some .int) 0 0 4 4 [(0, vR C.1.1 l0), (1, vI l1), (3, vI l3)] [] 0 0 (k4 l0 l1 l3)) (l0 : Nat) (l1 : Int) (l3 : Int) (h1 : inI l1) (h3 : inI l3) : hSim C (some .int) 0 0 4 32 [(0, vR C.1.1 l0), (1, vI l1), (3, vI l3)] [] 0 0 (m_X10_nextToGo_L32 k4 l0 l1 l3) := by
  obtain ⟨⟨hf, hlo⟩, ⟨hc1, hc2⟩, hf1, hl1⟩ := K_room K (by omega)
  have hcs : 0 ≤ C.2.2.2.2.1.cells ∧ 0 ≤ C.2.2.2.2.1.slots := ⟨Nat.zero_le _, Nat.zero_le _⟩
  unfold m_X10_nextToGo_L32
  refine s_iinc (j := 2) (pc2 := 35) X dX10_nextToGo_32 rfl (by decide) rfl rfl rfl cat1_N (fun w1 hw1 => ?_)
  refine s_goto (pc2 := 4) X dX10_nextToGo_35 (by decide) ?_
  refine s_sub (lv2 := [(0, vR C.1.1 l0), (1, vI l1), (3, vI w1)]) [1, 2, 0] rfl ?_
  exact hk4 l0 l1 w1 h1 hw1
set_option maxRecDepth 4000 in
theorem z_X10_nextToGo_L4 (d : Nat) (hd : 3 ≤ d) {C : hCx} (K : hCtx C.1 C.2.2.1 d 0 0 "nextToGo" C) (X : hOK C cX10_nextToGo RX10 4 (some .int)) : ∀ (n : Nat) (l0 : Nat) (l1 : Int) (l3 : Int) (h1 : inI l1) (h3 : inI l3), hSim C (some .int) 0 0 4 4 [(0, vR C.1.1 l0), (1, vI l1), (3, vI l3)] [] 0 0 (m_X10_nextToGo_L4 n l0 l1 l3) := by
  obtain ⟨⟨hf, hlo⟩, ⟨hc1, hc2⟩, hf1, hl1⟩ := K_room K (by omega)
  have hcs : 0 ≤ C.2.2.2.2.1.cells ∧ 0 ≤ C.2.2.2.2.1.slots := ⟨Nat.zero_le _, Nat.zero_le _⟩
  intro n
  induction n with
  | zero => intros; exact s_none (fun _ => rfl)
  | succ n ih =>
    intro l0 l1 l3 h1 h3
    unfold m_X10_nextToGo_L4
    refine s_iload_n (j := 2) (pc2 := 5) X dX10_nextToGo_4 rfl rfl ?_
    refine s_aload_n (j := 0) (pc2 := 6) X dX10_nextToGo_5 rfl rfl ?_
    refine s_getR (pc2 := 9) X dX10_nextToGo_6 rfl fl_RX10_39 rfl (fun v1 => ?_)
    refine s_iconst (n := 2) (pc2 := 10) X dX10_nextToGo_9 rfl ?_
    refine s_iald (pc2 := 11) X dX10_nextToGo_10 rfl (fun v2 hv2 => ?_)
    refine s_icge (tgt := 38) X dX10_nextToGo_11 (by decide) rfl h3 hv2 ?_ ?_
    · refine s_sub (lv2 := [(3, vI l3)]) [2] rfl ?_
      exact z_X10_nextToGo_L38 d hd K X l3 h3
    · refine s_aload_n (j := 0) (pc2 := 15) X dX10_nextToGo_14 rfl rfl ?_
      refine s_getR (pc2 := 18) X dX10_nextToGo_15 rfl fl_RX10_63 rfl (fun v3 => ?_)
      refine s_iload_n (j := 2) (pc2 := 19) X dX10_nextToGo_18 rfl rfl ?_
      refine s_iald (pc2 := 20) X dX10_nextToGo_19 rfl (fun v4 hv4 => ?_)
      refine s_ifeq (tgt := 32) X dX10_nextToGo_20 (by decide) rfl hv4 ?_ ?_
      · exact z_X10_nextToGo_L32 d hd K X (m_X10_nextToGo_L4 n) ih l0 l1 l3 h1 h3
      · refine s_aload_n (j := 0) (pc2 := 24) X dX10_nextToGo_23 rfl rfl ?_
        refine s_iload_n (j := 2) (pc2 := 25) X dX10_nextToGo_24 rfl rfl ?_
        refine s_iload_n (j := 1) (pc2 := 26) X dX10_nextToGo_25 rfl rfl ?_
        refine s_callVI (d2 := d - 1) (As := [vI l3, vI l1]) (st := []) (pc2 := 29) X dX10_nextToGo_26 rfl ml_RX10_336 im_X10_over se_X10_over kX10 rfl (c_X10_over (d - 1) (by omega) C.1 C.2.2.1 l0 l3 l1 h3 h1) hy_X10_over rfl rfl hf hlo (st_room (Nat.le_of_ble_eq_true rfl)) hcs (fun v5 hv5 => ?_)
        refine s_ifge (tgt := 38) X dX10_nextToGo_29 (by decide) rfl hv5 ?_ ?_
        · refine s_sub (lv2 := [(3, vI l3)]) [2] rfl ?_
          exact z_X10_nextToGo_L38 d hd K X l3 h3
        · exact z_X10_nextToGo_L32 d hd K X (m_X10_nextToGo_L4 n) ih l0 l1 l3 h1 h3
set_option maxRecDepth 4000 in
set_option maxHeartbeats 20000000 in
theorem z_X10_nextToGo (d : Nat) (hd : 3 ≤ d) {C : hCx} (K : hCtx C.1 C.2.2.1 d 0 0 "nextToGo" C) (X : hOK C cX10_nextToGo RX10 4 (some .int)) (l0 : Nat) (l1 : Int) (l2 : Int) (h1 : inI l1) (h2 : inI l2) : hSim C (some .int) 0 0 4 0 [(0, vR C.1.1 l0), (1, vI l1), (2, vI l2)] [] 0 0 (m_X10_nextToGo l0 l1 l2) := by
  obtain ⟨⟨hf, hlo⟩, ⟨hc1, hc2⟩, hf1, hl1⟩ := K_room K (by omega)
  have hcs : 0 ≤ C.2.2.2.2.1.cells ∧ 0 ≤ C.2.2.2.2.1.slots := ⟨Nat.zero_le _, Nat.zero_le _⟩
  unfold m_X10_nextToGo
  refine s_iload_n (j := 2) (pc2 := 1) X dX10_nextToGo_0 rfl rfl ?_
  refine s_iconst (n := 1) (pc2 := 2) X dX10_nextToGo_1 rfl ?_
  refine s_iadd (pc2 := 3) X dX10_nextToGo_2 rfl ?_
  refine s_istore_n (pc2 := 4) X dX10_nextToGo_3 rfl (by decide) rfl rfl cat1_I (w32_in _) (fun w1 hw1 => ?_)
  refine s_sub (lv2 := [(0, vR C.1.1 l0), (1, vI l1), (3, vI w1)]) [1, 2, 0] rfl ?_
  exact z_X10_nextToGo_L4 d hd K X 1000000000 l0 l1 w1 h1 hw1
theorem c_X10_nextToGo (d : Nat) (hd : 3 ≤ d) (G : hG) (l : Launch) (l0 : Nat) (l1 : Int) (l2 : Int) (h1 : inI l1) (h2 : inI l2) : hMet G l yX10_nextToGo cX10_nextToGo 4 (some .int) d 0 0 [vR G.1 l0, vI l1, vI l2] (m_X10_nextToGo l0 l1 l2) := by
  refine hMet.of (lv := [(0, vR G.1 l0), (1, vI l1), (2, vI l2)]) (by decide +kernel) (by simp [lg_sl, vR_cat, vI_cat, vL_cat, vS_cat2, vT_cat2]) (by simp [lv_args, vR_cat, vI_cat, vL_cat, vS_cat2, vT_cat2]) (fun C K X => ?_)
  obtain ⟨rfl, rfl, K⟩ := K
  exact z_X10_nextToGo d hd ⟨rfl, rfl, K⟩ X l0 l1 l2 h1 h2
def m_X10_findsRows_L205 (k33 : Nat → Int → Int → Int → Int → hM) (l0 : Nat) (l1 : Int) (l2 : Int) (l3 : Int) (l4 : Int) : hM :=
  hgI 10 l0 35 fun v1 =>
  hgR 10 l0 26 fun v2 =>
  haI 20 v2 l4 fun v3 =>
  hpI 10 l0 35 ((iorZ v1 ((ishlZ 1 v3)))) <|
  hgI 10 l0 34 fun v4 =>
  hpI 10 l0 34 ((w32 (v4 + 1))) <|
  k33 l0 l1 l2 l3 l4
def m_X10_findsRows_L77 (k33 : Nat → Int → Int → Int → Int → hM) (l0 : Nat) (l1 : Int) (l2 : Int) (l3 : Int) (l4 : Int) : hM :=
  hgR 10 l0 26 fun v1 =>
  hgR 10 l0 26 fun v2 =>
  haI 20 v2 l4 fun v3 =>
  hcallV 10 l0 (m_X10_nextToGo l0 l3 v3) fun v4 =>
  hsI 20 v1 l4 v4 <|
  hgR 10 l0 26 fun v5 =>
  haI 20 v5 l4 fun v6 =>
  hgR 10 l0 20 fun v7 =>
  haI 20 v7 2 fun v8 =>
  hif (v6 ≠ v8) (
hgR 10 l0 33 fun v9 =>
  hgR 10 l0 26 fun v10 =>
  haI 20 v10 l4 fun v11 =>
  haI 20 v9 v11 fun v12 =>
  hsI 20 v9 v11 ((w32 (v12 - 1))) <|
  hgR 10 l0 26 fun v13 =>
  haI 20 v13 l4 fun v14 =>
  hcallV 10 l0 (m_X10_over l0 v14 l3) fun v15 =>
  hlet v15 fun (w16 : Int) =>
  hif (l4 ≥ ((w32 (l2 - 1)))) (
hcallV 10 l0 (m_X10_personOf l0 l1 0) fun v17 =>
  hif (w16 ≠ v17) (
k33 l0 l1 l2 w16 l4) (
hgI 10 l0 34 fun v18 =>
  hif (v18 ≠ 0) (
m_X10_findsRows_L205 k33 l0 l1 l2 w16 l4) (
hgR 10 l0 26 fun v19 =>
  haI 20 v19 l4 fun v20 =>
  hpI 10 l0 36 v20 <|
  m_X10_findsRows_L205 k33 l0 l1 l2 w16 l4))) (
hlet (w32 (l4 + 1)) fun (w21 : Int) =>
  hgR 10 l0 26 fun v22 =>
  hsI 20 v22 w21 ((-1)) <|
  k33 l0 l1 l2 w16 w21)) (
hgR 10 l0 26 fun v23 =>
  hsI 20 v23 l4 ((-1)) <|
  hlet (w32 (l4 + (-1))) fun (w24 : Int) =>
  k33 l0 l1 l2 l3 w24)
def m_X10_findsRows_L33 : Nat → Nat → Int → Int → Int → Int → hM
  | 0, _, _, _, _, _ => hfail
  | n + 1, l0, l1, l2, l3, l4 =>
    hif (l4 < 0) (
hret 0) (
hgR 10 l0 26 fun v1 =>
  haI 20 v1 l4 fun v2 =>
  hif (v2 < 0) (
m_X10_findsRows_L77 (m_X10_findsRows_L33 n) l0 l1 l2 l3 l4) (
hgR 10 l0 26 fun v3 =>
  haI 20 v3 l4 fun v4 =>
  hcallV 10 l0 (m_X10_over l0 v4 l3) fun v5 =>
  hlet v5 fun (w6 : Int) =>
  hgR 10 l0 33 fun v7 =>
  hgR 10 l0 26 fun v8 =>
  haI 20 v8 l4 fun v9 =>
  haI 20 v7 v9 fun v10 =>
  hsI 20 v7 v9 ((w32 (v10 + 1))) <|
  m_X10_findsRows_L77 (m_X10_findsRows_L33 n) l0 l1 l2 w6 l4))
def m_X10_findsRows (l0 : Nat) (l1 : Int) (l2 : Int) : hM :=
  hcallV 10 l0 (m_X10_personOf l0 l1 1) fun v1 =>
  hlet v1 fun (w2 : Int) =>
  hlet (0 : Int) fun (w3 : Int) =>
  hpI 10 l0 34 0 <|
  hpI 10 l0 35 0 <|
  hpI 10 l0 36 ((-2)) <|
  hgR 10 l0 26 fun v4 =>
  hsI 20 v4 0 ((-1)) <|
  m_X10_findsRows_L33 1000000000 l0 l1 l2 w2 w3
set_option maxRecDepth 4000 in
theorem z_X10_findsRows_L205 (d : Nat) (hd : 4 ≤ d) {C : hCx} (K : hCtx C.1 C.2.2.1 d 0 0 "findsRows" C) (X : hOK C cX10_findsRows RX10 5 none) (k33 : Nat → Int → Int → Int → Int → hM) (hk33 : ∀ (l0 : Nat) (l1 : Int) (l2 : Int) (l3 : Int) (l4 : Int), inI l1 → inI l2 → inI l3 → inI l4 → hSim C none 0 0 5 33 [(0, vR C.1.1 l0), (1, vI l1), (2, vI l2), (3, vI l3), (4, vI l4)] [] 0 0 (k33 l0 l1 l2 l3 l4)) (l0 : Nat) (l1 : Int) (l2 : Int) (l3 : Int) (l4 : Int) (h1 : inI l1) (h2 : inI l2) (h3 : inI l3) (h4 : inI l4) : hSim C none 0 0 5 205 [(0, vR C.1.1 l0), (1, vI l1), (2, vI l2), (3, vI l3), (4, vI l4)] [] 0 0 (m_X10_findsRows_L205 k33 l0 l1 l2 l3 l4) := by
  obtain ⟨⟨hf, hlo⟩, ⟨hc1, hc2⟩, hf1, hl1⟩ := K_room K (by omega)
  have hcs : 0 ≤ C.2.2.2.2.1.cells ∧ 0 ≤ C.2.2.2.2.1.slots := ⟨Nat.zero_le _, Nat.zero_le _⟩
  unfold m_X10_findsRows_L205
  refine s_aload_n (j := 0) (pc2 := 206) X dX10_findsRows_205 rfl rfl ?_
  refine s_dup (pc2 := 207) X dX10_findsRows_206 rfl (vR_cat _ _) ?_
  refine s_getI (pc2 := 210) X dX10_findsRows_207 rfl fl_RX10_438 rfl (fun v1 hv1 => ?_)
  refine s_iconst (n := 1) (pc2 := 211) X dX10_findsRows_210 rfl ?_
  refine s_aload_n (j := 0) (pc2 := 212) X dX10_findsRows_211 rfl rfl ?_
  refine s_getR (pc2 := 215) X dX10_findsRows_212 rfl fl_RX10_51 rfl (fun v2 => ?_)
  refine s_iload (j := 4) (pc2 := 217) X dX10_findsRows_215 rfl rfl ?_
  refine s_iald (pc2 := 218) X dX10_findsRows_217 rfl (fun v3 hv3 => ?_)
  refine s_ishl (pc2 := 219) X dX10_findsRows_218 rfl ?_
  refine s_ior (pc2 := 220) X dX10_findsRows_219 rfl ?_
  refine s_putI (pc2 := 223) X dX10_findsRows_220 rfl fl_RX10_438 (Or.inl rfl) rfl (iorZ_in _ _) ?_
  refine s_aload_n (j := 0) (pc2 := 224) X dX10_findsRows_223 rfl rfl ?_
  refine s_dup (pc2 := 225) X dX10_findsRows_224 rfl (vR_cat _ _) ?_
  refine s_getI (pc2 := 228) X dX10_findsRows_225 rfl fl_RX10_435 rfl (fun v4 hv4 => ?_)
  refine s_iconst (n := 1) (pc2 := 229) X dX10_findsRows_228 rfl ?_
  refine s_iadd (pc2 := 230) X dX10_findsRows_229 rfl ?_
  refine s_putI (pc2 := 233) X dX10_findsRows_230 rfl fl_RX10_435 (Or.inl rfl) rfl (w32_in _) ?_
  refine s_goto (pc2 := 33) X dX10_findsRows_233 (by decide) ?_
  exact hk33 l0 l1 l2 l3 l4 h1 h2 h3 h4
set_option maxRecDepth 4000 in
theorem z_X10_findsRows_L77 (d : Nat) (hd : 4 ≤ d) {C : hCx} (K : hCtx C.1 C.2.2.1 d 0 0 "findsRows" C) (X : hOK C cX10_findsRows RX10 5 none) (k33 : Nat → Int → Int → Int → Int → hM) (hk33 : ∀ (l0 : Nat) (l1 : Int) (l2 : Int) (l3 : Int) (l4 : Int), inI l1 → inI l2 → inI l3 → inI l4 → hSim C none 0 0 5 33 [(0, vR C.1.1 l0), (1, vI l1), (2, vI l2), (3, vI l3), (4, vI l4)] [] 0 0 (k33 l0 l1 l2 l3 l4)) (l0 : Nat) (l1 : Int) (l2 : Int) (l3 : Int) (l4 : Int) (h1 : inI l1) (h2 : inI l2) (h3 : inI l3) (h4 : inI l4) : hSim C none 0 0 5 77 [(0, vR C.1.1 l0), (1, vI l1), (2, vI l2), (3, vI l3), (4, vI l4)] [] 0 0 (m_X10_findsRows_L77 k33 l0 l1 l2 l3 l4) := by
  obtain ⟨⟨hf, hlo⟩, ⟨hc1, hc2⟩, hf1, hl1⟩ := K_room K (by omega)
  have hcs : 0 ≤ C.2.2.2.2.1.cells ∧ 0 ≤ C.2.2.2.2.1.slots := ⟨Nat.zero_le _, Nat.zero_le _⟩
  unfold m_X10_findsRows_L77
  refine s_aload_n (j := 0) (pc2 := 78) X dX10_findsRows_77 rfl rfl ?_
  refine s_getR (pc2 := 81) X dX10_findsRows_78 rfl fl_RX10_51 rfl (fun v1 => ?_)
  refine s_iload (j := 4) (pc2 := 83) X dX10_findsRows_81 rfl rfl ?_
  refine s_aload_n (j := 0) (pc2 := 84) X dX10_findsRows_83 rfl rfl ?_
  refine s_iload_n (j := 3) (pc2 := 85) X dX10_findsRows_84 rfl rfl ?_
  refine s_aload_n (j := 0) (pc2 := 86) X dX10_findsRows_85 rfl rfl ?_
  refine s_getR (pc2 := 89) X dX10_findsRows_86 rfl fl_RX10_51 rfl (fun v2 => ?_)
  refine s_iload (j := 4) (pc2 := 91) X dX10_findsRows_89 rfl rfl ?_
  refine s_iald (pc2 := 92) X dX10_findsRows_91 rfl (fun v3 hv3 => ?_)
  refine s_callVI (d2 := d - 1) (As := [vI l3, vI v3]) (st := [vI l4, vR C.1.1 v1]) (pc2 := 95) X dX10_findsRows_92 rfl ml_RX10_444 im_X10_nextToGo se_X10_nextToGo kX10 rfl (c_X10_nextToGo (d - 1) (by omega) C.1 C.2.2.1 l0 l3 v3 h3 hv3) hy_X10_nextToGo rfl rfl hf hlo (st_room (Nat.le_of_ble_eq_true rfl)) hcs (fun v4 hv4 => ?_)
  refine s_iast (pc2 := 96) X dX10_findsRows_95 rfl hv4 ?_
  refine s_aload_n (j := 0) (pc2 := 97) X dX10_findsRows_96 rfl rfl ?_
  refine s_getR (pc2 := 100) X dX10_findsRows_97 rfl fl_RX10_51 rfl (fun v5 => ?_)
  refine s_iload (j := 4) (pc2 := 102) X dX10_findsRows_100 rfl rfl ?_
  refine s_iald (pc2 := 103) X dX10_findsRows_102 rfl (fun v6 hv6 => ?_)
  refine s_aload_n (j := 0) (pc2 := 104) X dX10_findsRows_103 rfl rfl ?_
  refine s_getR (pc2 := 107) X dX10_findsRows_104 rfl fl_RX10_39 rfl (fun v7 => ?_)
  refine s_iconst (n := 2) (pc2 := 108) X dX10_findsRows_107 rfl ?_
  refine s_iald (pc2 := 109) X dX10_findsRows_108 rfl (fun v8 hv8 => ?_)
  refine s_icne (tgt := 126) X dX10_findsRows_109 (by decide) rfl hv6 hv8 ?_ ?_
  · refine s_aload_n (j := 0) (pc2 := 127) X dX10_findsRows_126 rfl rfl ?_
    refine s_getR (pc2 := 130) X dX10_findsRows_127 rfl fl_RX10_63 rfl (fun v9 => ?_)
    refine s_aload_n (j := 0) (pc2 := 131) X dX10_findsRows_130 rfl rfl ?_
    refine s_getR (pc2 := 134) X dX10_findsRows_131 rfl fl_RX10_51 rfl (fun v10 => ?_)
    refine s_iload (j := 4) (pc2 := 136) X dX10_findsRows_134 rfl rfl ?_
    refine s_iald (pc2 := 137) X dX10_findsRows_136 rfl (fun v11 hv11 => ?_)
    refine s_dup2 (pc2 := 138) X dX10_findsRows_137 rfl rfl (vR_cat _ _) ?_
    refine s_iald (pc2 := 139) X dX10_findsRows_138 rfl (fun v12 hv12 => ?_)
    refine s_iconst (n := 1) (pc2 := 140) X dX10_findsRows_139 rfl ?_
    refine s_isub (pc2 := 141) X dX10_findsRows_140 rfl ?_
    refine s_iast (pc2 := 142) X dX10_findsRows_141 rfl (w32_in _) ?_
    refine s_aload_n (j := 0) (pc2 := 143) X dX10_findsRows_142 rfl rfl ?_
    refine s_aload_n (j := 0) (pc2 := 144) X dX10_findsRows_143 rfl rfl ?_
    refine s_getR (pc2 := 147) X dX10_findsRows_144 rfl fl_RX10_51 rfl (fun v13 => ?_)
    refine s_iload (j := 4) (pc2 := 149) X dX10_findsRows_147 rfl rfl ?_
    refine s_iald (pc2 := 150) X dX10_findsRows_149 rfl (fun v14 hv14 => ?_)
    refine s_iload_n (j := 3) (pc2 := 151) X dX10_findsRows_150 rfl rfl ?_
    refine s_callVI (d2 := d - 1) (As := [vI v14, vI l3]) (st := []) (pc2 := 154) X dX10_findsRows_151 rfl ml_RX10_336 im_X10_over se_X10_over kX10 rfl (c_X10_over (d - 1) (by omega) C.1 C.2.2.1 l0 v14 l3 hv14 h3) hy_X10_over rfl rfl hf hlo (st_room (Nat.le_of_ble_eq_true rfl)) hcs (fun v15 hv15 => ?_)
    refine s_istore_n (pc2 := 155) X dX10_findsRows_154 rfl (by decide) rfl rfl cat1_I hv15 (fun w16 hw16 => ?_)
    refine s_iload (j := 4) (pc2 := 157) X dX10_findsRows_155 rfl rfl ?_
    refine s_iload_n (j := 3) (pc2 := 158) X dX10_findsRows_157 rfl rfl ?_
    refine s_iconst (n := 1) (pc2 := 159) X dX10_findsRows_158 rfl ?_
    refine s_isub (pc2 := 160) X dX10_findsRows_159 rfl ?_
    refine s_icge (tgt := 177) X dX10_findsRows_160 (by decide) rfl h4 (w32_in _) ?_ ?_
    · refine s_iload_n (j := 0) (pc2 := 178) X dX10_findsRows_177 rfl rfl ?_
      refine s_aload_n (j := 1) (pc2 := 179) X dX10_findsRows_178 rfl rfl ?_
      refine s_iload_n (j := 2) (pc2 := 180) X dX10_findsRows_179 rfl rfl ?_
      refine s_iconst (n := 0) (pc2 := 181) X dX10_findsRows_180 rfl ?_
      refine s_callVI (d2 := d - 1) (As := [vI l1, vI 0]) (st := [vI w16]) (pc2 := 184) X dX10_findsRows_181 rfl ml_RX10_307 im_X10_personOf se_X10_personOf kX10 rfl (c_X10_personOf (d - 1) (by omega) C.1 C.2.2.1 l0 l1 0 h1 (inI_c 0 rfl)) hy_X10_personOf rfl rfl hf hlo (st_room (Nat.le_of_ble_eq_true rfl)) hcs (fun v17 hv17 => ?_)
      refine s_icne (tgt := 33) X dX10_findsRows_184 (by decide) rfl hw16 hv17 ?_ ?_
      · refine s_sub (lv2 := [(0, vR C.1.1 l0), (1, vI l1), (2, vI l2), (3, vI w16), (4, vI l4)]) [1, 2, 3, 0, 4] rfl ?_
        exact hk33 l0 l1 l2 w16 l4 h1 h2 hw16 h4
      · refine s_aload_n (j := 1) (pc2 := 188) X dX10_findsRows_187 rfl rfl ?_
        refine s_getI (pc2 := 191) X dX10_findsRows_188 rfl fl_RX10_435 rfl (fun v18 hv18 => ?_)
        refine s_ifne (tgt := 205) X dX10_findsRows_191 (by decide) rfl hv18 ?_ ?_
        · refine s_sub (lv2 := [(0, vR C.1.1 l0), (1, vI l1), (2, vI l2), (3, vI w16), (4, vI l4)]) [1, 2, 3, 0, 4] rfl ?_
          exact z_X10_findsRows_L205 d hd K X k33 hk33 l0 l1 l2 w16 l4 h1 h2 hw16 h4
        · refine s_aload_n (j := 1) (pc2 := 195) X dX10_findsRows_194 rfl rfl ?_
          refine s_aload_n (j := 1) (pc2 := 196) X dX10_findsRows_195 rfl rfl ?_
          refine s_getR (pc2 := 199) X dX10_findsRows_196 rfl fl_RX10_51 rfl (fun v19 => ?_)
          refine s_iload (j := 4) (pc2 := 201) X dX10_findsRows_199 rfl rfl ?_
          refine s_iald (pc2 := 202) X dX10_findsRows_201 rfl (fun v20 hv20 => ?_)
          refine s_putI (pc2 := 205) X dX10_findsRows_202 rfl fl_RX10_441 (Or.inl rfl) rfl hv20 ?_
          refine s_sub (lv2 := [(0, vR C.1.1 l0), (1, vI l1), (2, vI l2), (3, vI w16), (4, vI l4)]) [1, 2, 3, 0, 4] rfl ?_
          exact z_X10_findsRows_L205 d hd K X k33 hk33 l0 l1 l2 w16 l4 h1 h2 hw16 h4
    · refine s_iinc (j := 4) (pc2 := 166) X dX10_findsRows_163 rfl (by decide) rfl rfl rfl cat1_I (fun w21 hw21 => ?_)
      refine s_aload_n (j := 2) (pc2 := 167) X dX10_findsRows_166 rfl rfl ?_
      refine s_getR (pc2 := 170) X dX10_findsRows_167 rfl fl_RX10_51 rfl (fun v22 => ?_)
      refine s_iload (j := 0) (pc2 := 172) X dX10_findsRows_170 rfl rfl ?_
      refine s_iconst (n := (-1)) (pc2 := 173) X dX10_findsRows_172 rfl ?_
      refine s_iast (pc2 := 174) X dX10_findsRows_173 rfl (inI_c (-1) rfl) ?_
      refine s_goto (pc2 := 33) X dX10_findsRows_174 (by decide) ?_
      refine s_sub (lv2 := [(0, vR C.1.1 l0), (1, vI l1), (2, vI l2), (3, vI w16), (4, vI w21)]) [2, 3, 4, 1, 0] rfl ?_
      exact hk33 l0 l1 l2 w16 w21 h1 h2 hw16 hw21
  · refine s_aload_n (j := 0) (pc2 := 113) X dX10_findsRows_112 rfl rfl ?_
    refine s_getR (pc2 := 116) X dX10_findsRows_113 rfl fl_RX10_51 rfl (fun v23 => ?_)
    refine s_iload (j := 4) (pc2 := 118) X dX10_findsRows_116 rfl rfl ?_
    refine s_iconst (n := (-1)) (pc2 := 119) X dX10_findsRows_118 rfl ?_
    refine s_iast (pc2 := 120) X dX10_findsRows_119 rfl (inI_c (-1) rfl) ?_
    refine s_iinc (j := 4) (pc2 := 123) X dX10_findsRows_120 rfl (by decide) rfl rfl rfl cat1_I (fun w24 hw24 => ?_)
    refine s_goto (pc2 := 33) X dX10_findsRows_123 (by decide) ?_
    refine s_sub (lv2 := [(0, vR C.1.1 l0), (1, vI l1), (2, vI l2), (3, vI l3), (4, vI w24)]) [1, 2, 3, 4, 0] rfl ?_
    exact hk33 l0 l1 l2 l3 w24 h1 h2 h3 hw24
set_option maxRecDepth 4000 in
theorem z_X10_findsRows_L33 (d : Nat) (hd : 4 ≤ d) {C : hCx} (K : hCtx C.1 C.2.2.1 d 0 0 "findsRows" C) (X : hOK C cX10_findsRows RX10 5 none) : ∀ (n : Nat) (l0 : Nat) (l1 : Int) (l2 : Int) (l3 : Int) (l4 : Int) (h1 : inI l1) (h2 : inI l2) (h3 : inI l3) (h4 : inI l4), hSim C none 0 0 5 33 [(0, vR C.1.1 l0), (1, vI l1), (2, vI l2), (3, vI l3), (4, vI l4)] [] 0 0 (m_X10_findsRows_L33 n l0 l1 l2 l3 l4) := by
  obtain ⟨⟨hf, hlo⟩, ⟨hc1, hc2⟩, hf1, hl1⟩ := K_room K (by omega)
  have hcs : 0 ≤ C.2.2.2.2.1.cells ∧ 0 ≤ C.2.2.2.2.1.slots := ⟨Nat.zero_le _, Nat.zero_le _⟩
  intro n
  induction n with
  | zero => intros; exact s_none (fun _ => rfl)
  | succ n ih =>
    intro l0 l1 l2 l3 l4 h1 h2 h3 h4
    unfold m_X10_findsRows_L33
    refine s_iload (j := 4) (pc2 := 35) X dX10_findsRows_33 rfl rfl ?_
    refine s_iflt (tgt := 236) X dX10_findsRows_35 (by decide) rfl h4 ?_ ?_
    · exact s_ret X dX10_findsRows_236
    · refine s_aload_n (j := 0) (pc2 := 39) X dX10_findsRows_38 rfl rfl ?_
      refine s_getR (pc2 := 42) X dX10_findsRows_39 rfl fl_RX10_51 rfl (fun v1 => ?_)
      refine s_iload (j := 4) (pc2 := 44) X dX10_findsRows_42 rfl rfl ?_
      refine s_iald (pc2 := 45) X dX10_findsRows_44 rfl (fun v2 hv2 => ?_)
      refine s_iflt (tgt := 77) X dX10_findsRows_45 (by decide) rfl hv2 ?_ ?_
      · exact z_X10_findsRows_L77 d hd K X (m_X10_findsRows_L33 n) ih l0 l1 l2 l3 l4 h1 h2 h3 h4
      · refine s_aload_n (j := 0) (pc2 := 49) X dX10_findsRows_48 rfl rfl ?_
        refine s_aload_n (j := 0) (pc2 := 50) X dX10_findsRows_49 rfl rfl ?_
        refine s_getR (pc2 := 53) X dX10_findsRows_50 rfl fl_RX10_51 rfl (fun v3 => ?_)
        refine s_iload (j := 4) (pc2 := 55) X dX10_findsRows_53 rfl rfl ?_
        refine s_iald (pc2 := 56) X dX10_findsRows_55 rfl (fun v4 hv4 => ?_)
        refine s_iload_n (j := 3) (pc2 := 57) X dX10_findsRows_56 rfl rfl ?_
        refine s_callVI (d2 := d - 1) (As := [vI v4, vI l3]) (st := []) (pc2 := 60) X dX10_findsRows_57 rfl ml_RX10_336 im_X10_over se_X10_over kX10 rfl (c_X10_over (d - 1) (by omega) C.1 C.2.2.1 l0 v4 l3 hv4 h3) hy_X10_over rfl rfl hf hlo (st_room (Nat.le_of_ble_eq_true rfl)) hcs (fun v5 hv5 => ?_)
        refine s_istore_n (pc2 := 61) X dX10_findsRows_60 rfl (by decide) rfl rfl cat1_I hv5 (fun w6 hw6 => ?_)
        refine s_aload_n (j := 1) (pc2 := 62) X dX10_findsRows_61 rfl rfl ?_
        refine s_getR (pc2 := 65) X dX10_findsRows_62 rfl fl_RX10_63 rfl (fun v7 => ?_)
        refine s_aload_n (j := 1) (pc2 := 66) X dX10_findsRows_65 rfl rfl ?_
        refine s_getR (pc2 := 69) X dX10_findsRows_66 rfl fl_RX10_51 rfl (fun v8 => ?_)
        refine s_iload (j := 4) (pc2 := 71) X dX10_findsRows_69 rfl rfl ?_
        refine s_iald (pc2 := 72) X dX10_findsRows_71 rfl (fun v9 hv9 => ?_)
        refine s_dup2 (pc2 := 73) X dX10_findsRows_72 rfl rfl (vR_cat _ _) ?_
        refine s_iald (pc2 := 74) X dX10_findsRows_73 rfl (fun v10 hv10 => ?_)
        refine s_iconst (n := 1) (pc2 := 75) X dX10_findsRows_74 rfl ?_
        refine s_iadd (pc2 := 76) X dX10_findsRows_75 rfl ?_
        refine s_iast (pc2 := 77) X dX10_findsRows_76 rfl (w32_in _) ?_
        refine s_sub (lv2 := [(0, vR C.1.1 l0), (1, vI l1), (2, vI l2), (3, vI w6), (4, vI l4)]) [1, 2, 3, 0, 4] rfl ?_
        exact z_X10_findsRows_L77 d hd K X (m_X10_findsRows_L33 n) ih l0 l1 l2 w6 l4 h1 h2 hw6 h4
set_option maxRecDepth 4000 in
set_option maxHeartbeats 20000000 in
theorem z_X10_findsRows (d : Nat) (hd : 4 ≤ d) {C : hCx} (K : hCtx C.1 C.2.2.1 d 0 0 "findsRows" C) (X : hOK C cX10_findsRows RX10 5 none) (l0 : Nat) (l1 : Int) (l2 : Int) (h1 : inI l1) (h2 : inI l2) : hSim C none 0 0 5 0 [(0, vR C.1.1 l0), (1, vI l1), (2, vI l2)] [] 0 0 (m_X10_findsRows l0 l1 l2) := by
  obtain ⟨⟨hf, hlo⟩, ⟨hc1, hc2⟩, hf1, hl1⟩ := K_room K (by omega)
  have hcs : 0 ≤ C.2.2.2.2.1.cells ∧ 0 ≤ C.2.2.2.2.1.slots := ⟨Nat.zero_le _, Nat.zero_le _⟩
  unfold m_X10_findsRows
  refine s_aload_n (j := 0) (pc2 := 1) X dX10_findsRows_0 rfl rfl ?_
  refine s_iload_n (j := 1) (pc2 := 2) X dX10_findsRows_1 rfl rfl ?_
  refine s_iconst (n := 1) (pc2 := 3) X dX10_findsRows_2 rfl ?_
  refine s_callVI (d2 := d - 1) (As := [vI l1, vI 1]) (st := []) (pc2 := 6) X dX10_findsRows_3 rfl ml_RX10_307 im_X10_personOf se_X10_personOf kX10 rfl (c_X10_personOf (d - 1) (by omega) C.1 C.2.2.1 l0 l1 1 h1 (inI_c 1 rfl)) hy_X10_personOf rfl rfl hf hlo (st_room (Nat.le_of_ble_eq_true rfl)) hcs (fun v1 hv1 => ?_)
  refine s_istore_n (pc2 := 7) X dX10_findsRows_6 rfl (by decide) rfl rfl cat1_I hv1 (fun w2 hw2 => ?_)
  refine s_iconst (n := 0) (pc2 := 8) X dX10_findsRows_7 rfl ?_
  refine s_istore (pc2 := 10) X dX10_findsRows_8 rfl (by decide) rfl rfl cat1_I (inI_c 0 rfl) (fun w3 hw3 => ?_)
  refine s_aload_n (j := 2) (pc2 := 11) X dX10_findsRows_10 rfl rfl ?_
  refine s_iconst (n := 0) (pc2 := 12) X dX10_findsRows_11 rfl ?_
  refine s_putI (pc2 := 15) X dX10_findsRows_12 rfl fl_RX10_435 (Or.inl rfl) rfl (inI_c 0 rfl) ?_
  refine s_aload_n (j := 2) (pc2 := 16) X dX10_findsRows_15 rfl rfl ?_
  refine s_iconst (n := 0) (pc2 := 17) X dX10_findsRows_16 rfl ?_
  refine s_putI (pc2 := 20) X dX10_findsRows_17 rfl fl_RX10_438 (Or.inl rfl) rfl (inI_c 0 rfl) ?_
  refine s_aload_n (j := 2) (pc2 := 21) X dX10_findsRows_20 rfl rfl ?_
  refine s_bipush (n := (-2)) (pc2 := 23) X dX10_findsRows_21 rfl rfl ?_
  refine s_putI (pc2 := 26) X dX10_findsRows_23 rfl fl_RX10_441 (Or.inl rfl) rfl (inI_c (-2) rfl) ?_
  refine s_aload_n (j := 2) (pc2 := 27) X dX10_findsRows_26 rfl rfl ?_
  refine s_getR (pc2 := 30) X dX10_findsRows_27 rfl fl_RX10_51 rfl (fun v4 => ?_)
  refine s_iconst (n := 0) (pc2 := 31) X dX10_findsRows_30 rfl ?_
  refine s_iconst (n := (-1)) (pc2 := 32) X dX10_findsRows_31 rfl ?_
  refine s_iast (pc2 := 33) X dX10_findsRows_32 rfl (inI_c (-1) rfl) ?_
  refine s_sub (lv2 := [(0, vR C.1.1 l0), (1, vI l1), (2, vI l2), (3, vI w2), (4, vI w3)]) [2, 3, 4, 1, 0] rfl ?_
  exact z_X10_findsRows_L33 d hd K X 1000000000 l0 l1 l2 w2 w3 h1 h2 hw2 hw3
theorem c_X10_findsRows (d : Nat) (hd : 4 ≤ d) (G : hG) (l : Launch) (l0 : Nat) (l1 : Int) (l2 : Int) (h1 : inI l1) (h2 : inI l2) : hMet G l yX10_findsRows cX10_findsRows 5 none d 0 0 [vR G.1 l0, vI l1, vI l2] (m_X10_findsRows l0 l1 l2) := by
  refine hMet.of (lv := [(0, vR G.1 l0), (1, vI l1), (2, vI l2)]) (by decide +kernel) (by simp [lg_sl, vR_cat, vI_cat, vL_cat, vS_cat2, vT_cat2]) (by simp [lv_args, vR_cat, vI_cat, vL_cat, vS_cat2, vT_cat2]) (fun C K X => ?_)
  obtain ⟨rfl, rfl, K⟩ := K
  exact z_X10_findsRows d hd ⟨rfl, rfl, K⟩ X l0 l1 l2 h1 h2
def m_X10_came_L20 : hM :=
  hret ((-1))
def m_X10_came_L161 (s0 : Int) : hM :=
  hret s0
def m_X10_came_L127 (s0 : Int) : hM :=
  hret s0
def m_X10_came_L27 : Nat → Nat → Int → Int → Int → Int → hM
  | 0, _, _, _, _, _ => hfail
  | n + 1, l0, l1, l2, l3, l4 =>
    hgR 10 l0 20 fun v1 =>
  haI 20 v1 2 fun v2 =>
  hif (l4 ≥ v2) (
hif (l3 ≤ 8) (
hif (l3 ≠ 0) (
hcallV 10 l0 (m_X10_findsRows l0 l1 l3) fun _ =>
  hif (l2 ≠ 0) (
hif (l2 ≠ 1) (
hgI 10 l0 36 fun v3 =>
  m_X10_came_L161 v3) (
hgI 10 l0 35 fun v4 =>
  m_X10_came_L161 v4)) (
hgI 10 l0 34 fun v5 =>
  m_X10_came_L161 v5)) (
hif (l2 ≠ 0) (
hif (l2 ≠ 1) (
m_X10_came_L127 ((-2))) (
m_X10_came_L127 0)) (
hcallV 10 l0 (m_X10_personOf l0 l1 0) fun v6 =>
  hcallV 10 l0 (m_X10_personOf l0 l1 1) fun v7 =>
  hif (v6 ≠ v7) (
m_X10_came_L127 0) (
m_X10_came_L127 1)))) (
hret ((-3)))) (
hgR 10 l0 33 fun v8 =>
  hgR 10 l0 20 fun v9 =>
  haI 20 v9 ((w32 (((w32 (58 + ((w32 (9 * l1)))))) + l4))) fun v10 =>
  hsI 20 v8 l4 v10 <|
  hgR 10 l0 33 fun v11 =>
  haI 20 v11 l4 fun v12 =>
  hlet ((w32 (l3 + v12))) fun (w13 : Int) =>
  hlet (w32 (l4 + 1)) fun (w14 : Int) =>
  m_X10_came_L27 n l0 l1 l2 w13 w14)
def m_X10_came (l0 : Nat) (l1 : Int) (l2 : Int) : hM :=
  hcallV 10 l0 (m_X10_isPerson l0 l1) fun v1 =>
  hif (v1 = 0) (
m_X10_came_L20) (
hcall (m_X10_in l2 0 2) fun v2 =>
  hif (v2 ≠ 0) (
hlet (0 : Int) fun (w3 : Int) =>
  hlet (0 : Int) fun (w4 : Int) =>
  m_X10_came_L27 1000000000 l0 l1 l2 w3 w4) (
m_X10_came_L20))
set_option maxRecDepth 4000 in
theorem z_X10_came_L20 (d : Nat) (hd : 5 ≤ d) {C : hCx} (K : hCtx C.1 C.2.2.1 d 0 0 "came" C) (X : hOK C cX10_came RX10 5 (some .int)) : hSim C (some .int) 0 0 5 20 [] [] 0 0 (m_X10_came_L20) := by
  obtain ⟨⟨hf, hlo⟩, ⟨hc1, hc2⟩, hf1, hl1⟩ := K_room K (by omega)
  have hcs : 0 ≤ C.2.2.2.2.1.cells ∧ 0 ≤ C.2.2.2.2.1.slots := ⟨Nat.zero_le _, Nat.zero_le _⟩
  unfold m_X10_came_L20
  refine s_iconst (n := (-1)) (pc2 := 21) X dX10_came_20 rfl ?_
  exact s_iret X dX10_came_21 (inI_c (-1) rfl)
set_option maxRecDepth 4000 in
theorem z_X10_came_L161 (d : Nat) (hd : 5 ≤ d) {C : hCx} (K : hCtx C.1 C.2.2.1 d 0 0 "came" C) (X : hOK C cX10_came RX10 5 (some .int)) (s0 : Int) (g0 : inI s0) : hSim C (some .int) 0 0 5 161 [] [vI s0] 0 0 (m_X10_came_L161 s0) := by
  obtain ⟨⟨hf, hlo⟩, ⟨hc1, hc2⟩, hf1, hl1⟩ := K_room K (by omega)
  have hcs : 0 ≤ C.2.2.2.2.1.cells ∧ 0 ≤ C.2.2.2.2.1.slots := ⟨Nat.zero_le _, Nat.zero_le _⟩
  unfold m_X10_came_L161
  exact s_iret X dX10_came_161 g0
set_option maxRecDepth 4000 in
theorem z_X10_came_L127 (d : Nat) (hd : 5 ≤ d) {C : hCx} (K : hCtx C.1 C.2.2.1 d 0 0 "came" C) (X : hOK C cX10_came RX10 5 (some .int)) (s0 : Int) (g0 : inI s0) : hSim C (some .int) 0 0 5 127 [] [vI s0] 0 0 (m_X10_came_L127 s0) := by
  obtain ⟨⟨hf, hlo⟩, ⟨hc1, hc2⟩, hf1, hl1⟩ := K_room K (by omega)
  have hcs : 0 ≤ C.2.2.2.2.1.cells ∧ 0 ≤ C.2.2.2.2.1.slots := ⟨Nat.zero_le _, Nat.zero_le _⟩
  unfold m_X10_came_L127
  exact s_iret X dX10_came_127 g0
set_option maxRecDepth 4000 in
theorem z_X10_came_L27 (d : Nat) (hd : 5 ≤ d) {C : hCx} (K : hCtx C.1 C.2.2.1 d 0 0 "came" C) (X : hOK C cX10_came RX10 5 (some .int)) : ∀ (n : Nat) (l0 : Nat) (l1 : Int) (l2 : Int) (l3 : Int) (l4 : Int) (h1 : inI l1) (h2 : inI l2) (h3 : inI l3) (h4 : inI l4), hSim C (some .int) 0 0 5 27 [(0, vR C.1.1 l0), (1, vI l1), (2, vI l2), (3, vI l3), (4, vI l4)] [] 0 0 (m_X10_came_L27 n l0 l1 l2 l3 l4) := by
  obtain ⟨⟨hf, hlo⟩, ⟨hc1, hc2⟩, hf1, hl1⟩ := K_room K (by omega)
  have hcs : 0 ≤ C.2.2.2.2.1.cells ∧ 0 ≤ C.2.2.2.2.1.slots := ⟨Nat.zero_le _, Nat.zero_le _⟩
  intro n
  induction n with
  | zero => intros; exact s_none (fun _ => rfl)
  | succ n ih =>
    intro l0 l1 l2 l3 l4 h1 h2 h3 h4
    unfold m_X10_came_L27
    refine s_iload (j := 4) (pc2 := 29) X dX10_came_27 rfl rfl ?_
    refine s_aload_n (j := 0) (pc2 := 30) X dX10_came_29 rfl rfl ?_
    refine s_getR (pc2 := 33) X dX10_came_30 rfl fl_RX10_39 rfl (fun v1 => ?_)
    refine s_iconst (n := 2) (pc2 := 34) X dX10_came_33 rfl ?_
    refine s_iald (pc2 := 35) X dX10_came_34 rfl (fun v2 hv2 => ?_)
    refine s_icge (tgt := 76) X dX10_came_35 (by decide) rfl h4 hv2 ?_ ?_
    · refine s_iload_n (j := 3) (pc2 := 77) X dX10_came_76 rfl rfl ?_
      refine s_bipush (n := 8) (pc2 := 79) X dX10_came_77 rfl rfl ?_
      refine s_icle (tgt := 85) X dX10_came_79 (by decide) rfl h3 (inI_c 8 rfl) ?_ ?_
      · refine s_iload_n (j := 3) (pc2 := 86) X dX10_came_85 rfl rfl ?_
        refine s_ifne (tgt := 128) X dX10_came_86 (by decide) rfl h3 ?_ ?_
        · refine s_aload_n (j := 0) (pc2 := 129) X dX10_came_128 rfl rfl ?_
          refine s_iload_n (j := 1) (pc2 := 130) X dX10_came_129 rfl rfl ?_
          refine s_iload_n (j := 3) (pc2 := 131) X dX10_came_130 rfl rfl ?_
          refine s_callVV (d2 := d - 1) (As := [vI l1, vI l3]) (st := []) (pc2 := 134) X dX10_came_131 rfl ml_RX10_447 im_X10_findsRows se_X10_findsRows kX10 rfl (c_X10_findsRows (d - 1) (by omega) C.1 C.2.2.1 l0 l1 l3 h1 h3) hy_X10_findsRows rfl rfl hf hlo (st_room (Nat.le_of_ble_eq_true rfl)) hcs (fun _ => ?_)
          refine s_iload_n (j := 2) (pc2 := 135) X dX10_came_134 rfl rfl ?_
          refine s_ifne (tgt := 145) X dX10_came_135 (by decide) rfl h2 ?_ ?_
          · refine s_iload_n (j := 2) (pc2 := 146) X dX10_came_145 rfl rfl ?_
            refine s_iconst (n := 1) (pc2 := 147) X dX10_came_146 rfl ?_
            refine s_icne (tgt := 157) X dX10_came_147 (by decide) rfl h2 (inI_c 1 rfl) ?_ ?_
            · refine s_aload_n (j := 0) (pc2 := 158) X dX10_came_157 rfl rfl ?_
              refine s_getI (pc2 := 161) X dX10_came_158 rfl fl_RX10_441 rfl (fun v3 hv3 => ?_)
              refine s_sub (lv2 := []) [] rfl ?_
              exact z_X10_came_L161 d hd K X v3 hv3
            · refine s_aload_n (j := 0) (pc2 := 151) X dX10_came_150 rfl rfl ?_
              refine s_getI (pc2 := 154) X dX10_came_151 rfl fl_RX10_438 rfl (fun v4 hv4 => ?_)
              refine s_goto (pc2 := 161) X dX10_came_154 (by decide) ?_
              refine s_sub (lv2 := []) [] rfl ?_
              exact z_X10_came_L161 d hd K X v4 hv4
          · refine s_aload_n (j := 0) (pc2 := 139) X dX10_came_138 rfl rfl ?_
            refine s_getI (pc2 := 142) X dX10_came_139 rfl fl_RX10_435 rfl (fun v5 hv5 => ?_)
            refine s_goto (pc2 := 161) X dX10_came_142 (by decide) ?_
            refine s_sub (lv2 := []) [] rfl ?_
            exact z_X10_came_L161 d hd K X v5 hv5
        · refine s_iload_n (j := 2) (pc2 := 90) X dX10_came_89 rfl rfl ?_
          refine s_ifne (tgt := 116) X dX10_came_90 (by decide) rfl h2 ?_ ?_
          · refine s_iload_n (j := 2) (pc2 := 117) X dX10_came_116 rfl rfl ?_
            refine s_iconst (n := 1) (pc2 := 118) X dX10_came_117 rfl ?_
            refine s_icne (tgt := 125) X dX10_came_118 (by decide) rfl h2 (inI_c 1 rfl) ?_ ?_
            · refine s_bipush (n := (-2)) (pc2 := 127) X dX10_came_125 rfl rfl ?_
              refine s_sub (lv2 := []) [] rfl ?_
              exact z_X10_came_L127 d hd K X ((-2)) (inI_c (-2) rfl)
            · refine s_iconst (n := 0) (pc2 := 122) X dX10_came_121 rfl ?_
              refine s_goto (pc2 := 127) X dX10_came_122 (by decide) ?_
              refine s_sub (lv2 := []) [] rfl ?_
              exact z_X10_came_L127 d hd K X 0 (inI_c 0 rfl)
          · refine s_aload_n (j := 0) (pc2 := 94) X dX10_came_93 rfl rfl ?_
            refine s_iload_n (j := 1) (pc2 := 95) X dX10_came_94 rfl rfl ?_
            refine s_iconst (n := 0) (pc2 := 96) X dX10_came_95 rfl ?_
            refine s_callVI (d2 := d - 1) (As := [vI l1, vI 0]) (st := []) (pc2 := 99) X dX10_came_96 rfl ml_RX10_307 im_X10_personOf se_X10_personOf kX10 rfl (c_X10_personOf (d - 1) (by omega) C.1 C.2.2.1 l0 l1 0 h1 (inI_c 0 rfl)) hy_X10_personOf rfl rfl hf hlo (st_room (Nat.le_of_ble_eq_true rfl)) hcs (fun v6 hv6 => ?_)
            refine s_aload_n (j := 0) (pc2 := 100) X dX10_came_99 rfl rfl ?_
            refine s_iload_n (j := 1) (pc2 := 101) X dX10_came_100 rfl rfl ?_
            refine s_iconst (n := 1) (pc2 := 102) X dX10_came_101 rfl ?_
            refine s_callVI (d2 := d - 1) (As := [vI l1, vI 1]) (st := [vI v6]) (pc2 := 105) X dX10_came_102 rfl ml_RX10_307 im_X10_personOf se_X10_personOf kX10 rfl (c_X10_personOf (d - 1) (by omega) C.1 C.2.2.1 l0 l1 1 h1 (inI_c 1 rfl)) hy_X10_personOf rfl rfl hf hlo (st_room (Nat.le_of_ble_eq_true rfl)) hcs (fun v7 hv7 => ?_)
            refine s_icne (tgt := 112) X dX10_came_105 (by decide) rfl hv6 hv7 ?_ ?_
            · refine s_iconst (n := 0) (pc2 := 113) X dX10_came_112 rfl ?_
              refine s_goto (pc2 := 127) X dX10_came_113 (by decide) ?_
              refine s_sub (lv2 := []) [] rfl ?_
              exact z_X10_came_L127 d hd K X 0 (inI_c 0 rfl)
            · refine s_iconst (n := 1) (pc2 := 109) X dX10_came_108 rfl ?_
              refine s_goto (pc2 := 127) X dX10_came_109 (by decide) ?_
              refine s_sub (lv2 := []) [] rfl ?_
              exact z_X10_came_L127 d hd K X 1 (inI_c 1 rfl)
      · refine s_bipush (n := (-3)) (pc2 := 84) X dX10_came_82 rfl rfl ?_
        exact s_iret X dX10_came_84 (inI_c (-3) rfl)
    · refine s_aload_n (j := 0) (pc2 := 39) X dX10_came_38 rfl rfl ?_
      refine s_getR (pc2 := 42) X dX10_came_39 rfl fl_RX10_63 rfl (fun v8 => ?_)
      refine s_iload (j := 4) (pc2 := 44) X dX10_came_42 rfl rfl ?_
      refine s_aload_n (j := 0) (pc2 := 45) X dX10_came_44 rfl rfl ?_
      refine s_getR (pc2 := 48) X dX10_came_45 rfl fl_RX10_39 rfl (fun v9 => ?_)
      refine s_bipush (n := 58) (pc2 := 50) X dX10_came_48 rfl rfl ?_
      refine s_bipush (n := 9) (pc2 := 52) X dX10_came_50 rfl rfl ?_
      refine s_iload_n (j := 1) (pc2 := 53) X dX10_came_52 rfl rfl ?_
      refine s_imul (pc2 := 54) X dX10_came_53 rfl ?_
      refine s_iadd (pc2 := 55) X dX10_came_54 rfl ?_
      refine s_iload (j := 4) (pc2 := 57) X dX10_came_55 rfl rfl ?_
      refine s_iadd (pc2 := 58) X dX10_came_57 rfl ?_
      refine s_iald (pc2 := 59) X dX10_came_58 rfl (fun v10 hv10 => ?_)
      refine s_iast (pc2 := 60) X dX10_came_59 rfl hv10 ?_
      refine s_iload_n (j := 3) (pc2 := 61) X dX10_came_60 rfl rfl ?_
      refine s_aload_n (j := 0) (pc2 := 62) X dX10_came_61 rfl rfl ?_
      refine s_getR (pc2 := 65) X dX10_came_62 rfl fl_RX10_63 rfl (fun v11 => ?_)
      refine s_iload (j := 4) (pc2 := 67) X dX10_came_65 rfl rfl ?_
      refine s_iald (pc2 := 68) X dX10_came_67 rfl (fun v12 hv12 => ?_)
      refine s_iadd (pc2 := 69) X dX10_came_68 rfl ?_
      refine s_istore_n (pc2 := 70) X dX10_came_69 rfl (by decide) rfl rfl cat1_I (w32_in _) (fun w13 hw13 => ?_)
      refine s_iinc (j := 4) (pc2 := 73) X dX10_came_70 rfl (by decide) rfl rfl rfl cat1_I (fun w14 hw14 => ?_)
      refine s_goto (pc2 := 27) X dX10_came_73 (by decide) ?_
      refine s_sub (lv2 := [(0, vR C.1.1 l0), (1, vI l1), (2, vI l2), (3, vI w13), (4, vI w14)]) [2, 3, 4, 1, 0] rfl ?_
      exact ih l0 l1 l2 w13 w14 h1 h2 hw13 hw14
set_option maxRecDepth 4000 in
set_option maxHeartbeats 20000000 in
theorem z_X10_came (d : Nat) (hd : 5 ≤ d) {C : hCx} (K : hCtx C.1 C.2.2.1 d 0 0 "came" C) (X : hOK C cX10_came RX10 5 (some .int)) (l0 : Nat) (l1 : Int) (l2 : Int) (h1 : inI l1) (h2 : inI l2) : hSim C (some .int) 0 0 5 0 [(0, vR C.1.1 l0), (1, vI l1), (2, vI l2)] [] 0 0 (m_X10_came l0 l1 l2) := by
  obtain ⟨⟨hf, hlo⟩, ⟨hc1, hc2⟩, hf1, hl1⟩ := K_room K (by omega)
  have hcs : 0 ≤ C.2.2.2.2.1.cells ∧ 0 ≤ C.2.2.2.2.1.slots := ⟨Nat.zero_le _, Nat.zero_le _⟩
  unfold m_X10_came
  refine s_aload_n (j := 0) (pc2 := 1) X dX10_came_0 rfl rfl ?_
  refine s_iload_n (j := 1) (pc2 := 2) X dX10_came_1 rfl rfl ?_
  refine s_callVZ (d2 := d - 1) (As := [vI l1]) (st := []) (pc2 := 5) X dX10_came_2 rfl ml_RX10_316 im_X10_isPerson se_X10_isPerson kX10 rfl (c_X10_isPerson (d - 1) (by omega) C.1 C.2.2.1 l0 l1 h1) hy_X10_isPerson rfl rfl hf hlo (st_room (Nat.le_of_ble_eq_true rfl)) hcs (fun v1 hv1 => ?_)
  refine s_ifeq (tgt := 20) X dX10_came_5 (by decide) rfl hv1 ?_ ?_
  · refine s_sub (lv2 := []) [] rfl ?_
    exact z_X10_came_L20 d hd K X
  · refine s_iload_n (j := 2) (pc2 := 9) X dX10_came_8 rfl rfl ?_
    refine s_i2l (pc2 := 10) X dX10_came_9 rfl h2 ?_
    refine s_lconst (z := 0) (pc2 := 11) X dX10_came_10 rfl rfl ?_
    refine s_ldc2 (z := 2) (pc2 := 14) X dX10_came_11 rfl kc_RX10_331 ?_
    refine s_callSZ (d2 := d - 1) (As := [vL l2, vL 0, vL 2]) (st := []) (pc2 := 17) X dX10_came_14 rfl ml_RX10_118 sm_X10_in (c_X10_in (d - 1) (by omega) C.1 C.2.2.1 l2 0 2 (inL_of h2) (inL_c 0 rfl) (inL_c 2 rfl)) hy_X10_in rfl rfl hf hlo (st_room (Nat.le_of_ble_eq_true rfl)) hcs (fun v2 hv2 => ?_)
    refine s_ifne (tgt := 22) X dX10_came_17 (by decide) rfl hv2 ?_ ?_
    · refine s_iconst (n := 0) (pc2 := 23) X dX10_came_22 rfl ?_
      refine s_istore_n (pc2 := 24) X dX10_came_23 rfl (by decide) rfl rfl cat1_I (inI_c 0 rfl) (fun w3 hw3 => ?_)
      refine s_iconst (n := 0) (pc2 := 25) X dX10_came_24 rfl ?_
      refine s_istore (pc2 := 27) X dX10_came_25 rfl (by decide) rfl rfl cat1_I (inI_c 0 rfl) (fun w4 hw4 => ?_)
      refine s_sub (lv2 := [(0, vR C.1.1 l0), (1, vI l1), (2, vI l2), (3, vI w3), (4, vI w4)]) [2, 3, 4, 1, 0] rfl ?_
      exact z_X10_came_L27 d hd K X 1000000000 l0 l1 l2 w3 w4 h1 h2 hw3 hw4
    · refine s_sub (lv2 := []) [] rfl ?_
      exact z_X10_came_L20 d hd K X
theorem c_X10_came (d : Nat) (hd : 5 ≤ d) (G : hG) (l : Launch) (l0 : Nat) (l1 : Int) (l2 : Int) (h1 : inI l1) (h2 : inI l2) : hMet G l yX10_came cX10_came 5 (some .int) d 0 0 [vR G.1 l0, vI l1, vI l2] (m_X10_came l0 l1 l2) := by
  refine hMet.of (lv := [(0, vR G.1 l0), (1, vI l1), (2, vI l2)]) (by decide +kernel) (by simp [lg_sl, vR_cat, vI_cat, vL_cat, vS_cat2, vT_cat2]) (by simp [lv_args, vR_cat, vI_cat, vL_cat, vS_cat2, vT_cat2]) (fun C K X => ?_)
  obtain ⟨rfl, rfl, K⟩ := K
  exact z_X10_came d hd ⟨rfl, rfl, K⟩ X l0 l1 l2 h1 h2
def m_X10_findsTrail_L149 (k24 : Nat → Int → Int → hM) (l0 : Nat) (l1 : Int) (l2 : Int) : hM :=
  hif (l2 ≥ 7) (
k24 l0 l1 l2) (
hlet (w32 (l2 + 1)) fun (w1 : Int) =>
  hgR 10 l0 26 fun v2 =>
  hsI 20 v2 w1 ((-1)) <|
  k24 l0 l1 w1)
def m_X10_findsTrail_L82 (k24 : Nat → Int → Int → hM) (l0 : Nat) (l1 : Int) (l2 : Int) (s0 : Nat) (s1 : Int) (s2 : Int) : hM :=
  hsI 20 s0 s1 s2 <|
  hgR 10 l0 26 fun v1 =>
  haI 20 v1 l2 fun v2 =>
  hgR 10 l0 20 fun v3 =>
  haI 20 v3 2 fun v4 =>
  hif (v2 ≠ v4) (
hgR 10 l0 26 fun v5 =>
  haI 20 v5 l2 fun v6 =>
  hcallV 10 l0 (m_X10_goesOver l0 l1 v6) fun _ =>
  hgI 10 l0 28 fun v7 =>
  hif (((w32 (l2 + 1))) ≤ v7) (
m_X10_findsTrail_L149 k24 l0 l1 l2) (
hpI 10 l0 28 ((w32 (l2 + 1))) <|
  hcallV 10 l0 (m_X10_personOf l0 l1 0) fun v8 =>
  hpI 10 l0 37 v8 <|
  m_X10_findsTrail_L149 k24 l0 l1 l2)) (
hgR 10 l0 26 fun v9 =>
  hsI 20 v9 l2 ((-1)) <|
  hlet (w32 (l2 + (-1))) fun (w10 : Int) =>
  k24 l0 l1 w10)
def m_X10_findsTrail_L48 (k24 : Nat → Int → Int → hM) (l0 : Nat) (l1 : Int) (l2 : Int) : hM :=
  hgR 10 l0 26 fun v1 =>
  hgI 10 l0 28 fun v2 =>
  hif (v2 ≠ 8) (
hgR 10 l0 26 fun v3 =>
  haI 20 v3 l2 fun v4 =>
  hcallV 10 l0 (m_X10_nextBridge l0 l1 v4) fun v5 =>
  m_X10_findsTrail_L82 k24 l0 l1 l2 v1 l2 v5) (
hgR 10 l0 20 fun v6 =>
  haI 20 v6 2 fun v7 =>
  m_X10_findsTrail_L82 k24 l0 l1 l2 v1 l2 v7)
def m_X10_findsTrail_L24 : Nat → Nat → Int → Int → hM
  | 0, _, _, _ => hfail
  | n + 1, l0, l1, l2 =>
    hif (l2 < 0) (
hret 0) (
hgR 10 l0 26 fun v1 =>
  haI 20 v1 l2 fun v2 =>
  hif (v2 < 0) (
m_X10_findsTrail_L48 (m_X10_findsTrail_L24 n) l0 l1 l2) (
hgR 10 l0 26 fun v3 =>
  haI 20 v3 l2 fun v4 =>
  hcallV 10 l0 (m_X10_goesBack l0 l1 v4) fun _ =>
  m_X10_findsTrail_L48 (m_X10_findsTrail_L24 n) l0 l1 l2))
def m_X10_findsTrail (l0 : Nat) (l1 : Int) : hM :=
  hlet (0 : Int) fun (w1 : Int) =>
  hpI 10 l0 28 0 <|
  hcallV 10 l0 (m_X10_personOf l0 l1 0) fun v2 =>
  hpI 10 l0 37 v2 <|
  hgR 10 l0 26 fun v3 =>
  hsI 20 v3 0 ((-1)) <|
  m_X10_findsTrail_L24 1000000000 l0 l1 w1
set_option maxRecDepth 4000 in
theorem z_X10_findsTrail_L149 (d : Nat) (hd : 5 ≤ d) {C : hCx} (K : hCtx C.1 C.2.2.1 d 0 0 "findsTrail" C) (X : hOK C cX10_findsTrail RX10 3 none) (k24 : Nat → Int → Int → hM) (hk24 : ∀ (l0 : Nat) (l1 : Int) (l2 : Int), inI l1 → inI l2 → hSim C none 0 0 3 24 [(0, vR C.1.1 l0), (1, vI l1), (2, vI l2)] [] 0 0 (k24 l0 l1 l2)) (l0 : Nat) (l1 : Int) (l2 : Int) (h1 : inI l1) (h2 : inI l2) : hSim C none 0 0 3 149 [(0, vR C.1.1 l0), (1, vI l1), (2, vI l2)] [] 0 0 (m_X10_findsTrail_L149 k24 l0 l1 l2) := by
  obtain ⟨⟨hf, hlo⟩, ⟨hc1, hc2⟩, hf1, hl1⟩ := K_room K (by omega)
  have hcs : 0 ≤ C.2.2.2.2.1.cells ∧ 0 ≤ C.2.2.2.2.1.slots := ⟨Nat.zero_le _, Nat.zero_le _⟩
  unfold m_X10_findsTrail_L149
  refine s_iload_n (j := 2) (pc2 := 150) X dX10_findsTrail_149 rfl rfl ?_
  refine s_bipush (n := 7) (pc2 := 152) X dX10_findsTrail_150 rfl rfl ?_
  refine s_icge (tgt := 24) X dX10_findsTrail_152 (by decide) rfl h2 (inI_c 7 rfl) ?_ ?_
  · exact hk24 l0 l1 l2 h1 h2
  · refine s_iinc (j := 2) (pc2 := 158) X dX10_findsTrail_155 rfl (by decide) rfl rfl rfl cat1_I (fun w1 hw1 => ?_)
    refine s_aload_n (j := 1) (pc2 := 159) X dX10_findsTrail_158 rfl rfl ?_
    refine s_getR (pc2 := 162) X dX10_findsTrail_159 rfl fl_RX10_51 rfl (fun v2 => ?_)
    refine s_iload_n (j := 0) (pc2 := 163) X dX10_findsTrail_162 rfl rfl ?_
    refine s_iconst (n := (-1)) (pc2 := 164) X dX10_findsTrail_163 rfl ?_
    refine s_iast (pc2 := 165) X dX10_findsTrail_164 rfl (inI_c (-1) rfl) ?_
    refine s_goto (pc2 := 24) X dX10_findsTrail_165 (by decide) ?_
    refine s_sub (lv2 := [(0, vR C.1.1 l0), (1, vI l1), (2, vI w1)]) [1, 2, 0] rfl ?_
    exact hk24 l0 l1 w1 h1 hw1
set_option maxRecDepth 4000 in
theorem z_X10_findsTrail_L82 (d : Nat) (hd : 5 ≤ d) {C : hCx} (K : hCtx C.1 C.2.2.1 d 0 0 "findsTrail" C) (X : hOK C cX10_findsTrail RX10 3 none) (k24 : Nat → Int → Int → hM) (hk24 : ∀ (l0 : Nat) (l1 : Int) (l2 : Int), inI l1 → inI l2 → hSim C none 0 0 3 24 [(0, vR C.1.1 l0), (1, vI l1), (2, vI l2)] [] 0 0 (k24 l0 l1 l2)) (l0 : Nat) (l1 : Int) (l2 : Int) (s0 : Nat) (s1 : Int) (s2 : Int) (h1 : inI l1) (h2 : inI l2) (g1 : inI s1) (g2 : inI s2) : hSim C none 0 0 3 82 [(0, vR C.1.1 l0), (1, vI l1), (2, vI l2)] [vI s2, vI s1, vR C.1.1 s0] 0 0 (m_X10_findsTrail_L82 k24 l0 l1 l2 s0 s1 s2) := by
  obtain ⟨⟨hf, hlo⟩, ⟨hc1, hc2⟩, hf1, hl1⟩ := K_room K (by omega)
  have hcs : 0 ≤ C.2.2.2.2.1.cells ∧ 0 ≤ C.2.2.2.2.1.slots := ⟨Nat.zero_le _, Nat.zero_le _⟩
  unfold m_X10_findsTrail_L82
  refine s_iast (pc2 := 83) X dX10_findsTrail_82 rfl g2 ?_
  refine s_aload_n (j := 0) (pc2 := 84) X dX10_findsTrail_83 rfl rfl ?_
  refine s_getR (pc2 := 87) X dX10_findsTrail_84 rfl fl_RX10_51 rfl (fun v1 => ?_)
  refine s_iload_n (j := 2) (pc2 := 88) X dX10_findsTrail_87 rfl rfl ?_
  refine s_iald (pc2 := 89) X dX10_findsTrail_88 rfl (fun v2 hv2 => ?_)
  refine s_aload_n (j := 0) (pc2 := 90) X dX10_findsTrail_89 rfl rfl ?_
  refine s_getR (pc2 := 93) X dX10_findsTrail_90 rfl fl_RX10_39 rfl (fun v3 => ?_)
  refine s_iconst (n := 2) (pc2 := 94) X dX10_findsTrail_93 rfl ?_
  refine s_iald (pc2 := 95) X dX10_findsTrail_94 rfl (fun v4 hv4 => ?_)
  refine s_icne (tgt := 111) X dX10_findsTrail_95 (by decide) rfl hv2 hv4 ?_ ?_
  · refine s_aload_n (j := 0) (pc2 := 112) X dX10_findsTrail_111 rfl rfl ?_
    refine s_iload_n (j := 1) (pc2 := 113) X dX10_findsTrail_112 rfl rfl ?_
    refine s_aload_n (j := 0) (pc2 := 114) X dX10_findsTrail_113 rfl rfl ?_
    refine s_getR (pc2 := 117) X dX10_findsTrail_114 rfl fl_RX10_51 rfl (fun v5 => ?_)
    refine s_iload_n (j := 2) (pc2 := 118) X dX10_findsTrail_117 rfl rfl ?_
    refine s_iald (pc2 := 119) X dX10_findsTrail_118 rfl (fun v6 hv6 => ?_)
    refine s_callVV (d2 := d - 1) (As := [vI l1, vI v6]) (st := []) (pc2 := 122) X dX10_findsTrail_119 rfl ml_RX10_400 im_X10_goesOver se_X10_goesOver kX10 rfl (c_X10_goesOver (d - 1) (by omega) C.1 C.2.2.1 l0 l1 v6 h1 hv6) hy_X10_goesOver rfl rfl hf hlo (st_room (Nat.le_of_ble_eq_true rfl)) hcs (fun _ => ?_)
    refine s_iload_n (j := 2) (pc2 := 123) X dX10_findsTrail_122 rfl rfl ?_
    refine s_iconst (n := 1) (pc2 := 124) X dX10_findsTrail_123 rfl ?_
    refine s_iadd (pc2 := 125) X dX10_findsTrail_124 rfl ?_
    refine s_aload_n (j := 0) (pc2 := 126) X dX10_findsTrail_125 rfl rfl ?_
    refine s_getI (pc2 := 129) X dX10_findsTrail_126 rfl fl_RX10_391 rfl (fun v7 hv7 => ?_)
    refine s_icle (tgt := 149) X dX10_findsTrail_129 (by decide) rfl (w32_in _) hv7 ?_ ?_
    · exact z_X10_findsTrail_L149 d hd K X k24 hk24 l0 l1 l2 h1 h2
    · refine s_aload_n (j := 0) (pc2 := 133) X dX10_findsTrail_132 rfl rfl ?_
      refine s_iload_n (j := 2) (pc2 := 134) X dX10_findsTrail_133 rfl rfl ?_
      refine s_iconst (n := 1) (pc2 := 135) X dX10_findsTrail_134 rfl ?_
      refine s_iadd (pc2 := 136) X dX10_findsTrail_135 rfl ?_
      refine s_putI (pc2 := 139) X dX10_findsTrail_136 rfl fl_RX10_391 (Or.inl rfl) rfl (w32_in _) ?_
      refine s_aload_n (j := 0) (pc2 := 140) X dX10_findsTrail_139 rfl rfl ?_
      refine s_aload_n (j := 0) (pc2 := 141) X dX10_findsTrail_140 rfl rfl ?_
      refine s_iload_n (j := 1) (pc2 := 142) X dX10_findsTrail_141 rfl rfl ?_
      refine s_iconst (n := 0) (pc2 := 143) X dX10_findsTrail_142 rfl ?_
      refine s_callVI (d2 := d - 1) (As := [vI l1, vI 0]) (st := [vR C.1.1 l0]) (pc2 := 146) X dX10_findsTrail_143 rfl ml_RX10_307 im_X10_personOf se_X10_personOf kX10 rfl (c_X10_personOf (d - 1) (by omega) C.1 C.2.2.1 l0 l1 0 h1 (inI_c 0 rfl)) hy_X10_personOf rfl rfl hf hlo (st_room (Nat.le_of_ble_eq_true rfl)) hcs (fun v8 hv8 => ?_)
      refine s_putI (pc2 := 149) X dX10_findsTrail_146 rfl fl_RX10_450 (Or.inl rfl) rfl hv8 ?_
      exact z_X10_findsTrail_L149 d hd K X k24 hk24 l0 l1 l2 h1 h2
  · refine s_aload_n (j := 0) (pc2 := 99) X dX10_findsTrail_98 rfl rfl ?_
    refine s_getR (pc2 := 102) X dX10_findsTrail_99 rfl fl_RX10_51 rfl (fun v9 => ?_)
    refine s_iload_n (j := 2) (pc2 := 103) X dX10_findsTrail_102 rfl rfl ?_
    refine s_iconst (n := (-1)) (pc2 := 104) X dX10_findsTrail_103 rfl ?_
    refine s_iast (pc2 := 105) X dX10_findsTrail_104 rfl (inI_c (-1) rfl) ?_
    refine s_iinc (j := 2) (pc2 := 108) X dX10_findsTrail_105 rfl (by decide) rfl rfl rfl cat1_I (fun w10 hw10 => ?_)
    refine s_goto (pc2 := 24) X dX10_findsTrail_108 (by decide) ?_
    refine s_sub (lv2 := [(0, vR C.1.1 l0), (1, vI l1), (2, vI w10)]) [1, 2, 0] rfl ?_
    exact hk24 l0 l1 w10 h1 hw10
set_option maxRecDepth 4000 in
theorem z_X10_findsTrail_L48 (d : Nat) (hd : 5 ≤ d) {C : hCx} (K : hCtx C.1 C.2.2.1 d 0 0 "findsTrail" C) (X : hOK C cX10_findsTrail RX10 3 none) (k24 : Nat → Int → Int → hM) (hk24 : ∀ (l0 : Nat) (l1 : Int) (l2 : Int), inI l1 → inI l2 → hSim C none 0 0 3 24 [(0, vR C.1.1 l0), (1, vI l1), (2, vI l2)] [] 0 0 (k24 l0 l1 l2)) (l0 : Nat) (l1 : Int) (l2 : Int) (h1 : inI l1) (h2 : inI l2) : hSim C none 0 0 3 48 [(0, vR C.1.1 l0), (1, vI l1), (2, vI l2)] [] 0 0 (m_X10_findsTrail_L48 k24 l0 l1 l2) := by
  obtain ⟨⟨hf, hlo⟩, ⟨hc1, hc2⟩, hf1, hl1⟩ := K_room K (by omega)
  have hcs : 0 ≤ C.2.2.2.2.1.cells ∧ 0 ≤ C.2.2.2.2.1.slots := ⟨Nat.zero_le _, Nat.zero_le _⟩
  unfold m_X10_findsTrail_L48
  refine s_aload_n (j := 0) (pc2 := 49) X dX10_findsTrail_48 rfl rfl ?_
  refine s_getR (pc2 := 52) X dX10_findsTrail_49 rfl fl_RX10_51 rfl (fun v1 => ?_)
  refine s_iload_n (j := 2) (pc2 := 53) X dX10_findsTrail_52 rfl rfl ?_
  refine s_aload_n (j := 0) (pc2 := 54) X dX10_findsTrail_53 rfl rfl ?_
  refine s_getI (pc2 := 57) X dX10_findsTrail_54 rfl fl_RX10_391 rfl (fun v2 hv2 => ?_)
  refine s_bipush (n := 8) (pc2 := 59) X dX10_findsTrail_57 rfl rfl ?_
  refine s_icne (tgt := 71) X dX10_findsTrail_59 (by decide) rfl hv2 (inI_c 8 rfl) ?_ ?_
  · refine s_aload_n (j := 0) (pc2 := 72) X dX10_findsTrail_71 rfl rfl ?_
    refine s_iload_n (j := 1) (pc2 := 73) X dX10_findsTrail_72 rfl rfl ?_
    refine s_aload_n (j := 0) (pc2 := 74) X dX10_findsTrail_73 rfl rfl ?_
    refine s_getR (pc2 := 77) X dX10_findsTrail_74 rfl fl_RX10_51 rfl (fun v3 => ?_)
    refine s_iload_n (j := 2) (pc2 := 78) X dX10_findsTrail_77 rfl rfl ?_
    refine s_iald (pc2 := 79) X dX10_findsTrail_78 rfl (fun v4 hv4 => ?_)
    refine s_callVI (d2 := d - 1) (As := [vI l1, vI v4]) (st := [vI l2, vR C.1.1 v1]) (pc2 := 82) X dX10_findsTrail_79 rfl ml_RX10_397 im_X10_nextBridge se_X10_nextBridge kX10 rfl (c_X10_nextBridge (d - 1) (by omega) C.1 C.2.2.1 l0 l1 v4 h1 hv4) hy_X10_nextBridge rfl rfl hf hlo (st_room (Nat.le_of_ble_eq_true rfl)) hcs (fun v5 hv5 => ?_)
    exact z_X10_findsTrail_L82 d hd K X k24 hk24 l0 l1 l2 v1 l2 v5 h1 h2 h2 hv5
  · refine s_aload_n (j := 0) (pc2 := 63) X dX10_findsTrail_62 rfl rfl ?_
    refine s_getR (pc2 := 66) X dX10_findsTrail_63 rfl fl_RX10_39 rfl (fun v6 => ?_)
    refine s_iconst (n := 2) (pc2 := 67) X dX10_findsTrail_66 rfl ?_
    refine s_iald (pc2 := 68) X dX10_findsTrail_67 rfl (fun v7 hv7 => ?_)
    refine s_goto (pc2 := 82) X dX10_findsTrail_68 (by decide) ?_
    exact z_X10_findsTrail_L82 d hd K X k24 hk24 l0 l1 l2 v1 l2 v7 h1 h2 h2 hv7
set_option maxRecDepth 4000 in
theorem z_X10_findsTrail_L24 (d : Nat) (hd : 5 ≤ d) {C : hCx} (K : hCtx C.1 C.2.2.1 d 0 0 "findsTrail" C) (X : hOK C cX10_findsTrail RX10 3 none) : ∀ (n : Nat) (l0 : Nat) (l1 : Int) (l2 : Int) (h1 : inI l1) (h2 : inI l2), hSim C none 0 0 3 24 [(0, vR C.1.1 l0), (1, vI l1), (2, vI l2)] [] 0 0 (m_X10_findsTrail_L24 n l0 l1 l2) := by
  obtain ⟨⟨hf, hlo⟩, ⟨hc1, hc2⟩, hf1, hl1⟩ := K_room K (by omega)
  have hcs : 0 ≤ C.2.2.2.2.1.cells ∧ 0 ≤ C.2.2.2.2.1.slots := ⟨Nat.zero_le _, Nat.zero_le _⟩
  intro n
  induction n with
  | zero => intros; exact s_none (fun _ => rfl)
  | succ n ih =>
    intro l0 l1 l2 h1 h2
    unfold m_X10_findsTrail_L24
    refine s_iload_n (j := 2) (pc2 := 25) X dX10_findsTrail_24 rfl rfl ?_
    refine s_iflt (tgt := 168) X dX10_findsTrail_25 (by decide) rfl h2 ?_ ?_
    · exact s_ret X dX10_findsTrail_168
    · refine s_aload_n (j := 0) (pc2 := 29) X dX10_findsTrail_28 rfl rfl ?_
      refine s_getR (pc2 := 32) X dX10_findsTrail_29 rfl fl_RX10_51 rfl (fun v1 => ?_)
      refine s_iload_n (j := 2) (pc2 := 33) X dX10_findsTrail_32 rfl rfl ?_
      refine s_iald (pc2 := 34) X dX10_findsTrail_33 rfl (fun v2 hv2 => ?_)
      refine s_iflt (tgt := 48) X dX10_findsTrail_34 (by decide) rfl hv2 ?_ ?_
      · exact z_X10_findsTrail_L48 d hd K X (m_X10_findsTrail_L24 n) ih l0 l1 l2 h1 h2
      · refine s_aload_n (j := 0) (pc2 := 38) X dX10_findsTrail_37 rfl rfl ?_
        refine s_iload_n (j := 1) (pc2 := 39) X dX10_findsTrail_38 rfl rfl ?_
        refine s_aload_n (j := 0) (pc2 := 40) X dX10_findsTrail_39 rfl rfl ?_
        refine s_getR (pc2 := 43) X dX10_findsTrail_40 rfl fl_RX10_51 rfl (fun v3 => ?_)
        refine s_iload_n (j := 2) (pc2 := 44) X dX10_findsTrail_43 rfl rfl ?_
        refine s_iald (pc2 := 45) X dX10_findsTrail_44 rfl (fun v4 hv4 => ?_)
        refine s_callVV (d2 := d - 1) (As := [vI l1, vI v4]) (st := []) (pc2 := 48) X dX10_findsTrail_45 rfl ml_RX10_394 im_X10_goesBack se_X10_goesBack kX10 rfl (c_X10_goesBack (d - 1) (by omega) C.1 C.2.2.1 l0 l1 v4 h1 hv4) hy_X10_goesBack rfl rfl hf hlo (st_room (Nat.le_of_ble_eq_true rfl)) hcs (fun _ => ?_)
        exact z_X10_findsTrail_L48 d hd K X (m_X10_findsTrail_L24 n) ih l0 l1 l2 h1 h2
set_option maxRecDepth 4000 in
set_option maxHeartbeats 20000000 in
theorem z_X10_findsTrail (d : Nat) (hd : 5 ≤ d) {C : hCx} (K : hCtx C.1 C.2.2.1 d 0 0 "findsTrail" C) (X : hOK C cX10_findsTrail RX10 3 none) (l0 : Nat) (l1 : Int) (h1 : inI l1) : hSim C none 0 0 3 0 [(0, vR C.1.1 l0), (1, vI l1)] [] 0 0 (m_X10_findsTrail l0 l1) := by
  obtain ⟨⟨hf, hlo⟩, ⟨hc1, hc2⟩, hf1, hl1⟩ := K_room K (by omega)
  have hcs : 0 ≤ C.2.2.2.2.1.cells ∧ 0 ≤ C.2.2.2.2.1.slots := ⟨Nat.zero_le _, Nat.zero_le _⟩
  unfold m_X10_findsTrail
  refine s_iconst (n := 0) (pc2 := 1) X dX10_findsTrail_0 rfl ?_
  refine s_istore_n (pc2 := 2) X dX10_findsTrail_1 rfl (by decide) rfl rfl cat1_I (inI_c 0 rfl) (fun w1 hw1 => ?_)
  refine s_aload_n (j := 1) (pc2 := 3) X dX10_findsTrail_2 rfl rfl ?_
  refine s_iconst (n := 0) (pc2 := 4) X dX10_findsTrail_3 rfl ?_
  refine s_putI (pc2 := 7) X dX10_findsTrail_4 rfl fl_RX10_391 (Or.inl rfl) rfl (inI_c 0 rfl) ?_
  refine s_aload_n (j := 1) (pc2 := 8) X dX10_findsTrail_7 rfl rfl ?_
  refine s_aload_n (j := 1) (pc2 := 9) X dX10_findsTrail_8 rfl rfl ?_
  refine s_iload_n (j := 2) (pc2 := 10) X dX10_findsTrail_9 rfl rfl ?_
  refine s_iconst (n := 0) (pc2 := 11) X dX10_findsTrail_10 rfl ?_
  refine s_callVI (d2 := d - 1) (As := [vI l1, vI 0]) (st := [vR C.1.1 l0]) (pc2 := 14) X dX10_findsTrail_11 rfl ml_RX10_307 im_X10_personOf se_X10_personOf kX10 rfl (c_X10_personOf (d - 1) (by omega) C.1 C.2.2.1 l0 l1 0 h1 (inI_c 0 rfl)) hy_X10_personOf rfl rfl hf hlo (st_room (Nat.le_of_ble_eq_true rfl)) hcs (fun v2 hv2 => ?_)
  refine s_putI (pc2 := 17) X dX10_findsTrail_14 rfl fl_RX10_450 (Or.inl rfl) rfl hv2 ?_
  refine s_aload_n (j := 1) (pc2 := 18) X dX10_findsTrail_17 rfl rfl ?_
  refine s_getR (pc2 := 21) X dX10_findsTrail_18 rfl fl_RX10_51 rfl (fun v3 => ?_)
  refine s_iconst (n := 0) (pc2 := 22) X dX10_findsTrail_21 rfl ?_
  refine s_iconst (n := (-1)) (pc2 := 23) X dX10_findsTrail_22 rfl ?_
  refine s_iast (pc2 := 24) X dX10_findsTrail_23 rfl (inI_c (-1) rfl) ?_
  refine s_sub (lv2 := [(0, vR C.1.1 l0), (1, vI l1), (2, vI w1)]) [1, 2, 0] rfl ?_
  exact z_X10_findsTrail_L24 d hd K X 1000000000 l0 l1 w1 h1 hw1
theorem c_X10_findsTrail (d : Nat) (hd : 5 ≤ d) (G : hG) (l : Launch) (l0 : Nat) (l1 : Int) (h1 : inI l1) : hMet G l yX10_findsTrail cX10_findsTrail 3 none d 0 0 [vR G.1 l0, vI l1] (m_X10_findsTrail l0 l1) := by
  refine hMet.of (lv := [(0, vR G.1 l0), (1, vI l1)]) (by decide +kernel) (by simp [lg_sl, vR_cat, vI_cat, vL_cat, vS_cat2, vT_cat2]) (by simp [lv_args, vR_cat, vI_cat, vL_cat, vS_cat2, vT_cat2]) (fun C K X => ?_)
  obtain ⟨rfl, rfl, K⟩ := K
  exact z_X10_findsTrail d hd ⟨rfl, rfl, K⟩ X l0 l1 h1
def m_X10_trail_L18 : hM :=
  hret ((-1))
def m_X10_trail_L40 (s0 : Int) : hM :=
  hret s0
def m_X10_trail (l0 : Nat) (l1 : Int) (l2 : Int) : hM :=
  hcallV 10 l0 (m_X10_isPerson l0 l1) fun v1 =>
  hif (v1 = 0) (
m_X10_trail_L18) (
hcall (m_X10_in l2 0 1) fun v2 =>
  hif (v2 ≠ 0) (
hcallV 10 l0 (m_X10_findsTrail l0 l1) fun _ =>
  hif (l2 ≠ 0) (
hgI 10 l0 37 fun v3 =>
  m_X10_trail_L40 v3) (
hgI 10 l0 28 fun v4 =>
  m_X10_trail_L40 v4)) (
m_X10_trail_L18))
set_option maxRecDepth 4000 in
theorem z_X10_trail_L18 (d : Nat) (hd : 6 ≤ d) {C : hCx} (K : hCtx C.1 C.2.2.1 d 0 0 "trail" C) (X : hOK C cX10_trail RX10 3 (some .int)) : hSim C (some .int) 0 0 3 18 [] [] 0 0 (m_X10_trail_L18) := by
  obtain ⟨⟨hf, hlo⟩, ⟨hc1, hc2⟩, hf1, hl1⟩ := K_room K (by omega)
  have hcs : 0 ≤ C.2.2.2.2.1.cells ∧ 0 ≤ C.2.2.2.2.1.slots := ⟨Nat.zero_le _, Nat.zero_le _⟩
  unfold m_X10_trail_L18
  refine s_iconst (n := (-1)) (pc2 := 19) X dX10_trail_18 rfl ?_
  exact s_iret X dX10_trail_19 (inI_c (-1) rfl)
set_option maxRecDepth 4000 in
theorem z_X10_trail_L40 (d : Nat) (hd : 6 ≤ d) {C : hCx} (K : hCtx C.1 C.2.2.1 d 0 0 "trail" C) (X : hOK C cX10_trail RX10 3 (some .int)) (s0 : Int) (g0 : inI s0) : hSim C (some .int) 0 0 3 40 [] [vI s0] 0 0 (m_X10_trail_L40 s0) := by
  obtain ⟨⟨hf, hlo⟩, ⟨hc1, hc2⟩, hf1, hl1⟩ := K_room K (by omega)
  have hcs : 0 ≤ C.2.2.2.2.1.cells ∧ 0 ≤ C.2.2.2.2.1.slots := ⟨Nat.zero_le _, Nat.zero_le _⟩
  unfold m_X10_trail_L40
  exact s_iret X dX10_trail_40 g0
set_option maxRecDepth 4000 in
set_option maxHeartbeats 20000000 in
theorem z_X10_trail (d : Nat) (hd : 6 ≤ d) {C : hCx} (K : hCtx C.1 C.2.2.1 d 0 0 "trail" C) (X : hOK C cX10_trail RX10 3 (some .int)) (l0 : Nat) (l1 : Int) (l2 : Int) (h1 : inI l1) (h2 : inI l2) : hSim C (some .int) 0 0 3 0 [(0, vR C.1.1 l0), (1, vI l1), (2, vI l2)] [] 0 0 (m_X10_trail l0 l1 l2) := by
  obtain ⟨⟨hf, hlo⟩, ⟨hc1, hc2⟩, hf1, hl1⟩ := K_room K (by omega)
  have hcs : 0 ≤ C.2.2.2.2.1.cells ∧ 0 ≤ C.2.2.2.2.1.slots := ⟨Nat.zero_le _, Nat.zero_le _⟩
  unfold m_X10_trail
  refine s_aload_n (j := 0) (pc2 := 1) X dX10_trail_0 rfl rfl ?_
  refine s_iload_n (j := 1) (pc2 := 2) X dX10_trail_1 rfl rfl ?_
  refine s_callVZ (d2 := d - 1) (As := [vI l1]) (st := []) (pc2 := 5) X dX10_trail_2 rfl ml_RX10_316 im_X10_isPerson se_X10_isPerson kX10 rfl (c_X10_isPerson (d - 1) (by omega) C.1 C.2.2.1 l0 l1 h1) hy_X10_isPerson rfl rfl hf hlo (st_room (Nat.le_of_ble_eq_true rfl)) hcs (fun v1 hv1 => ?_)
  refine s_ifeq (tgt := 18) X dX10_trail_5 (by decide) rfl hv1 ?_ ?_
  · refine s_sub (lv2 := []) [] rfl ?_
    exact z_X10_trail_L18 d hd K X
  · refine s_iload_n (j := 2) (pc2 := 9) X dX10_trail_8 rfl rfl ?_
    refine s_i2l (pc2 := 10) X dX10_trail_9 rfl h2 ?_
    refine s_lconst (z := 0) (pc2 := 11) X dX10_trail_10 rfl rfl ?_
    refine s_lconst (z := 1) (pc2 := 12) X dX10_trail_11 rfl rfl ?_
    refine s_callSZ (d2 := d - 1) (As := [vL l2, vL 0, vL 1]) (st := []) (pc2 := 15) X dX10_trail_12 rfl ml_RX10_118 sm_X10_in (c_X10_in (d - 1) (by omega) C.1 C.2.2.1 l2 0 1 (inL_of h2) (inL_c 0 rfl) (inL_c 1 rfl)) hy_X10_in rfl rfl hf hlo (st_room (Nat.le_of_ble_eq_true rfl)) hcs (fun v2 hv2 => ?_)
    refine s_ifne (tgt := 20) X dX10_trail_15 (by decide) rfl hv2 ?_ ?_
    · refine s_aload_n (j := 0) (pc2 := 21) X dX10_trail_20 rfl rfl ?_
      refine s_iload_n (j := 1) (pc2 := 22) X dX10_trail_21 rfl rfl ?_
      refine s_callVV (d2 := d - 1) (As := [vI l1]) (st := []) (pc2 := 25) X dX10_trail_22 rfl ml_RX10_453 im_X10_findsTrail se_X10_findsTrail kX10 rfl (c_X10_findsTrail (d - 1) (by omega) C.1 C.2.2.1 l0 l1 h1) hy_X10_findsTrail rfl rfl hf hlo (st_room (Nat.le_of_ble_eq_true rfl)) hcs (fun _ => ?_)
      refine s_iload_n (j := 2) (pc2 := 26) X dX10_trail_25 rfl rfl ?_
      refine s_ifne (tgt := 36) X dX10_trail_26 (by decide) rfl h2 ?_ ?_
      · refine s_aload_n (j := 0) (pc2 := 37) X dX10_trail_36 rfl rfl ?_
        refine s_getI (pc2 := 40) X dX10_trail_37 rfl fl_RX10_450 rfl (fun v3 hv3 => ?_)
        refine s_sub (lv2 := []) [] rfl ?_
        exact z_X10_trail_L40 d hd K X v3 hv3
      · refine s_aload_n (j := 0) (pc2 := 30) X dX10_trail_29 rfl rfl ?_
        refine s_getI (pc2 := 33) X dX10_trail_30 rfl fl_RX10_391 rfl (fun v4 hv4 => ?_)
        refine s_goto (pc2 := 40) X dX10_trail_33 (by decide) ?_
        refine s_sub (lv2 := []) [] rfl ?_
        exact z_X10_trail_L40 d hd K X v4 hv4
    · refine s_sub (lv2 := []) [] rfl ?_
      exact z_X10_trail_L18 d hd K X
theorem c_X10_trail (d : Nat) (hd : 6 ≤ d) (G : hG) (l : Launch) (l0 : Nat) (l1 : Int) (l2 : Int) (h1 : inI l1) (h2 : inI l2) : hMet G l yX10_trail cX10_trail 3 (some .int) d 0 0 [vR G.1 l0, vI l1, vI l2] (m_X10_trail l0 l1 l2) := by
  refine hMet.of (lv := [(0, vR G.1 l0), (1, vI l1), (2, vI l2)]) (by decide +kernel) (by simp [lg_sl, vR_cat, vI_cat, vL_cat, vS_cat2, vT_cat2]) (by simp [lv_args, vR_cat, vI_cat, vL_cat, vS_cat2, vT_cat2]) (fun C K X => ?_)
  obtain ⟨rfl, rfl, K⟩ := K
  exact z_X10_trail d hd ⟨rfl, rfl, K⟩ X l0 l1 l2 h1 h2
def m_X10_seed (l0 : Nat) (l1 : Int) : hM :=
  hif (l1 ≥ 0) (
hgI 10 l0 21 fun v1 =>
  hlet v1 fun (w2 : Int) =>
  hpI 10 l0 21 l1 <|
  hret w2) (
hret ((-1)))
set_option maxRecDepth 4000 in
set_option maxHeartbeats 20000000 in
theorem z_X10_seed (d : Nat) (hd : 1 ≤ d) {C : hCx} (K : hCtx C.1 C.2.2.1 d 0 0 "seed" C) (X : hOK C cX10_seed RX10 3 (some .int)) (l0 : Nat) (l1 : Int) (h1 : inI l1) : hSim C (some .int) 0 0 3 0 [(0, vR C.1.1 l0), (1, vI l1)] [] 0 0 (m_X10_seed l0 l1) := by
  obtain ⟨⟨hf, hlo⟩, ⟨hc1, hc2⟩, hf1, hl1⟩ := K_room K (by omega)
  have hcs : 0 ≤ C.2.2.2.2.1.cells ∧ 0 ≤ C.2.2.2.2.1.slots := ⟨Nat.zero_le _, Nat.zero_le _⟩
  unfold m_X10_seed
  refine s_iload_n (j := 1) (pc2 := 1) X dX10_seed_0 rfl rfl ?_
  refine s_ifge (tgt := 6) X dX10_seed_1 (by decide) rfl h1 ?_ ?_
  · refine s_aload_n (j := 0) (pc2 := 7) X dX10_seed_6 rfl rfl ?_
    refine s_getI (pc2 := 10) X dX10_seed_7 rfl fl_RX10_456 rfl (fun v1 hv1 => ?_)
    refine s_istore_n (pc2 := 11) X dX10_seed_10 rfl (by decide) rfl rfl cat1_I hv1 (fun w2 hw2 => ?_)
    refine s_aload_n (j := 1) (pc2 := 12) X dX10_seed_11 rfl rfl ?_
    refine s_iload_n (j := 2) (pc2 := 13) X dX10_seed_12 rfl rfl ?_
    refine s_putI (pc2 := 16) X dX10_seed_13 rfl fl_RX10_456 (Or.inl rfl) rfl h1 ?_
    refine s_iload_n (j := 0) (pc2 := 17) X dX10_seed_16 rfl rfl ?_
    exact s_iret X dX10_seed_17 hw2
  · refine s_iconst (n := (-1)) (pc2 := 5) X dX10_seed_4 rfl ?_
    exact s_iret X dX10_seed_5 (inI_c (-1) rfl)
theorem c_X10_seed (d : Nat) (hd : 1 ≤ d) (G : hG) (l : Launch) (l0 : Nat) (l1 : Int) (h1 : inI l1) : hMet G l yX10_seed cX10_seed 3 (some .int) d 0 0 [vR G.1 l0, vI l1] (m_X10_seed l0 l1) := by
  refine hMet.of (lv := [(0, vR G.1 l0), (1, vI l1)]) (by decide +kernel) (by simp [lg_sl, vR_cat, vI_cat, vL_cat, vS_cat2, vT_cat2]) (by simp [lv_args, vR_cat, vI_cat, vL_cat, vS_cat2, vT_cat2]) (fun C K X => ?_)
  obtain ⟨rfl, rfl, K⟩ := K
  exact z_X10_seed d hd ⟨rfl, rfl, K⟩ X l0 l1 h1
def m_X10_draw (l0 : Nat) (l1 : Int) : hM :=
  hgI 10 l0 39 fun v1 =>
  hnz 2147483648 <|
  hpI 10 l0 39 ((lremZ ((w64 (((w64 (v1 * 1103515245))) + 12345))) 2147483648)) <|
  hgI 10 l0 39 fun v2 =>
  hnz 65536 <|
  hnz l1 <|
  hret ((w32 ((lremZ ((ldivZ v2 65536)) l1))))
set_option maxRecDepth 4000 in
set_option maxHeartbeats 20000000 in
theorem z_X10_draw (d : Nat) (hd : 1 ≤ d) {C : hCx} (K : hCtx C.1 C.2.2.1 d 0 0 "draw" C) (X : hOK C cX10_draw RX10 2 (some .int)) (l0 : Nat) (l1 : Int) (h1 : inI l1) : hSim C (some .int) 0 0 2 0 [(0, vR C.1.1 l0), (1, vI l1)] [] 0 0 (m_X10_draw l0 l1) := by
  obtain ⟨⟨hf, hlo⟩, ⟨hc1, hc2⟩, hf1, hl1⟩ := K_room K (by omega)
  have hcs : 0 ≤ C.2.2.2.2.1.cells ∧ 0 ≤ C.2.2.2.2.1.slots := ⟨Nat.zero_le _, Nat.zero_le _⟩
  unfold m_X10_draw
  refine s_aload_n (j := 0) (pc2 := 1) X dX10_draw_0 rfl rfl ?_
  refine s_aload_n (j := 0) (pc2 := 2) X dX10_draw_1 rfl rfl ?_
  refine s_getL (pc2 := 5) X dX10_draw_2 rfl fl_RX10_459 rfl (fun v1 hv1 => ?_)
  refine s_ldc2 (z := 1103515245) (pc2 := 8) X dX10_draw_5 rfl kc_RX10_463 ?_
  refine s_lmul (pc2 := 9) X dX10_draw_8 rfl ?_
  refine s_ldc2 (z := 12345) (pc2 := 12) X dX10_draw_9 rfl kc_RX10_465 ?_
  refine s_ladd (pc2 := 13) X dX10_draw_12 rfl ?_
  refine s_ldc2 (z := 2147483648) (pc2 := 16) X dX10_draw_13 rfl kc_RX10_467 ?_
  refine s_lrem (pc2 := 17) X dX10_draw_16 rfl (w64_in _) (inL_c 2147483648 rfl) ?_
  refine s_putL (pc2 := 20) X dX10_draw_17 rfl fl_RX10_459 (Or.inl rfl) rfl (lremZ_in (w64_in _) (inL_c 2147483648 rfl)) ?_
  refine s_aload_n (j := 0) (pc2 := 21) X dX10_draw_20 rfl rfl ?_
  refine s_getL (pc2 := 24) X dX10_draw_21 rfl fl_RX10_459 rfl (fun v2 hv2 => ?_)
  refine s_ldc2 (z := 65536) (pc2 := 27) X dX10_draw_24 rfl kc_RX10_469 ?_
  refine s_ldiv (pc2 := 28) X dX10_draw_27 rfl hv2 (inL_c 65536 rfl) ?_
  refine s_iload_n (j := 1) (pc2 := 29) X dX10_draw_28 rfl rfl ?_
  refine s_i2l (pc2 := 30) X dX10_draw_29 rfl h1 ?_
  refine s_lrem (pc2 := 31) X dX10_draw_30 rfl (ldivZ_in _ _) (inL_of h1) ?_
  refine s_l2i (pc2 := 32) X dX10_draw_31 rfl (lremZ_in (ldivZ_in _ _) (inL_of h1)) ?_
  exact s_iret X dX10_draw_32 (w32_in _)
theorem c_X10_draw (d : Nat) (hd : 1 ≤ d) (G : hG) (l : Launch) (l0 : Nat) (l1 : Int) (h1 : inI l1) : hMet G l yX10_draw cX10_draw 2 (some .int) d 0 0 [vR G.1 l0, vI l1] (m_X10_draw l0 l1) := by
  refine hMet.of (lv := [(0, vR G.1 l0), (1, vI l1)]) (by decide +kernel) (by simp [lg_sl, vR_cat, vI_cat, vL_cat, vS_cat2, vT_cat2]) (by simp [lv_args, vR_cat, vI_cat, vL_cat, vS_cat2, vT_cat2]) (fun C K X => ?_)
  obtain ⟨rfl, rfl, K⟩ := K
  exact z_X10_draw d hd ⟨rfl, rfl, K⟩ X l0 l1 h1
def m_X10_lives_L41 : hM :=
  hret ((-1))
def m_X10_lives_L238 (s0 : Int) : hM :=
  hret s0
def m_X10_lives_L194 (k91 : Nat → Int → Int → Int → Int → Int → Int → hM) : Nat → Nat → Int → Int → Int → Int → Int → Int → Int → hM
  | 0, _, _, _, _, _, _, _, _ => hfail
  | n + 1, l0, l1, l2, l3, l4, l5, l6, l7 =>
    hif (l7 ≥ 94) (
hlet (w32 (l6 + 1)) fun (w1 : Int) =>
  k91 l0 l1 l2 l3 l4 l5 w1) (
hgR 10 l0 20 fun v2 =>
  hgR 10 l0 38 fun v3 =>
  haI 20 v3 l7 fun v4 =>
  hsI 20 v2 l7 v4 <|
  hlet (w32 (l7 + 1)) fun (w5 : Int) =>
  m_X10_lives_L194 k91 n l0 l1 l2 l3 l4 l5 l6 w5)
def m_X10_lives_L170 (k91 : Nat → Int → Int → Int → Int → Int → Int → hM) (k100 : Nat → Int → Int → Int → Int → Int → Int → Int → hM) (k109 : Nat → Int → Int → Int → Int → Int → Int → Int → Int → hM) (l0 : Nat) (l1 : Int) (l2 : Int) (l3 : Int) (l4 : Int) (l5 : Int) (l6 : Int) (l7 : Int) (l8 : Int) : hM :=
  hlet (w32 (l8 + 1)) fun (w1 : Int) =>
  k109 l0 l1 l2 l3 l4 l5 l6 l7 w1
def m_X10_lives_L109 (k91 : Nat → Int → Int → Int → Int → Int → Int → hM) (k100 : Nat → Int → Int → Int → Int → Int → Int → Int → hM) : Nat → Nat → Int → Int → Int → Int → Int → Int → Int → Int → hM
  | 0, _, _, _, _, _, _, _, _, _ => hfail
  | n + 1, l0, l1, l2, l3, l4, l5, l6, l7, l8 =>
    hgR 10 l0 20 fun v1 =>
  haI 20 v1 4 fun v2 =>
  hif (l8 ≥ v2) (
hcallV 10 l0 (m_X10_passes l0) fun v3 =>
  hlet ((w32 (l5 + v3))) fun (w4 : Int) =>
  hlet (w32 (l7 + 1)) fun (w5 : Int) =>
  k100 l0 l1 l2 l3 l4 w4 l6 w5) (
hgR 10 l0 20 fun v6 =>
  haI 20 v6 2 fun v7 =>
  hcallV 10 l0 (m_X10_draw l0 ((w32 (v7 + 1)))) fun v8 =>
  hlet v8 fun (w9 : Int) =>
  hgR 10 l0 20 fun v10 =>
  haI 20 v10 2 fun v11 =>
  hif (w9 = v11) (
m_X10_lives_L170 k91 k100 (m_X10_lives_L109 k91 k100 n) l0 l1 l2 l3 l4 l5 l6 l7 l8) (
hcallV 10 l0 (m_X10_canCross l0 l8 w9) fun v12 =>
  hif (v12 ≠ 0) (
hcallV 10 l0 (m_X10_crosses l0 l8 w9) fun _ =>
  hlet (w32 (l4 + 1)) fun (w13 : Int) =>
  m_X10_lives_L170 k91 k100 (m_X10_lives_L109 k91 k100 n) l0 l1 l2 l3 w13 l5 l6 l7 l8) (
m_X10_lives_L170 k91 k100 (m_X10_lives_L109 k91 k100 n) l0 l1 l2 l3 l4 l5 l6 l7 l8)))
def m_X10_lives_L100 (k91 : Nat → Int → Int → Int → Int → Int → Int → hM) : Nat → Nat → Int → Int → Int → Int → Int → Int → Int → hM
  | 0, _, _, _, _, _, _, _, _ => hfail
  | n + 1, l0, l1, l2, l3, l4, l5, l6, l7 =>
    hif (l7 ≥ l2) (
hlet (0 : Int) fun (w1 : Int) =>
  m_X10_lives_L194 k91 1000000000 l0 l1 l2 l3 l4 l5 l6 w1) (
hlet (0 : Int) fun (w2 : Int) =>
  m_X10_lives_L109 k91 (m_X10_lives_L100 k91 n) 1000000000 l0 l1 l2 l3 l4 l5 l6 l7 w2)
def m_X10_lives_L91 : Nat → Nat → Int → Int → Int → Int → Int → Int → hM
  | 0, _, _, _, _, _, _, _ => hfail
  | n + 1, l0, l1, l2, l3, l4, l5, l6 =>
    hif (l6 ≥ l1) (
hif (l3 ≠ 0) (
m_X10_lives_L238 l5) (
m_X10_lives_L238 l4)) (
hlet (0 : Int) fun (w1 : Int) =>
  m_X10_lives_L100 (m_X10_lives_L91 n) 1000000000 l0 l1 l2 l3 l4 l5 l6 w1)
def m_X10_lives_L61 : Nat → Nat → Int → Int → Int → Int → Int → Int → hM
  | 0, _, _, _, _, _, _, _ => hfail
  | n + 1, l0, l1, l2, l3, l4, l5, l6 =>
    hif (l6 ≥ 94) (
hlet (0 : Int) fun (w1 : Int) =>
  m_X10_lives_L91 1000000000 l0 l1 l2 l3 l4 l5 w1) (
hgR 10 l0 38 fun v2 =>
  hgR 10 l0 20 fun v3 =>
  haI 20 v3 l6 fun v4 =>
  hsI 20 v2 l6 v4 <|
  hlet (w32 (l6 + 1)) fun (w5 : Int) =>
  m_X10_lives_L61 n l0 l1 l2 l3 l4 l5 w5)
def m_X10_lives (l0 : Nat) (l1 : Int) (l2 : Int) (l3 : Int) : hM :=
  hcallV 10 l0 (m_X10_isTown l0) fun v1 =>
  hif (v1 = 0) (
m_X10_lives_L41) (
hcall (m_X10_in l1 1 10) fun v2 =>
  hif (v2 = 0) (
m_X10_lives_L41) (
hcall (m_X10_in l2 1 60) fun v3 =>
  hif (v3 = 0) (
m_X10_lives_L41) (
hcall (m_X10_in l3 0 1) fun v4 =>
  hif (v4 ≠ 0) (
hgI 10 l0 21 fun v5 =>
  hpI 10 l0 39 v5 <|
  hlet (0 : Int) fun (w6 : Int) =>
  hlet (0 : Int) fun (w7 : Int) =>
  hlet (0 : Int) fun (w8 : Int) =>
  m_X10_lives_L61 1000000000 l0 l1 l2 l3 w6 w7 w8) (
m_X10_lives_L41))))
set_option maxRecDepth 4000 in
theorem z_X10_lives_L41 (d : Nat) (hd : 4 ≤ d) {C : hCx} (K : hCtx C.1 C.2.2.1 d 0 0 "lives" C) (X : hOK C cX10_lives RX10 10 (some .int)) : hSim C (some .int) 0 0 10 41 [] [] 0 0 (m_X10_lives_L41) := by
  obtain ⟨⟨hf, hlo⟩, ⟨hc1, hc2⟩, hf1, hl1⟩ := K_room K (by omega)
  have hcs : 0 ≤ C.2.2.2.2.1.cells ∧ 0 ≤ C.2.2.2.2.1.slots := ⟨Nat.zero_le _, Nat.zero_le _⟩
  unfold m_X10_lives_L41
  refine s_iconst (n := (-1)) (pc2 := 42) X dX10_lives_41 rfl ?_
  exact s_iret X dX10_lives_42 (inI_c (-1) rfl)
set_option maxRecDepth 4000 in
theorem z_X10_lives_L238 (d : Nat) (hd : 4 ≤ d) {C : hCx} (K : hCtx C.1 C.2.2.1 d 0 0 "lives" C) (X : hOK C cX10_lives RX10 10 (some .int)) (s0 : Int) (g0 : inI s0) : hSim C (some .int) 0 0 10 238 [] [vI s0] 0 0 (m_X10_lives_L238 s0) := by
  obtain ⟨⟨hf, hlo⟩, ⟨hc1, hc2⟩, hf1, hl1⟩ := K_room K (by omega)
  have hcs : 0 ≤ C.2.2.2.2.1.cells ∧ 0 ≤ C.2.2.2.2.1.slots := ⟨Nat.zero_le _, Nat.zero_le _⟩
  unfold m_X10_lives_L238
  exact s_iret X dX10_lives_238 g0
set_option maxRecDepth 4000 in
theorem z_X10_lives_L194 (d : Nat) (hd : 4 ≤ d) {C : hCx} (K : hCtx C.1 C.2.2.1 d 0 0 "lives" C) (X : hOK C cX10_lives RX10 10 (some .int)) (k91 : Nat → Int → Int → Int → Int → Int → Int → hM) (hk91 : ∀ (l0 : Nat) (l1 : Int) (l2 : Int) (l3 : Int) (l4 : Int) (l5 : Int) (l6 : Int), inI l1 → inI l2 → inI l3 → inI l4 → inI l5 → inI l6 → hSim C (some .int) 0 0 10 91 [(0, vR C.1.1 l0), (1, vI l1), (2, vI l2), (3, vI l3), (4, vI l4), (5, vI l5), (6, vI l6)] [] 0 0 (k91 l0 l1 l2 l3 l4 l5 l6)) : ∀ (n : Nat) (l0 : Nat) (l1 : Int) (l2 : Int) (l3 : Int) (l4 : Int) (l5 : Int) (l6 : Int) (l7 : Int) (h1 : inI l1) (h2 : inI l2) (h3 : inI l3) (h4 : inI l4) (h5 : inI l5) (h6 : inI l6) (h7 : inI l7), hSim C (some .int) 0 0 10 194 [(0, vR C.1.1 l0), (1, vI l1), (2, vI l2), (3, vI l3), (4, vI l4), (5, vI l5), (6, vI l6), (7, vI l7)] [] 0 0 (m_X10_lives_L194 k91 n l0 l1 l2 l3 l4 l5 l6 l7) := by
  obtain ⟨⟨hf, hlo⟩, ⟨hc1, hc2⟩, hf1, hl1⟩ := K_room K (by omega)
  have hcs : 0 ≤ C.2.2.2.2.1.cells ∧ 0 ≤ C.2.2.2.2.1.slots := ⟨Nat.zero_le _, Nat.zero_le _⟩
  intro n
  induction n with
  | zero => intros; exact s_none (fun _ => rfl)
  | succ n ih =>
    intro l0 l1 l2 l3 l4 l5 l6 l7 h1 h2 h3 h4 h5 h6 h7
    unfold m_X10_lives_L194
    refine s_iload (j := 7) (pc2 := 196) X dX10_lives_194 rfl rfl ?_
    refine s_bipush (n := 94) (pc2 := 198) X dX10_lives_196 rfl rfl ?_
    refine s_icge (tgt := 221) X dX10_lives_198 (by decide) rfl h7 (inI_c 94 rfl) ?_ ?_
    · refine s_iinc (j := 6) (pc2 := 224) X dX10_lives_221 rfl (by decide) rfl rfl rfl cat1_I (fun w1 hw1 => ?_)
      refine s_goto (pc2 := 91) X dX10_lives_224 (by decide) ?_
      refine s_sub (lv2 := [(0, vR C.1.1 l0), (1, vI l1), (2, vI l2), (3, vI l3), (4, vI l4), (5, vI l5), (6, vI w1)]) [1, 2, 3, 4, 5, 6, 0] rfl ?_
      exact hk91 l0 l1 l2 l3 l4 l5 w1 h1 h2 h3 h4 h5 hw1
    · refine s_aload_n (j := 0) (pc2 := 202) X dX10_lives_201 rfl rfl ?_
      refine s_getR (pc2 := 205) X dX10_lives_202 rfl fl_RX10_39 rfl (fun v2 => ?_)
      refine s_iload (j := 7) (pc2 := 207) X dX10_lives_205 rfl rfl ?_
      refine s_aload_n (j := 0) (pc2 := 208) X dX10_lives_207 rfl rfl ?_
      refine s_getR (pc2 := 211) X dX10_lives_208 rfl fl_RX10_66 rfl (fun v3 => ?_)
      refine s_iload (j := 7) (pc2 := 213) X dX10_lives_211 rfl rfl ?_
      refine s_iald (pc2 := 214) X dX10_lives_213 rfl (fun v4 hv4 => ?_)
      refine s_iast (pc2 := 215) X dX10_lives_214 rfl hv4 ?_
      refine s_iinc (j := 7) (pc2 := 218) X dX10_lives_215 rfl (by decide) rfl rfl rfl cat1_I (fun w5 hw5 => ?_)
      refine s_goto (pc2 := 194) X dX10_lives_218 (by decide) ?_
      refine s_sub (lv2 := [(0, vR C.1.1 l0), (1, vI l1), (2, vI l2), (3, vI l3), (4, vI l4), (5, vI l5), (6, vI l6), (7, vI w5)]) [1, 2, 3, 4, 5, 6, 7, 0] rfl ?_
      exact ih l0 l1 l2 l3 l4 l5 l6 w5 h1 h2 h3 h4 h5 h6 hw5
set_option maxRecDepth 4000 in
theorem z_X10_lives_L170 (d : Nat) (hd : 4 ≤ d) {C : hCx} (K : hCtx C.1 C.2.2.1 d 0 0 "lives" C) (X : hOK C cX10_lives RX10 10 (some .int)) (k91 : Nat → Int → Int → Int → Int → Int → Int → hM) (hk91 : ∀ (l0 : Nat) (l1 : Int) (l2 : Int) (l3 : Int) (l4 : Int) (l5 : Int) (l6 : Int), inI l1 → inI l2 → inI l3 → inI l4 → inI l5 → inI l6 → hSim C (some .int) 0 0 10 91 [(0, vR C.1.1 l0), (1, vI l1), (2, vI l2), (3, vI l3), (4, vI l4), (5, vI l5), (6, vI l6)] [] 0 0 (k91 l0 l1 l2 l3 l4 l5 l6)) (k100 : Nat → Int → Int → Int → Int → Int → Int → Int → hM) (hk100 : ∀ (l0 : Nat) (l1 : Int) (l2 : Int) (l3 : Int) (l4 : Int) (l5 : Int) (l6 : Int) (l7 : Int), inI l1 → inI l2 → inI l3 → inI l4 → inI l5 → inI l6 → inI l7 → hSim C (some .int) 0 0 10 100 [(0, vR C.1.1 l0), (1, vI l1), (2, vI l2), (3, vI l3), (4, vI l4), (5, vI l5), (6, vI l6), (7, vI l7)] [] 0 0 (k100 l0 l1 l2 l3 l4 l5 l6 l7)) (k109 : Nat → Int → Int → Int → Int → Int → Int → Int → Int → hM) (hk109 : ∀ (l0 : Nat) (l1 : Int) (l2 : Int) (l3 : Int) (l4 : Int) (l5 : Int) (l6 : Int) (l7 : Int) (l8 : Int), inI l1 → inI l2 → inI l3 → inI l4 → inI l5 → inI l6 → inI l7 → inI l8 → hSim C (some .int) 0 0 10 109 [(0, vR C.1.1 l0), (1, vI l1), (2, vI l2), (3, vI l3), (4, vI l4), (5, vI l5), (6, vI l6), (7, vI l7), (8, vI l8)] [] 0 0 (k109 l0 l1 l2 l3 l4 l5 l6 l7 l8)) (l0 : Nat) (l1 : Int) (l2 : Int) (l3 : Int) (l4 : Int) (l5 : Int) (l6 : Int) (l7 : Int) (l8 : Int) (h1 : inI l1) (h2 : inI l2) (h3 : inI l3) (h4 : inI l4) (h5 : inI l5) (h6 : inI l6) (h7 : inI l7) (h8 : inI l8) : hSim C (some .int) 0 0 10 170 [(0, vR C.1.1 l0), (1, vI l1), (2, vI l2), (3, vI l3), (4, vI l4), (5, vI l5), (6, vI l6), (7, vI l7), (8, vI l8)] [] 0 0 (m_X10_lives_L170 k91 k100 k109 l0 l1 l2 l3 l4 l5 l6 l7 l8) := by
  obtain ⟨⟨hf, hlo⟩, ⟨hc1, hc2⟩, hf1, hl1⟩ := K_room K (by omega)
  have hcs : 0 ≤ C.2.2.2.2.1.cells ∧ 0 ≤ C.2.2.2.2.1.slots := ⟨Nat.zero_le _, Nat.zero_le _⟩
  unfold m_X10_lives_L170
  refine s_iinc (j := 8) (pc2 := 173) X dX10_lives_170 rfl (by decide) rfl rfl rfl cat1_I (fun w1 hw1 => ?_)
  refine s_goto (pc2 := 109) X dX10_lives_173 (by decide) ?_
  refine s_sub (lv2 := [(0, vR C.1.1 l0), (1, vI l1), (2, vI l2), (3, vI l3), (4, vI l4), (5, vI l5), (6, vI l6), (7, vI l7), (8, vI w1)]) [1, 2, 3, 4, 5, 6, 7, 8, 0] rfl ?_
  exact hk109 l0 l1 l2 l3 l4 l5 l6 l7 w1 h1 h2 h3 h4 h5 h6 h7 hw1
set_option maxRecDepth 4000 in
theorem z_X10_lives_L109 (d : Nat) (hd : 4 ≤ d) {C : hCx} (K : hCtx C.1 C.2.2.1 d 0 0 "lives" C) (X : hOK C cX10_lives RX10 10 (some .int)) (k91 : Nat → Int → Int → Int → Int → Int → Int → hM) (hk91 : ∀ (l0 : Nat) (l1 : Int) (l2 : Int) (l3 : Int) (l4 : Int) (l5 : Int) (l6 : Int), inI l1 → inI l2 → inI l3 → inI l4 → inI l5 → inI l6 → hSim C (some .int) 0 0 10 91 [(0, vR C.1.1 l0), (1, vI l1), (2, vI l2), (3, vI l3), (4, vI l4), (5, vI l5), (6, vI l6)] [] 0 0 (k91 l0 l1 l2 l3 l4 l5 l6)) (k100 : Nat → Int → Int → Int → Int → Int → Int → Int → hM) (hk100 : ∀ (l0 : Nat) (l1 : Int) (l2 : Int) (l3 : Int) (l4 : Int) (l5 : Int) (l6 : Int) (l7 : Int), inI l1 → inI l2 → inI l3 → inI l4 → inI l5 → inI l6 → inI l7 → hSim C (some .int) 0 0 10 100 [(0, vR C.1.1 l0), (1, vI l1), (2, vI l2), (3, vI l3), (4, vI l4), (5, vI l5), (6, vI l6), (7, vI l7)] [] 0 0 (k100 l0 l1 l2 l3 l4 l5 l6 l7)) : ∀ (n : Nat) (l0 : Nat) (l1 : Int) (l2 : Int) (l3 : Int) (l4 : Int) (l5 : Int) (l6 : Int) (l7 : Int) (l8 : Int) (h1 : inI l1) (h2 : inI l2) (h3 : inI l3) (h4 : inI l4) (h5 : inI l5) (h6 : inI l6) (h7 : inI l7) (h8 : inI l8), hSim C (some .int) 0 0 10 109 [(0, vR C.1.1 l0), (1, vI l1), (2, vI l2), (3, vI l3), (4, vI l4), (5, vI l5), (6, vI l6), (7, vI l7), (8, vI l8)] [] 0 0 (m_X10_lives_L109 k91 k100 n l0 l1 l2 l3 l4 l5 l6 l7 l8) := by
  obtain ⟨⟨hf, hlo⟩, ⟨hc1, hc2⟩, hf1, hl1⟩ := K_room K (by omega)
  have hcs : 0 ≤ C.2.2.2.2.1.cells ∧ 0 ≤ C.2.2.2.2.1.slots := ⟨Nat.zero_le _, Nat.zero_le _⟩
  intro n
  induction n with
  | zero => intros; exact s_none (fun _ => rfl)
  | succ n ih =>
    intro l0 l1 l2 l3 l4 l5 l6 l7 l8 h1 h2 h3 h4 h5 h6 h7 h8
    unfold m_X10_lives_L109
    refine s_iload (j := 8) (pc2 := 111) X dX10_lives_109 rfl rfl ?_
    refine s_aload_n (j := 0) (pc2 := 112) X dX10_lives_111 rfl rfl ?_
    refine s_getR (pc2 := 115) X dX10_lives_112 rfl fl_RX10_39 rfl (fun v1 => ?_)
    refine s_iconst (n := 4) (pc2 := 116) X dX10_lives_115 rfl ?_
    refine s_iald (pc2 := 117) X dX10_lives_116 rfl (fun v2 hv2 => ?_)
    refine s_icge (tgt := 176) X dX10_lives_117 (by decide) rfl h8 hv2 ?_ ?_
    · refine s_iload (j := 5) (pc2 := 178) X dX10_lives_176 rfl rfl ?_
      refine s_aload_n (j := 0) (pc2 := 179) X dX10_lives_178 rfl rfl ?_
      refine s_callVI (d2 := d - 1) (As := []) (st := [vI l5]) (pc2 := 182) X dX10_lives_179 rfl ml_RX10_361 im_X10_passes se_X10_passes kX10 rfl (c_X10_passes (d - 1) (by omega) C.1 C.2.2.1 l0) hy_X10_passes rfl rfl hf hlo (st_room (Nat.le_of_ble_eq_true rfl)) hcs (fun v3 hv3 => ?_)
      refine s_iadd (pc2 := 183) X dX10_lives_182 rfl ?_
      refine s_istore (pc2 := 185) X dX10_lives_183 rfl (by decide) rfl rfl cat1_I (w32_in _) (fun w4 hw4 => ?_)
      refine s_iinc (j := 7) (pc2 := 188) X dX10_lives_185 rfl (by decide) rfl rfl rfl cat1_I (fun w5 hw5 => ?_)
      refine s_goto (pc2 := 100) X dX10_lives_188 (by decide) ?_
      refine s_sub (lv2 := [(0, vR C.1.1 l0), (1, vI l1), (2, vI l2), (3, vI l3), (4, vI l4), (5, vI w4), (6, vI l6), (7, vI w5)]) [2, 3, 4, 5, 6, 1, 7, 0] rfl ?_
      exact hk100 l0 l1 l2 l3 l4 w4 l6 w5 h1 h2 h3 h4 hw4 h6 hw5
    · refine s_aload_n (j := 0) (pc2 := 121) X dX10_lives_120 rfl rfl ?_
      refine s_aload_n (j := 0) (pc2 := 122) X dX10_lives_121 rfl rfl ?_
      refine s_getR (pc2 := 125) X dX10_lives_122 rfl fl_RX10_39 rfl (fun v6 => ?_)
      refine s_iconst (n := 2) (pc2 := 126) X dX10_lives_125 rfl ?_
      refine s_iald (pc2 := 127) X dX10_lives_126 rfl (fun v7 hv7 => ?_)
      refine s_iconst (n := 1) (pc2 := 128) X dX10_lives_127 rfl ?_
      refine s_iadd (pc2 := 129) X dX10_lives_128 rfl ?_
      refine s_callVI (d2 := d - 1) (As := [vI ((w32 (v7 + 1)))]) (st := []) (pc2 := 132) X dX10_lives_129 rfl ml_RX10_473 im_X10_draw se_X10_draw kX10 rfl (c_X10_draw (d - 1) (by omega) C.1 C.2.2.1 l0 ((w32 (v7 + 1))) (w32_in _)) hy_X10_draw rfl rfl hf hlo (st_room (Nat.le_of_ble_eq_true rfl)) hcs (fun v8 hv8 => ?_)
      refine s_istore (pc2 := 134) X dX10_lives_132 rfl (by decide) rfl rfl cat1_I hv8 (fun w9 hw9 => ?_)
      refine s_iload (j := 0) (pc2 := 136) X dX10_lives_134 rfl rfl ?_
      refine s_aload_n (j := 1) (pc2 := 137) X dX10_lives_136 rfl rfl ?_
      refine s_getR (pc2 := 140) X dX10_lives_137 rfl fl_RX10_39 rfl (fun v10 => ?_)
      refine s_iconst (n := 2) (pc2 := 141) X dX10_lives_140 rfl ?_
      refine s_iald (pc2 := 142) X dX10_lives_141 rfl (fun v11 hv11 => ?_)
      refine s_iceq (tgt := 170) X dX10_lives_142 (by decide) rfl hw9 hv11 ?_ ?_
      · refine s_sub (lv2 := [(0, vR C.1.1 l0), (1, vI l1), (2, vI l2), (3, vI l3), (4, vI l4), (5, vI l5), (6, vI l6), (7, vI l7), (8, vI l8)]) [1, 2, 3, 4, 5, 6, 7, 8, 9] rfl ?_
        exact z_X10_lives_L170 d hd K X k91 hk91 k100 hk100 (m_X10_lives_L109 k91 k100 n) ih l0 l1 l2 l3 l4 l5 l6 l7 l8 h1 h2 h3 h4 h5 h6 h7 h8
      · refine s_aload_n (j := 1) (pc2 := 146) X dX10_lives_145 rfl rfl ?_
        refine s_iload (j := 9) (pc2 := 148) X dX10_lives_146 rfl rfl ?_
        refine s_iload (j := 0) (pc2 := 150) X dX10_lives_148 rfl rfl ?_
        refine s_callVZ (d2 := d - 1) (As := [vI l8, vI w9]) (st := []) (pc2 := 153) X dX10_lives_150 rfl ml_RX10_339 im_X10_canCross se_X10_canCross kX10 rfl (c_X10_canCross (d - 1) (by omega) C.1 C.2.2.1 l0 l8 w9 h8 hw9) hy_X10_canCross rfl rfl hf hlo (st_room (Nat.le_of_ble_eq_true rfl)) hcs (fun v12 hv12 => ?_)
        refine s_ifne (tgt := 159) X dX10_lives_153 (by decide) rfl hv12 ?_ ?_
        · refine s_aload_n (j := 1) (pc2 := 160) X dX10_lives_159 rfl rfl ?_
          refine s_iload (j := 9) (pc2 := 162) X dX10_lives_160 rfl rfl ?_
          refine s_iload (j := 0) (pc2 := 164) X dX10_lives_162 rfl rfl ?_
          refine s_callVV (d2 := d - 1) (As := [vI l8, vI w9]) (st := []) (pc2 := 167) X dX10_lives_164 rfl ml_RX10_345 im_X10_crosses se_X10_crosses kX10 rfl (c_X10_crosses (d - 1) (by omega) C.1 C.2.2.1 l0 l8 w9 h8 hw9) hy_X10_crosses rfl rfl hf hlo (st_room (Nat.le_of_ble_eq_true rfl)) hcs (fun _ => ?_)
          refine s_iinc (j := 5) (pc2 := 170) X dX10_lives_167 rfl (by decide) rfl rfl rfl cat1_I (fun w13 hw13 => ?_)
          refine s_sub (lv2 := [(0, vR C.1.1 l0), (1, vI l1), (2, vI l2), (3, vI l3), (4, vI w13), (5, vI l5), (6, vI l6), (7, vI l7), (8, vI l8)]) [2, 3, 4, 5, 0, 6, 7, 8, 9] rfl ?_
          exact z_X10_lives_L170 d hd K X k91 hk91 k100 hk100 (m_X10_lives_L109 k91 k100 n) ih l0 l1 l2 l3 w13 l5 l6 l7 l8 h1 h2 h3 hw13 h5 h6 h7 h8
        · refine s_goto (pc2 := 170) X dX10_lives_156 (by decide) ?_
          refine s_sub (lv2 := [(0, vR C.1.1 l0), (1, vI l1), (2, vI l2), (3, vI l3), (4, vI l4), (5, vI l5), (6, vI l6), (7, vI l7), (8, vI l8)]) [1, 2, 3, 4, 5, 6, 7, 8, 9] rfl ?_
          exact z_X10_lives_L170 d hd K X k91 hk91 k100 hk100 (m_X10_lives_L109 k91 k100 n) ih l0 l1 l2 l3 l4 l5 l6 l7 l8 h1 h2 h3 h4 h5 h6 h7 h8
set_option maxRecDepth 4000 in
theorem z_X10_lives_L100 (d : Nat) (hd : 4 ≤ d) {C : hCx} (K : hCtx C.1 C.2.2.1 d 0 0 "lives" C) (X : hOK C cX10_lives RX10 10 (some .int)) (k91 : Nat → Int → Int → Int → Int → Int → Int → hM) (hk91 : ∀ (l0 : Nat) (l1 : Int) (l2 : Int) (l3 : Int) (l4 : Int) (l5 : Int) (l6 : Int), inI l1 → inI l2 → inI l3 → inI l4 → inI l5 → inI l6 → hSim C (some .int) 0 0 10 91 [(0, vR C.1.1 l0), (1, vI l1), (2, vI l2), (3, vI l3), (4, vI l4), (5, vI l5), (6, vI l6)] [] 0 0 (k91 l0 l1 l2 l3 l4 l5 l6)) : ∀ (n : Nat) (l0 : Nat) (l1 : Int) (l2 : Int) (l3 : Int) (l4 : Int) (l5 : Int) (l6 : Int) (l7 : Int) (h1 : inI l1) (h2 : inI l2) (h3 : inI l3) (h4 : inI l4) (h5 : inI l5) (h6 : inI l6) (h7 : inI l7), hSim C (some .int) 0 0 10 100 [(0, vR C.1.1 l0), (1, vI l1), (2, vI l2), (3, vI l3), (4, vI l4), (5, vI l5), (6, vI l6), (7, vI l7)] [] 0 0 (m_X10_lives_L100 k91 n l0 l1 l2 l3 l4 l5 l6 l7) := by
  obtain ⟨⟨hf, hlo⟩, ⟨hc1, hc2⟩, hf1, hl1⟩ := K_room K (by omega)
  have hcs : 0 ≤ C.2.2.2.2.1.cells ∧ 0 ≤ C.2.2.2.2.1.slots := ⟨Nat.zero_le _, Nat.zero_le _⟩
  intro n
  induction n with
  | zero => intros; exact s_none (fun _ => rfl)
  | succ n ih =>
    intro l0 l1 l2 l3 l4 l5 l6 l7 h1 h2 h3 h4 h5 h6 h7
    unfold m_X10_lives_L100
    refine s_iload (j := 7) (pc2 := 102) X dX10_lives_100 rfl rfl ?_
    refine s_iload_n (j := 2) (pc2 := 103) X dX10_lives_102 rfl rfl ?_
    refine s_icge (tgt := 191) X dX10_lives_103 (by decide) rfl h7 h2 ?_ ?_
    · refine s_iconst (n := 0) (pc2 := 192) X dX10_lives_191 rfl ?_
      refine s_istore (pc2 := 194) X dX10_lives_192 rfl (by decide) rfl rfl cat1_I (inI_c 0 rfl) (fun w1 hw1 => ?_)
      refine s_sub (lv2 := [(0, vR C.1.1 l0), (1, vI l1), (2, vI l2), (3, vI l3), (4, vI l4), (5, vI l5), (6, vI l6), (7, vI w1)]) [1, 2, 3, 4, 5, 6, 7, 0] rfl ?_
      exact z_X10_lives_L194 d hd K X k91 hk91 1000000000 l0 l1 l2 l3 l4 l5 l6 w1 h1 h2 h3 h4 h5 h6 hw1
    · refine s_iconst (n := 0) (pc2 := 107) X dX10_lives_106 rfl ?_
      refine s_istore (pc2 := 109) X dX10_lives_107 rfl (by decide) rfl rfl cat1_I (inI_c 0 rfl) (fun w2 hw2 => ?_)
      refine s_sub (lv2 := [(0, vR C.1.1 l0), (1, vI l1), (2, vI l2), (3, vI l3), (4, vI l4), (5, vI l5), (6, vI l6), (7, vI l7), (8, vI w2)]) [1, 2, 3, 4, 5, 6, 7, 8, 0] rfl ?_
      exact z_X10_lives_L109 d hd K X k91 hk91 (m_X10_lives_L100 k91 n) ih 1000000000 l0 l1 l2 l3 l4 l5 l6 l7 w2 h1 h2 h3 h4 h5 h6 h7 hw2
set_option maxRecDepth 4000 in
theorem z_X10_lives_L91 (d : Nat) (hd : 4 ≤ d) {C : hCx} (K : hCtx C.1 C.2.2.1 d 0 0 "lives" C) (X : hOK C cX10_lives RX10 10 (some .int)) : ∀ (n : Nat) (l0 : Nat) (l1 : Int) (l2 : Int) (l3 : Int) (l4 : Int) (l5 : Int) (l6 : Int) (h1 : inI l1) (h2 : inI l2) (h3 : inI l3) (h4 : inI l4) (h5 : inI l5) (h6 : inI l6), hSim C (some .int) 0 0 10 91 [(0, vR C.1.1 l0), (1, vI l1), (2, vI l2), (3, vI l3), (4, vI l4), (5, vI l5), (6, vI l6)] [] 0 0 (m_X10_lives_L91 n l0 l1 l2 l3 l4 l5 l6) := by
  obtain ⟨⟨hf, hlo⟩, ⟨hc1, hc2⟩, hf1, hl1⟩ := K_room K (by omega)
  have hcs : 0 ≤ C.2.2.2.2.1.cells ∧ 0 ≤ C.2.2.2.2.1.slots := ⟨Nat.zero_le _, Nat.zero_le _⟩
  intro n
  induction n with
  | zero => intros; exact s_none (fun _ => rfl)
  | succ n ih =>
    intro l0 l1 l2 l3 l4 l5 l6 h1 h2 h3 h4 h5 h6
    unfold m_X10_lives_L91
    refine s_iload (j := 6) (pc2 := 93) X dX10_lives_91 rfl rfl ?_
    refine s_iload_n (j := 1) (pc2 := 94) X dX10_lives_93 rfl rfl ?_
    refine s_icge (tgt := 227) X dX10_lives_94 (by decide) rfl h6 h1 ?_ ?_
    · refine s_iload_n (j := 3) (pc2 := 228) X dX10_lives_227 rfl rfl ?_
      refine s_ifne (tgt := 236) X dX10_lives_228 (by decide) rfl h3 ?_ ?_
      · refine s_iload (j := 5) (pc2 := 238) X dX10_lives_236 rfl rfl ?_
        refine s_sub (lv2 := []) [] rfl ?_
        exact z_X10_lives_L238 d hd K X l5 h5
      · refine s_iload (j := 4) (pc2 := 233) X dX10_lives_231 rfl rfl ?_
        refine s_goto (pc2 := 238) X dX10_lives_233 (by decide) ?_
        refine s_sub (lv2 := []) [] rfl ?_
        exact z_X10_lives_L238 d hd K X l4 h4
    · refine s_iconst (n := 0) (pc2 := 98) X dX10_lives_97 rfl ?_
      refine s_istore (pc2 := 100) X dX10_lives_98 rfl (by decide) rfl rfl cat1_I (inI_c 0 rfl) (fun w1 hw1 => ?_)
      refine s_sub (lv2 := [(0, vR C.1.1 l0), (1, vI l1), (2, vI l2), (3, vI l3), (4, vI l4), (5, vI l5), (6, vI l6), (7, vI w1)]) [1, 2, 3, 4, 5, 6, 7, 0] rfl ?_
      exact z_X10_lives_L100 d hd K X (m_X10_lives_L91 n) ih 1000000000 l0 l1 l2 l3 l4 l5 l6 w1 h1 h2 h3 h4 h5 h6 hw1
set_option maxRecDepth 4000 in
theorem z_X10_lives_L61 (d : Nat) (hd : 4 ≤ d) {C : hCx} (K : hCtx C.1 C.2.2.1 d 0 0 "lives" C) (X : hOK C cX10_lives RX10 10 (some .int)) : ∀ (n : Nat) (l0 : Nat) (l1 : Int) (l2 : Int) (l3 : Int) (l4 : Int) (l5 : Int) (l6 : Int) (h1 : inI l1) (h2 : inI l2) (h3 : inI l3) (h4 : inI l4) (h5 : inI l5) (h6 : inI l6), hSim C (some .int) 0 0 10 61 [(0, vR C.1.1 l0), (1, vI l1), (2, vI l2), (3, vI l3), (4, vI l4), (5, vI l5), (6, vI l6)] [] 0 0 (m_X10_lives_L61 n l0 l1 l2 l3 l4 l5 l6) := by
  obtain ⟨⟨hf, hlo⟩, ⟨hc1, hc2⟩, hf1, hl1⟩ := K_room K (by omega)
  have hcs : 0 ≤ C.2.2.2.2.1.cells ∧ 0 ≤ C.2.2.2.2.1.slots := ⟨Nat.zero_le _, Nat.zero_le _⟩
  intro n
  induction n with
  | zero => intros; exact s_none (fun _ => rfl)
  | succ n ih =>
    intro l0 l1 l2 l3 l4 l5 l6 h1 h2 h3 h4 h5 h6
    unfold m_X10_lives_L61
    refine s_iload (j := 6) (pc2 := 63) X dX10_lives_61 rfl rfl ?_
    refine s_bipush (n := 94) (pc2 := 65) X dX10_lives_63 rfl rfl ?_
    refine s_icge (tgt := 88) X dX10_lives_65 (by decide) rfl h6 (inI_c 94 rfl) ?_ ?_
    · refine s_iconst (n := 0) (pc2 := 89) X dX10_lives_88 rfl ?_
      refine s_istore (pc2 := 91) X dX10_lives_89 rfl (by decide) rfl rfl cat1_I (inI_c 0 rfl) (fun w1 hw1 => ?_)
      refine s_sub (lv2 := [(0, vR C.1.1 l0), (1, vI l1), (2, vI l2), (3, vI l3), (4, vI l4), (5, vI l5), (6, vI w1)]) [1, 2, 3, 4, 5, 6, 0] rfl ?_
      exact z_X10_lives_L91 d hd K X 1000000000 l0 l1 l2 l3 l4 l5 w1 h1 h2 h3 h4 h5 hw1
    · refine s_aload_n (j := 0) (pc2 := 69) X dX10_lives_68 rfl rfl ?_
      refine s_getR (pc2 := 72) X dX10_lives_69 rfl fl_RX10_66 rfl (fun v2 => ?_)
      refine s_iload (j := 6) (pc2 := 74) X dX10_lives_72 rfl rfl ?_
      refine s_aload_n (j := 0) (pc2 := 75) X dX10_lives_74 rfl rfl ?_
      refine s_getR (pc2 := 78) X dX10_lives_75 rfl fl_RX10_39 rfl (fun v3 => ?_)
      refine s_iload (j := 6) (pc2 := 80) X dX10_lives_78 rfl rfl ?_
      refine s_iald (pc2 := 81) X dX10_lives_80 rfl (fun v4 hv4 => ?_)
      refine s_iast (pc2 := 82) X dX10_lives_81 rfl hv4 ?_
      refine s_iinc (j := 6) (pc2 := 85) X dX10_lives_82 rfl (by decide) rfl rfl rfl cat1_I (fun w5 hw5 => ?_)
      refine s_goto (pc2 := 61) X dX10_lives_85 (by decide) ?_
      refine s_sub (lv2 := [(0, vR C.1.1 l0), (1, vI l1), (2, vI l2), (3, vI l3), (4, vI l4), (5, vI l5), (6, vI w5)]) [1, 2, 3, 4, 5, 6, 0] rfl ?_
      exact ih l0 l1 l2 l3 l4 l5 w5 h1 h2 h3 h4 h5 hw5
set_option maxRecDepth 4000 in
set_option maxHeartbeats 20000000 in
theorem z_X10_lives (d : Nat) (hd : 4 ≤ d) {C : hCx} (K : hCtx C.1 C.2.2.1 d 0 0 "lives" C) (X : hOK C cX10_lives RX10 10 (some .int)) (l0 : Nat) (l1 : Int) (l2 : Int) (l3 : Int) (h1 : inI l1) (h2 : inI l2) (h3 : inI l3) : hSim C (some .int) 0 0 10 0 [(0, vR C.1.1 l0), (1, vI l1), (2, vI l2), (3, vI l3)] [] 0 0 (m_X10_lives l0 l1 l2 l3) := by
  obtain ⟨⟨hf, hlo⟩, ⟨hc1, hc2⟩, hf1, hl1⟩ := K_room K (by omega)
  have hcs : 0 ≤ C.2.2.2.2.1.cells ∧ 0 ≤ C.2.2.2.2.1.slots := ⟨Nat.zero_le _, Nat.zero_le _⟩
  unfold m_X10_lives
  refine s_aload_n (j := 0) (pc2 := 1) X dX10_lives_0 rfl rfl ?_
  refine s_callVZ (d2 := d - 1) (As := []) (st := []) (pc2 := 4) X dX10_lives_1 rfl ml_RX10_358 im_X10_isTown se_X10_isTown kX10 rfl (c_X10_isTown (d - 1) (by omega) C.1 C.2.2.1 l0) hy_X10_isTown rfl rfl hf hlo (st_room (Nat.le_of_ble_eq_true rfl)) hcs (fun v1 hv1 => ?_)
  refine s_ifeq (tgt := 41) X dX10_lives_4 (by decide) rfl hv1 ?_ ?_
  · refine s_sub (lv2 := []) [] rfl ?_
    exact z_X10_lives_L41 d hd K X
  · refine s_iload_n (j := 1) (pc2 := 8) X dX10_lives_7 rfl rfl ?_
    refine s_i2l (pc2 := 9) X dX10_lives_8 rfl h1 ?_
    refine s_lconst (z := 1) (pc2 := 10) X dX10_lives_9 rfl rfl ?_
    refine s_ldc2 (z := 10) (pc2 := 13) X dX10_lives_10 rfl kc_RX10_471 ?_
    refine s_callSZ (d2 := d - 1) (As := [vL l1, vL 1, vL 10]) (st := []) (pc2 := 16) X dX10_lives_13 rfl ml_RX10_118 sm_X10_in (c_X10_in (d - 1) (by omega) C.1 C.2.2.1 l1 1 10 (inL_of h1) (inL_c 1 rfl) (inL_c 10 rfl)) hy_X10_in rfl rfl hf hlo (st_room (Nat.le_of_ble_eq_true rfl)) hcs (fun v2 hv2 => ?_)
    refine s_ifeq (tgt := 41) X dX10_lives_16 (by decide) rfl hv2 ?_ ?_
    · refine s_sub (lv2 := []) [] rfl ?_
      exact z_X10_lives_L41 d hd K X
    · refine s_iload_n (j := 2) (pc2 := 20) X dX10_lives_19 rfl rfl ?_
      refine s_i2l (pc2 := 21) X dX10_lives_20 rfl h2 ?_
      refine s_lconst (z := 1) (pc2 := 22) X dX10_lives_21 rfl rfl ?_
      refine s_ldc2 (z := 60) (pc2 := 25) X dX10_lives_22 rfl kc_RX10_380 ?_
      refine s_callSZ (d2 := d - 1) (As := [vL l2, vL 1, vL 60]) (st := []) (pc2 := 28) X dX10_lives_25 rfl ml_RX10_118 sm_X10_in (c_X10_in (d - 1) (by omega) C.1 C.2.2.1 l2 1 60 (inL_of h2) (inL_c 1 rfl) (inL_c 60 rfl)) hy_X10_in rfl rfl hf hlo (st_room (Nat.le_of_ble_eq_true rfl)) hcs (fun v3 hv3 => ?_)
      refine s_ifeq (tgt := 41) X dX10_lives_28 (by decide) rfl hv3 ?_ ?_
      · refine s_sub (lv2 := []) [] rfl ?_
        exact z_X10_lives_L41 d hd K X
      · refine s_iload_n (j := 3) (pc2 := 32) X dX10_lives_31 rfl rfl ?_
        refine s_i2l (pc2 := 33) X dX10_lives_32 rfl h3 ?_
        refine s_lconst (z := 0) (pc2 := 34) X dX10_lives_33 rfl rfl ?_
        refine s_lconst (z := 1) (pc2 := 35) X dX10_lives_34 rfl rfl ?_
        refine s_callSZ (d2 := d - 1) (As := [vL l3, vL 0, vL 1]) (st := []) (pc2 := 38) X dX10_lives_35 rfl ml_RX10_118 sm_X10_in (c_X10_in (d - 1) (by omega) C.1 C.2.2.1 l3 0 1 (inL_of h3) (inL_c 0 rfl) (inL_c 1 rfl)) hy_X10_in rfl rfl hf hlo (st_room (Nat.le_of_ble_eq_true rfl)) hcs (fun v4 hv4 => ?_)
        refine s_ifne (tgt := 43) X dX10_lives_38 (by decide) rfl hv4 ?_ ?_
        · refine s_aload_n (j := 0) (pc2 := 44) X dX10_lives_43 rfl rfl ?_
          refine s_aload_n (j := 0) (pc2 := 45) X dX10_lives_44 rfl rfl ?_
          refine s_getI (pc2 := 48) X dX10_lives_45 rfl fl_RX10_456 rfl (fun v5 hv5 => ?_)
          refine s_i2l (pc2 := 49) X dX10_lives_48 rfl hv5 ?_
          refine s_putL (pc2 := 52) X dX10_lives_49 rfl fl_RX10_459 (Or.inl rfl) rfl (inL_of hv5) ?_
          refine s_iconst (n := 0) (pc2 := 53) X dX10_lives_52 rfl ?_
          refine s_istore (pc2 := 55) X dX10_lives_53 rfl (by decide) rfl rfl cat1_I (inI_c 0 rfl) (fun w6 hw6 => ?_)
          refine s_iconst (n := 0) (pc2 := 56) X dX10_lives_55 rfl ?_
          refine s_istore (pc2 := 58) X dX10_lives_56 rfl (by decide) rfl rfl cat1_I (inI_c 0 rfl) (fun w7 hw7 => ?_)
          refine s_iconst (n := 0) (pc2 := 59) X dX10_lives_58 rfl ?_
          refine s_istore (pc2 := 61) X dX10_lives_59 rfl (by decide) rfl rfl cat1_I (inI_c 0 rfl) (fun w8 hw8 => ?_)
          refine s_sub (lv2 := [(0, vR C.1.1 l0), (1, vI l1), (2, vI l2), (3, vI l3), (4, vI w6), (5, vI w7), (6, vI w8)]) [3, 4, 5, 6, 2, 1, 0] rfl ?_
          exact z_X10_lives_L61 d hd K X 1000000000 l0 l1 l2 l3 w6 w7 w8 h1 h2 h3 hw6 hw7 hw8
        · refine s_sub (lv2 := []) [] rfl ?_
          exact z_X10_lives_L41 d hd K X
theorem c_X10_lives (d : Nat) (hd : 4 ≤ d) (G : hG) (l : Launch) (l0 : Nat) (l1 : Int) (l2 : Int) (l3 : Int) (h1 : inI l1) (h2 : inI l2) (h3 : inI l3) : hMet G l yX10_lives cX10_lives 10 (some .int) d 0 0 [vR G.1 l0, vI l1, vI l2, vI l3] (m_X10_lives l0 l1 l2 l3) := by
  refine hMet.of (lv := [(0, vR G.1 l0), (1, vI l1), (2, vI l2), (3, vI l3)]) (by decide +kernel) (by simp [lg_sl, vR_cat, vI_cat, vL_cat, vS_cat2, vT_cat2]) (by simp [lv_args, vR_cat, vI_cat, vL_cat, vS_cat2, vT_cat2]) (fun C K X => ?_)
  obtain ⟨rfl, rfl, K⟩ := K
  exact z_X10_lives d hd ⟨rfl, rfl, K⟩ X l0 l1 l2 l3 h1 h2 h3
def m_X10_count_L72 (l0 : Nat) (l1 : Int) : hM :=
  hgR 10 l0 20 fun v1 =>
  haI 20 v1 l1 fun v2 =>
  hret v2
def m_X10_count_L104 (s0 : Int) : hM :=
  hret s0
def m_X10_count_L107 : Nat → Nat → Int → Int → hM
  | 0, _, _, _ => hfail
  | n + 1, l0, l2, l3 =>
    hgR 10 l0 20 fun v1 =>
  haI 20 v1 4 fun v2 =>
  hif (l3 ≥ v2) (
hret l2) (
hcallV 10 l0 (m_X10_personOf l0 l3 2) fun v3 =>
  hlet ((w32 (l2 + v3))) fun (w4 : Int) =>
  hlet (w32 (l3 + 1)) fun (w5 : Int) =>
  m_X10_count_L107 n l0 w4 w5)
def m_X10_count_L169 (k136 : Nat → Int → Int → hM) (l0 : Nat) (l3 : Int) (s0 : Int) (s1 : Int) : hM :=
  hlet ((iorZ s0 s1)) fun (w1 : Int) =>
  hlet (w32 (l3 + 1)) fun (w2 : Int) =>
  k136 l0 w1 w2
def m_X10_count_L136 : Nat → Nat → Int → Int → hM
  | 0, _, _, _ => hfail
  | n + 1, l0, l2, l3 =>
    hgR 10 l0 20 fun v1 =>
  haI 20 v1 4 fun v2 =>
  hif (l3 ≥ v2) (
hret l2) (
hcallV 10 l0 (m_X10_personOf l0 l3 0) fun v3 =>
  hcallV 10 l0 (m_X10_personOf l0 l3 1) fun v4 =>
  hif (v3 ≠ v4) (
m_X10_count_L169 (m_X10_count_L136 n) l0 l3 l2 0) (
m_X10_count_L169 (m_X10_count_L136 n) l0 l3 l2 ((ishlZ 1 l3))))
def m_X10_count (l0 : Nat) (l1 : Int) : hM :=
  hlet (0 : Int) fun (w1 : Int) =>
  hif (l1 = 0) (
m_X10_count_L72 l0 l1) <|
  hif (l1 = 1) (
m_X10_count_L72 l0 l1) <|
  hif (l1 = 2) (
m_X10_count_L72 l0 l1) <|
  hif (l1 = 3) (
m_X10_count_L72 l0 l1) <|
  hif (l1 = 4) (
m_X10_count_L72 l0 l1) <|
  hif (l1 = 5) (
m_X10_count_L72 l0 l1) <|
  hif (l1 = 6) (
hgI 10 l0 2 fun v2 =>
  hret v2) <|
  hif (l1 = 7) (
hgR 10 l0 20 fun v3 =>
  haI 20 v3 6 fun v4 =>
  hret v4) <|
  hif (l1 = 8) (
hcallV 10 l0 (m_X10_isFrost l0) fun v5 =>
  hif (v5 = 0) (
m_X10_count_L104 0) (
m_X10_count_L104 1)) <|
  hif (l1 = 9) (
hlet (0 : Int) fun (w6 : Int) =>
  m_X10_count_L107 1000000000 l0 w1 w6) <|
  hif (l1 = 10) (
hlet (0 : Int) fun (w7 : Int) =>
  m_X10_count_L136 1000000000 l0 w1 w7) <|
  hif (l1 = 11) (
hgI 10 l0 25 fun v8 =>
  hret v8) <|
  hif (l1 = 12) (
hgI 10 l0 21 fun v9 =>
  hret v9) <|
  hif (l1 = 13) (
hgI 10 l0 1 fun v10 =>
  hret v10) <|
  hret ((-1))
set_option maxRecDepth 4000 in
theorem z_X10_count_L72 (d : Nat) (hd : 2 ≤ d) {C : hCx} (K : hCtx C.1 C.2.2.1 d 0 0 "count" C) (X : hOK C cX10_count RX10 4 (some .int)) (l0 : Nat) (l1 : Int) (h1 : inI l1) : hSim C (some .int) 0 0 4 72 [(0, vR C.1.1 l0), (1, vI l1)] [] 0 0 (m_X10_count_L72 l0 l1) := by
  obtain ⟨⟨hf, hlo⟩, ⟨hc1, hc2⟩, hf1, hl1⟩ := K_room K (by omega)
  have hcs : 0 ≤ C.2.2.2.2.1.cells ∧ 0 ≤ C.2.2.2.2.1.slots := ⟨Nat.zero_le _, Nat.zero_le _⟩
  unfold m_X10_count_L72
  refine s_aload_n (j := 0) (pc2 := 73) X dX10_count_72 rfl rfl ?_
  refine s_getR (pc2 := 76) X dX10_count_73 rfl fl_RX10_39 rfl (fun v1 => ?_)
  refine s_iload_n (j := 1) (pc2 := 77) X dX10_count_76 rfl rfl ?_
  refine s_iald (pc2 := 78) X dX10_count_77 rfl (fun v2 hv2 => ?_)
  exact s_iret X dX10_count_78 hv2
set_option maxRecDepth 4000 in
theorem z_X10_count_L104 (d : Nat) (hd : 2 ≤ d) {C : hCx} (K : hCtx C.1 C.2.2.1 d 0 0 "count" C) (X : hOK C cX10_count RX10 4 (some .int)) (s0 : Int) (g0 : inI s0) : hSim C (some .int) 0 0 4 104 [] [vI s0] 0 0 (m_X10_count_L104 s0) := by
  obtain ⟨⟨hf, hlo⟩, ⟨hc1, hc2⟩, hf1, hl1⟩ := K_room K (by omega)
  have hcs : 0 ≤ C.2.2.2.2.1.cells ∧ 0 ≤ C.2.2.2.2.1.slots := ⟨Nat.zero_le _, Nat.zero_le _⟩
  unfold m_X10_count_L104
  exact s_iret X dX10_count_104 g0
set_option maxRecDepth 4000 in
theorem z_X10_count_L107 (d : Nat) (hd : 2 ≤ d) {C : hCx} (K : hCtx C.1 C.2.2.1 d 0 0 "count" C) (X : hOK C cX10_count RX10 4 (some .int)) : ∀ (n : Nat) (l0 : Nat) (l2 : Int) (l3 : Int) (h2 : inI l2) (h3 : inI l3), hSim C (some .int) 0 0 4 107 [(0, vR C.1.1 l0), (2, vI l2), (3, vI l3)] [] 0 0 (m_X10_count_L107 n l0 l2 l3) := by
  obtain ⟨⟨hf, hlo⟩, ⟨hc1, hc2⟩, hf1, hl1⟩ := K_room K (by omega)
  have hcs : 0 ≤ C.2.2.2.2.1.cells ∧ 0 ≤ C.2.2.2.2.1.slots := ⟨Nat.zero_le _, Nat.zero_le _⟩
  intro n
  induction n with
  | zero => intros; exact s_none (fun _ => rfl)
  | succ n ih =>
    intro l0 l2 l3 h2 h3
    unfold m_X10_count_L107
    refine s_iload_n (j := 2) (pc2 := 108) X dX10_count_107 rfl rfl ?_
    refine s_aload_n (j := 0) (pc2 := 109) X dX10_count_108 rfl rfl ?_
    refine s_getR (pc2 := 112) X dX10_count_109 rfl fl_RX10_39 rfl (fun v1 => ?_)
    refine s_iconst (n := 4) (pc2 := 113) X dX10_count_112 rfl ?_
    refine s_iald (pc2 := 114) X dX10_count_113 rfl (fun v2 hv2 => ?_)
    refine s_icge (tgt := 132) X dX10_count_114 (by decide) rfl h3 hv2 ?_ ?_
    · refine s_iload_n (j := 1) (pc2 := 133) X dX10_count_132 rfl rfl ?_
      exact s_iret X dX10_count_133 h2
    · refine s_iload_n (j := 1) (pc2 := 118) X dX10_count_117 rfl rfl ?_
      refine s_aload_n (j := 0) (pc2 := 119) X dX10_count_118 rfl rfl ?_
      refine s_iload_n (j := 2) (pc2 := 120) X dX10_count_119 rfl rfl ?_
      refine s_iconst (n := 2) (pc2 := 121) X dX10_count_120 rfl ?_
      refine s_callVI (d2 := d - 1) (As := [vI l3, vI 2]) (st := [vI l2]) (pc2 := 124) X dX10_count_121 rfl ml_RX10_307 im_X10_personOf se_X10_personOf kX10 rfl (c_X10_personOf (d - 1) (by omega) C.1 C.2.2.1 l0 l3 2 h3 (inI_c 2 rfl)) hy_X10_personOf rfl rfl hf hlo (st_room (Nat.le_of_ble_eq_true rfl)) hcs (fun v3 hv3 => ?_)
      refine s_iadd (pc2 := 125) X dX10_count_124 rfl ?_
      refine s_istore_n (pc2 := 126) X dX10_count_125 rfl (by decide) rfl rfl cat1_N (w32_in _) (fun w4 hw4 => ?_)
      refine s_iinc (j := 2) (pc2 := 129) X dX10_count_126 rfl (by decide) rfl rfl rfl cat1_I (fun w5 hw5 => ?_)
      refine s_goto (pc2 := 107) X dX10_count_129 (by decide) ?_
      refine s_sub (lv2 := [(0, vR C.1.1 l0), (2, vI w4), (3, vI w5)]) [2, 1, 0] rfl ?_
      exact ih l0 w4 w5 hw4 hw5
set_option maxRecDepth 4000 in
theorem z_X10_count_L169 (d : Nat) (hd : 2 ≤ d) {C : hCx} (K : hCtx C.1 C.2.2.1 d 0 0 "count" C) (X : hOK C cX10_count RX10 4 (some .int)) (k136 : Nat → Int → Int → hM) (hk136 : ∀ (l0 : Nat) (l2 : Int) (l3 : Int), inI l2 → inI l3 → hSim C (some .int) 0 0 4 136 [(0, vR C.1.1 l0), (2, vI l2), (3, vI l3)] [] 0 0 (k136 l0 l2 l3)) (l0 : Nat) (l3 : Int) (s0 : Int) (s1 : Int) (h3 : inI l3) (g0 : inI s0) (g1 : inI s1) : hSim C (some .int) 0 0 4 169 [(0, vR C.1.1 l0), (3, vI l3)] [vI s1, vI s0] 0 0 (m_X10_count_L169 k136 l0 l3 s0 s1) := by
  obtain ⟨⟨hf, hlo⟩, ⟨hc1, hc2⟩, hf1, hl1⟩ := K_room K (by omega)
  have hcs : 0 ≤ C.2.2.2.2.1.cells ∧ 0 ≤ C.2.2.2.2.1.slots := ⟨Nat.zero_le _, Nat.zero_le _⟩
  unfold m_X10_count_L169
  refine s_ior (pc2 := 170) X dX10_count_169 rfl ?_
  refine s_istore_n (pc2 := 171) X dX10_count_170 rfl (by decide) rfl rfl cat1_N (iorZ_in _ _) (fun w1 hw1 => ?_)
  refine s_iinc (j := 2) (pc2 := 174) X dX10_count_171 rfl (by decide) rfl rfl rfl cat1_I (fun w2 hw2 => ?_)
  refine s_goto (pc2 := 136) X dX10_count_174 (by decide) ?_
  refine s_sub (lv2 := [(0, vR C.1.1 l0), (2, vI w1), (3, vI w2)]) [2, 1, 0] rfl ?_
  exact hk136 l0 w1 w2 hw1 hw2
set_option maxRecDepth 4000 in
theorem z_X10_count_L136 (d : Nat) (hd : 2 ≤ d) {C : hCx} (K : hCtx C.1 C.2.2.1 d 0 0 "count" C) (X : hOK C cX10_count RX10 4 (some .int)) : ∀ (n : Nat) (l0 : Nat) (l2 : Int) (l3 : Int) (h2 : inI l2) (h3 : inI l3), hSim C (some .int) 0 0 4 136 [(0, vR C.1.1 l0), (2, vI l2), (3, vI l3)] [] 0 0 (m_X10_count_L136 n l0 l2 l3) := by
  obtain ⟨⟨hf, hlo⟩, ⟨hc1, hc2⟩, hf1, hl1⟩ := K_room K (by omega)
  have hcs : 0 ≤ C.2.2.2.2.1.cells ∧ 0 ≤ C.2.2.2.2.1.slots := ⟨Nat.zero_le _, Nat.zero_le _⟩
  intro n
  induction n with
  | zero => intros; exact s_none (fun _ => rfl)
  | succ n ih =>
    intro l0 l2 l3 h2 h3
    unfold m_X10_count_L136
    refine s_iload_n (j := 2) (pc2 := 137) X dX10_count_136 rfl rfl ?_
    refine s_aload_n (j := 0) (pc2 := 138) X dX10_count_137 rfl rfl ?_
    refine s_getR (pc2 := 141) X dX10_count_138 rfl fl_RX10_39 rfl (fun v1 => ?_)
    refine s_iconst (n := 4) (pc2 := 142) X dX10_count_141 rfl ?_
    refine s_iald (pc2 := 143) X dX10_count_142 rfl (fun v2 hv2 => ?_)
    refine s_icge (tgt := 177) X dX10_count_143 (by decide) rfl h3 hv2 ?_ ?_
    · refine s_iload_n (j := 1) (pc2 := 178) X dX10_count_177 rfl rfl ?_
      exact s_iret X dX10_count_178 h2
    · refine s_iload_n (j := 1) (pc2 := 147) X dX10_count_146 rfl rfl ?_
      refine s_aload_n (j := 0) (pc2 := 148) X dX10_count_147 rfl rfl ?_
      refine s_iload_n (j := 2) (pc2 := 149) X dX10_count_148 rfl rfl ?_
      refine s_iconst (n := 0) (pc2 := 150) X dX10_count_149 rfl ?_
      refine s_callVI (d2 := d - 1) (As := [vI l3, vI 0]) (st := [vI l2]) (pc2 := 153) X dX10_count_150 rfl ml_RX10_307 im_X10_personOf se_X10_personOf kX10 rfl (c_X10_personOf (d - 1) (by omega) C.1 C.2.2.1 l0 l3 0 h3 (inI_c 0 rfl)) hy_X10_personOf rfl rfl hf hlo (st_room (Nat.le_of_ble_eq_true rfl)) hcs (fun v3 hv3 => ?_)
      refine s_aload_n (j := 0) (pc2 := 154) X dX10_count_153 rfl rfl ?_
      refine s_iload_n (j := 2) (pc2 := 155) X dX10_count_154 rfl rfl ?_
      refine s_iconst (n := 1) (pc2 := 156) X dX10_count_155 rfl ?_
      refine s_callVI (d2 := d - 1) (As := [vI l3, vI 1]) (st := [vI v3, vI l2]) (pc2 := 159) X dX10_count_156 rfl ml_RX10_307 im_X10_personOf se_X10_personOf kX10 rfl (c_X10_personOf (d - 1) (by omega) C.1 C.2.2.1 l0 l3 1 h3 (inI_c 1 rfl)) hy_X10_personOf rfl rfl hf hlo (st_room (Nat.le_of_ble_eq_true rfl)) hcs (fun v4 hv4 => ?_)
      refine s_icne (tgt := 168) X dX10_count_159 (by decide) rfl hv3 hv4 ?_ ?_
      · refine s_iconst (n := 0) (pc2 := 169) X dX10_count_168 rfl ?_
        refine s_sub (lv2 := [(0, vR C.1.1 l0), (3, vI l3)]) [0, 2] rfl ?_
        exact z_X10_count_L169 d hd K X (m_X10_count_L136 n) ih l0 l3 l2 0 h3 h2 (inI_c 0 rfl)
      · refine s_iconst (n := 1) (pc2 := 163) X dX10_count_162 rfl ?_
        refine s_iload_n (j := 2) (pc2 := 164) X dX10_count_163 rfl rfl ?_
        refine s_ishl (pc2 := 165) X dX10_count_164 rfl ?_
        refine s_goto (pc2 := 169) X dX10_count_165 (by decide) ?_
        refine s_sub (lv2 := [(0, vR C.1.1 l0), (3, vI l3)]) [0, 2] rfl ?_
        exact z_X10_count_L169 d hd K X (m_X10_count_L136 n) ih l0 l3 l2 ((ishlZ 1 l3)) h3 h2 (ishlZ_in _ _)
set_option maxRecDepth 4000 in
set_option maxHeartbeats 20000000 in
theorem z_X10_count (d : Nat) (hd : 2 ≤ d) {C : hCx} (K : hCtx C.1 C.2.2.1 d 0 0 "count" C) (X : hOK C cX10_count RX10 4 (some .int)) (l0 : Nat) (l1 : Int) (h1 : inI l1) : hSim C (some .int) 0 0 4 0 [(0, vR C.1.1 l0), (1, vI l1)] [] 0 0 (m_X10_count l0 l1) := by
  obtain ⟨⟨hf, hlo⟩, ⟨hc1, hc2⟩, hf1, hl1⟩ := K_room K (by omega)
  have hcs : 0 ≤ C.2.2.2.2.1.cells ∧ 0 ≤ C.2.2.2.2.1.slots := ⟨Nat.zero_le _, Nat.zero_le _⟩
  unfold m_X10_count
  refine s_iconst (n := 0) (pc2 := 1) X dX10_count_0 rfl ?_
  refine s_istore_n (pc2 := 2) X dX10_count_1 rfl (by decide) rfl rfl cat1_I (inI_c 0 rfl) (fun w1 hw1 => ?_)
  refine s_iload_n (j := 2) (pc2 := 3) X dX10_count_2 rfl rfl ?_
  refine s_split (fun e3_0 => ?_) (fun e3_0 => ?_)
  · refine s_tsin (tgt := 72) 0 X dX10_count_3 e3_0 (inI_c 0 rfl) (by decide) (by decide) rfl (by decide) ?_
    refine s_sub (lv2 := [(0, vR C.1.1 l0), (1, vI l1)]) [1, 2] rfl ?_
    exact z_X10_count_L72 d hd K X l0 l1 h1
  refine s_split (fun e3_1 => ?_) (fun e3_1 => ?_)
  · refine s_tsin (tgt := 72) 1 X dX10_count_3 e3_1 (inI_c 1 rfl) (by decide) (by decide) rfl (by decide) ?_
    refine s_sub (lv2 := [(0, vR C.1.1 l0), (1, vI l1)]) [1, 2] rfl ?_
    exact z_X10_count_L72 d hd K X l0 l1 h1
  refine s_split (fun e3_2 => ?_) (fun e3_2 => ?_)
  · refine s_tsin (tgt := 72) 2 X dX10_count_3 e3_2 (inI_c 2 rfl) (by decide) (by decide) rfl (by decide) ?_
    refine s_sub (lv2 := [(0, vR C.1.1 l0), (1, vI l1)]) [1, 2] rfl ?_
    exact z_X10_count_L72 d hd K X l0 l1 h1
  refine s_split (fun e3_3 => ?_) (fun e3_3 => ?_)
  · refine s_tsin (tgt := 72) 3 X dX10_count_3 e3_3 (inI_c 3 rfl) (by decide) (by decide) rfl (by decide) ?_
    refine s_sub (lv2 := [(0, vR C.1.1 l0), (1, vI l1)]) [1, 2] rfl ?_
    exact z_X10_count_L72 d hd K X l0 l1 h1
  refine s_split (fun e3_4 => ?_) (fun e3_4 => ?_)
  · refine s_tsin (tgt := 72) 4 X dX10_count_3 e3_4 (inI_c 4 rfl) (by decide) (by decide) rfl (by decide) ?_
    refine s_sub (lv2 := [(0, vR C.1.1 l0), (1, vI l1)]) [1, 2] rfl ?_
    exact z_X10_count_L72 d hd K X l0 l1 h1
  refine s_split (fun e3_5 => ?_) (fun e3_5 => ?_)
  · refine s_tsin (tgt := 72) 5 X dX10_count_3 e3_5 (inI_c 5 rfl) (by decide) (by decide) rfl (by decide) ?_
    refine s_sub (lv2 := [(0, vR C.1.1 l0), (1, vI l1)]) [1, 2] rfl ?_
    exact z_X10_count_L72 d hd K X l0 l1 h1
  refine s_split (fun e3_6 => ?_) (fun e3_6 => ?_)
  · refine s_tsin (tgt := 79) 6 X dX10_count_3 e3_6 (inI_c 6 rfl) (by decide) (by decide) rfl (by decide) ?_
    refine s_aload_n (j := 1) (pc2 := 80) X dX10_count_79 rfl rfl ?_
    refine s_getI (pc2 := 83) X dX10_count_80 rfl fl_RX10_273 rfl (fun v2 hv2 => ?_)
    exact s_iret X dX10_count_83 hv2
  refine s_split (fun e3_7 => ?_) (fun e3_7 => ?_)
  · refine s_tsin (tgt := 84) 7 X dX10_count_3 e3_7 (inI_c 7 rfl) (by decide) (by decide) rfl (by decide) ?_
    refine s_aload_n (j := 1) (pc2 := 85) X dX10_count_84 rfl rfl ?_
    refine s_getR (pc2 := 88) X dX10_count_85 rfl fl_RX10_39 rfl (fun v3 => ?_)
    refine s_bipush (n := 6) (pc2 := 90) X dX10_count_88 rfl rfl ?_
    refine s_iald (pc2 := 91) X dX10_count_90 rfl (fun v4 hv4 => ?_)
    exact s_iret X dX10_count_91 hv4
  refine s_split (fun e3_8 => ?_) (fun e3_8 => ?_)
  · refine s_tsin (tgt := 92) 8 X dX10_count_3 e3_8 (inI_c 8 rfl) (by decide) (by decide) rfl (by decide) ?_
    refine s_aload_n (j := 1) (pc2 := 93) X dX10_count_92 rfl rfl ?_
    refine s_callVZ (d2 := d - 1) (As := []) (st := []) (pc2 := 96) X dX10_count_93 rfl ml_RX10_348 im_X10_isFrost se_X10_isFrost kX10 rfl (c_X10_isFrost (d - 1) (by omega) C.1 C.2.2.1 l0) hy_X10_isFrost rfl rfl hf hlo (st_room (Nat.le_of_ble_eq_true rfl)) hcs (fun v5 hv5 => ?_)
    refine s_ifeq (tgt := 103) X dX10_count_96 (by decide) rfl hv5 ?_ ?_
    · refine s_iconst (n := 0) (pc2 := 104) X dX10_count_103 rfl ?_
      refine s_sub (lv2 := []) [] rfl ?_
      exact z_X10_count_L104 d hd K X 0 (inI_c 0 rfl)
    · refine s_iconst (n := 1) (pc2 := 100) X dX10_count_99 rfl ?_
      refine s_goto (pc2 := 104) X dX10_count_100 (by decide) ?_
      refine s_sub (lv2 := []) [] rfl ?_
      exact z_X10_count_L104 d hd K X 1 (inI_c 1 rfl)
  refine s_split (fun e3_9 => ?_) (fun e3_9 => ?_)
  · refine s_tsin (tgt := 105) 9 X dX10_count_3 e3_9 (inI_c 9 rfl) (by decide) (by decide) rfl (by decide) ?_
    refine s_iconst (n := 0) (pc2 := 106) X dX10_count_105 rfl ?_
    refine s_istore_n (pc2 := 107) X dX10_count_106 rfl (by decide) rfl rfl cat1_I (inI_c 0 rfl) (fun w6 hw6 => ?_)
    refine s_sub (lv2 := [(0, vR C.1.1 l0), (2, vI w1), (3, vI w6)]) [2, 1, 0] rfl ?_
    exact z_X10_count_L107 d hd K X 1000000000 l0 w1 w6 hw1 hw6
  refine s_split (fun e3_10 => ?_) (fun e3_10 => ?_)
  · refine s_tsin (tgt := 134) 10 X dX10_count_3 e3_10 (inI_c 10 rfl) (by decide) (by decide) rfl (by decide) ?_
    refine s_iconst (n := 0) (pc2 := 135) X dX10_count_134 rfl ?_
    refine s_istore_n (pc2 := 136) X dX10_count_135 rfl (by decide) rfl rfl cat1_I (inI_c 0 rfl) (fun w7 hw7 => ?_)
    refine s_sub (lv2 := [(0, vR C.1.1 l0), (2, vI w1), (3, vI w7)]) [2, 1, 0] rfl ?_
    exact z_X10_count_L136 d hd K X 1000000000 l0 w1 w7 hw1 hw7
  refine s_split (fun e3_11 => ?_) (fun e3_11 => ?_)
  · refine s_tsin (tgt := 179) 11 X dX10_count_3 e3_11 (inI_c 11 rfl) (by decide) (by decide) rfl (by decide) ?_
    refine s_aload_n (j := 1) (pc2 := 180) X dX10_count_179 rfl rfl ?_
    refine s_getI (pc2 := 183) X dX10_count_180 rfl fl_RX10_279 rfl (fun v8 hv8 => ?_)
    exact s_iret X dX10_count_183 hv8
  refine s_split (fun e3_12 => ?_) (fun e3_12 => ?_)
  · refine s_tsin (tgt := 184) 12 X dX10_count_3 e3_12 (inI_c 12 rfl) (by decide) (by decide) rfl (by decide) ?_
    refine s_aload_n (j := 1) (pc2 := 185) X dX10_count_184 rfl rfl ?_
    refine s_getI (pc2 := 188) X dX10_count_185 rfl fl_RX10_456 rfl (fun v9 hv9 => ?_)
    exact s_iret X dX10_count_188 hv9
  refine s_split (fun e3_13 => ?_) (fun e3_13 => ?_)
  · refine s_tsin (tgt := 189) 13 X dX10_count_3 e3_13 (inI_c 13 rfl) (by decide) (by decide) rfl (by decide) ?_
    refine s_aload_n (j := 1) (pc2 := 190) X dX10_count_189 rfl rfl ?_
    refine s_getI (pc2 := 193) X dX10_count_190 rfl fl_RX10_79 rfl (fun v10 hv10 => ?_)
    exact s_iret X dX10_count_193 hv10
  refine s_tsout (tgt := 194) X dX10_count_3 h1 (by omega) (by decide) ?_
  refine s_iconst (n := (-1)) (pc2 := 195) X dX10_count_194 rfl ?_
  exact s_iret X dX10_count_195 (inI_c (-1) rfl)
theorem c_X10_count (d : Nat) (hd : 2 ≤ d) (G : hG) (l : Launch) (l0 : Nat) (l1 : Int) (h1 : inI l1) : hMet G l yX10_count cX10_count 4 (some .int) d 0 0 [vR G.1 l0, vI l1] (m_X10_count l0 l1) := by
  refine hMet.of (lv := [(0, vR G.1 l0), (1, vI l1)]) (by decide +kernel) (by simp [lg_sl, vR_cat, vI_cat, vL_cat, vS_cat2, vT_cat2]) (by simp [lv_args, vR_cat, vI_cat, vL_cat, vS_cat2, vT_cat2]) (fun C K X => ?_)
  obtain ⟨rfl, rfl, K⟩ := K
  exact z_X10_count d hd ⟨rfl, rfl, K⟩ X l0 l1 h1
def m_X10_image_L33 : Nat → Nat → Int → Int → hM
  | 0, _, _, _ => hfail
  | n + 1, l0, l1, l2 =>
    hif (l2 ≥ 160) (
hgR 10 l0 20 fun v1 =>
  haI 20 v1 6 fun v2 =>
  hret v2) (
hgR 10 l0 40 fun v3 =>
  hgR 10 l0 20 fun v4 =>
  haI 20 v4 l2 fun v5 =>
  hsI 20 v3 ((w32 (((w32 (160 * l1))) + l2))) v5 <|
  hlet (w32 (l2 + 1)) fun (w6 : Int) =>
  m_X10_image_L33 n l0 l1 w6)
def m_X10_image (l0 : Nat) (l1 : Int) : hM :=
  hcall (m_X10_in l1 0 3) fun v1 =>
  hif (v1 ≠ 0) (
hgR 10 l0 42 fun v2 =>
  hsZ 23 v2 l1 1 <|
  hgR 10 l0 41 fun v3 =>
  hgI 10 l0 21 fun v4 =>
  hsI 20 v3 l1 v4 <|
  hlet (0 : Int) fun (w5 : Int) =>
  m_X10_image_L33 1000000000 l0 l1 w5) (
hret ((-1)))
set_option maxRecDepth 4000 in
theorem z_X10_image_L33 (d : Nat) (hd : 2 ≤ d) {C : hCx} (K : hCtx C.1 C.2.2.1 d 0 0 "image" C) (X : hOK C cX10_image RX10 3 (some .int)) : ∀ (n : Nat) (l0 : Nat) (l1 : Int) (l2 : Int) (h1 : inI l1) (h2 : inI l2), hSim C (some .int) 0 0 3 33 [(0, vR C.1.1 l0), (1, vI l1), (2, vI l2)] [] 0 0 (m_X10_image_L33 n l0 l1 l2) := by
  obtain ⟨⟨hf, hlo⟩, ⟨hc1, hc2⟩, hf1, hl1⟩ := K_room K (by omega)
  have hcs : 0 ≤ C.2.2.2.2.1.cells ∧ 0 ≤ C.2.2.2.2.1.slots := ⟨Nat.zero_le _, Nat.zero_le _⟩
  intro n
  induction n with
  | zero => intros; exact s_none (fun _ => rfl)
  | succ n ih =>
    intro l0 l1 l2 h1 h2
    unfold m_X10_image_L33
    refine s_iload_n (j := 2) (pc2 := 34) X dX10_image_33 rfl rfl ?_
    refine s_sipush (n := 160) (pc2 := 37) X dX10_image_34 rfl rfl ?_
    refine s_icge (tgt := 64) X dX10_image_37 (by decide) rfl h2 (inI_c 160 rfl) ?_ ?_
    · refine s_aload_n (j := 0) (pc2 := 65) X dX10_image_64 rfl rfl ?_
      refine s_getR (pc2 := 68) X dX10_image_65 rfl fl_RX10_39 rfl (fun v1 => ?_)
      refine s_bipush (n := 6) (pc2 := 70) X dX10_image_68 rfl rfl ?_
      refine s_iald (pc2 := 71) X dX10_image_70 rfl (fun v2 hv2 => ?_)
      exact s_iret X dX10_image_71 hv2
    · refine s_aload_n (j := 0) (pc2 := 41) X dX10_image_40 rfl rfl ?_
      refine s_getR (pc2 := 44) X dX10_image_41 rfl fl_RX10_69 rfl (fun v3 => ?_)
      refine s_sipush (n := 160) (pc2 := 47) X dX10_image_44 rfl rfl ?_
      refine s_iload_n (j := 1) (pc2 := 48) X dX10_image_47 rfl rfl ?_
      refine s_imul (pc2 := 49) X dX10_image_48 rfl ?_
      refine s_iload_n (j := 2) (pc2 := 50) X dX10_image_49 rfl rfl ?_
      refine s_iadd (pc2 := 51) X dX10_image_50 rfl ?_
      refine s_aload_n (j := 0) (pc2 := 52) X dX10_image_51 rfl rfl ?_
      refine s_getR (pc2 := 55) X dX10_image_52 rfl fl_RX10_39 rfl (fun v4 => ?_)
      refine s_iload_n (j := 2) (pc2 := 56) X dX10_image_55 rfl rfl ?_
      refine s_iald (pc2 := 57) X dX10_image_56 rfl (fun v5 hv5 => ?_)
      refine s_iast (pc2 := 58) X dX10_image_57 rfl hv5 ?_
      refine s_iinc (j := 2) (pc2 := 61) X dX10_image_58 rfl (by decide) rfl rfl rfl cat1_I (fun w6 hw6 => ?_)
      refine s_goto (pc2 := 33) X dX10_image_61 (by decide) ?_
      refine s_sub (lv2 := [(0, vR C.1.1 l0), (1, vI l1), (2, vI w6)]) [1, 2, 0] rfl ?_
      exact ih l0 l1 w6 h1 hw6
set_option maxRecDepth 4000 in
set_option maxHeartbeats 20000000 in
theorem z_X10_image (d : Nat) (hd : 2 ≤ d) {C : hCx} (K : hCtx C.1 C.2.2.1 d 0 0 "image" C) (X : hOK C cX10_image RX10 3 (some .int)) (l0 : Nat) (l1 : Int) (h1 : inI l1) : hSim C (some .int) 0 0 3 0 [(0, vR C.1.1 l0), (1, vI l1)] [] 0 0 (m_X10_image l0 l1) := by
  obtain ⟨⟨hf, hlo⟩, ⟨hc1, hc2⟩, hf1, hl1⟩ := K_room K (by omega)
  have hcs : 0 ≤ C.2.2.2.2.1.cells ∧ 0 ≤ C.2.2.2.2.1.slots := ⟨Nat.zero_le _, Nat.zero_le _⟩
  unfold m_X10_image
  refine s_iload_n (j := 1) (pc2 := 1) X dX10_image_0 rfl rfl ?_
  refine s_i2l (pc2 := 2) X dX10_image_1 rfl h1 ?_
  refine s_lconst (z := 0) (pc2 := 3) X dX10_image_2 rfl rfl ?_
  refine s_ldc2 (z := 3) (pc2 := 6) X dX10_image_3 rfl kc_RX10_476 ?_
  refine s_callSZ (d2 := d - 1) (As := [vL l1, vL 0, vL 3]) (st := []) (pc2 := 9) X dX10_image_6 rfl ml_RX10_118 sm_X10_in (c_X10_in (d - 1) (by omega) C.1 C.2.2.1 l1 0 3 (inL_of h1) (inL_c 0 rfl) (inL_c 3 rfl)) hy_X10_in rfl rfl hf hlo (st_room (Nat.le_of_ble_eq_true rfl)) hcs (fun v1 hv1 => ?_)
  refine s_ifne (tgt := 14) X dX10_image_9 (by decide) rfl hv1 ?_ ?_
  · refine s_aload_n (j := 0) (pc2 := 15) X dX10_image_14 rfl rfl ?_
    refine s_getR (pc2 := 18) X dX10_image_15 rfl fl_RX10_75 rfl (fun v2 => ?_)
    refine s_iload_n (j := 1) (pc2 := 19) X dX10_image_18 rfl rfl ?_
    refine s_iconst (n := 1) (pc2 := 20) X dX10_image_19 rfl ?_
    refine s_zast (pc2 := 21) X dX10_image_20 rfl ?_
    refine s_aload_n (j := 0) (pc2 := 22) X dX10_image_21 rfl rfl ?_
    refine s_getR (pc2 := 25) X dX10_image_22 rfl fl_RX10_72 rfl (fun v3 => ?_)
    refine s_iload_n (j := 1) (pc2 := 26) X dX10_image_25 rfl rfl ?_
    refine s_aload_n (j := 0) (pc2 := 27) X dX10_image_26 rfl rfl ?_
    refine s_getI (pc2 := 30) X dX10_image_27 rfl fl_RX10_456 rfl (fun v4 hv4 => ?_)
    refine s_iast (pc2 := 31) X dX10_image_30 rfl hv4 ?_
    refine s_iconst (n := 0) (pc2 := 32) X dX10_image_31 rfl ?_
    refine s_istore_n (pc2 := 33) X dX10_image_32 rfl (by decide) rfl rfl cat1_I (inI_c 0 rfl) (fun w5 hw5 => ?_)
    refine s_sub (lv2 := [(0, vR C.1.1 l0), (1, vI l1), (2, vI w5)]) [1, 2, 0] rfl ?_
    exact z_X10_image_L33 d hd K X 1000000000 l0 l1 w5 h1 hw5
  · refine s_iconst (n := (-1)) (pc2 := 13) X dX10_image_12 rfl ?_
    exact s_iret X dX10_image_13 (inI_c (-1) rfl)
theorem c_X10_image (d : Nat) (hd : 2 ≤ d) (G : hG) (l : Launch) (l0 : Nat) (l1 : Int) (h1 : inI l1) : hMet G l yX10_image cX10_image 3 (some .int) d 0 0 [vR G.1 l0, vI l1] (m_X10_image l0 l1) := by
  refine hMet.of (lv := [(0, vR G.1 l0), (1, vI l1)]) (by decide +kernel) (by simp [lg_sl, vR_cat, vI_cat, vL_cat, vS_cat2, vT_cat2]) (by simp [lv_args, vR_cat, vI_cat, vL_cat, vS_cat2, vT_cat2]) (fun C K X => ?_)
  obtain ⟨rfl, rfl, K⟩ := K
  exact z_X10_image d hd ⟨rfl, rfl, K⟩ X l0 l1 h1
def m_X10_back_L21 : hM :=
  hret ((-1))
def m_X10_back_L40 : Nat → Nat → Int → Int → hM
  | 0, _, _, _ => hfail
  | n + 1, l0, l1, l2 =>
    hif (l2 ≥ 160) (
hgR 10 l0 20 fun v1 =>
  haI 20 v1 6 fun v2 =>
  hret v2) (
hgR 10 l0 20 fun v3 =>
  hgR 10 l0 40 fun v4 =>
  haI 20 v4 ((w32 (((w32 (160 * l1))) + l2))) fun v5 =>
  hsI 20 v3 l2 v5 <|
  hlet (w32 (l2 + 1)) fun (w6 : Int) =>
  m_X10_back_L40 n l0 l1 w6)
def m_X10_back (l0 : Nat) (l1 : Int) : hM :=
  hcall (m_X10_in l1 0 3) fun v1 =>
  hif (v1 = 0) (
m_X10_back_L21) (
hgR 10 l0 42 fun v2 =>
  haI 23 v2 l1 fun v3 =>
  hif (v3 ≠ 0) (
hgR 10 l0 41 fun v4 =>
  haI 20 v4 l1 fun v5 =>
  hpI 10 l0 21 v5 <|
  hpI 10 l0 25 0 <|
  hlet (0 : Int) fun (w6 : Int) =>
  m_X10_back_L40 1000000000 l0 l1 w6) (
m_X10_back_L21))
set_option maxRecDepth 4000 in
theorem z_X10_back_L21 (d : Nat) (hd : 2 ≤ d) {C : hCx} (K : hCtx C.1 C.2.2.1 d 0 0 "back" C) (X : hOK C cX10_back RX10 3 (some .int)) : hSim C (some .int) 0 0 3 21 [] [] 0 0 (m_X10_back_L21) := by
  obtain ⟨⟨hf, hlo⟩, ⟨hc1, hc2⟩, hf1, hl1⟩ := K_room K (by omega)
  have hcs : 0 ≤ C.2.2.2.2.1.cells ∧ 0 ≤ C.2.2.2.2.1.slots := ⟨Nat.zero_le _, Nat.zero_le _⟩
  unfold m_X10_back_L21
  refine s_iconst (n := (-1)) (pc2 := 22) X dX10_back_21 rfl ?_
  exact s_iret X dX10_back_22 (inI_c (-1) rfl)
set_option maxRecDepth 4000 in
theorem z_X10_back_L40 (d : Nat) (hd : 2 ≤ d) {C : hCx} (K : hCtx C.1 C.2.2.1 d 0 0 "back" C) (X : hOK C cX10_back RX10 3 (some .int)) : ∀ (n : Nat) (l0 : Nat) (l1 : Int) (l2 : Int) (h1 : inI l1) (h2 : inI l2), hSim C (some .int) 0 0 3 40 [(0, vR C.1.1 l0), (1, vI l1), (2, vI l2)] [] 0 0 (m_X10_back_L40 n l0 l1 l2) := by
  obtain ⟨⟨hf, hlo⟩, ⟨hc1, hc2⟩, hf1, hl1⟩ := K_room K (by omega)
  have hcs : 0 ≤ C.2.2.2.2.1.cells ∧ 0 ≤ C.2.2.2.2.1.slots := ⟨Nat.zero_le _, Nat.zero_le _⟩
  intro n
  induction n with
  | zero => intros; exact s_none (fun _ => rfl)
  | succ n ih =>
    intro l0 l1 l2 h1 h2
    unfold m_X10_back_L40
    refine s_iload_n (j := 2) (pc2 := 41) X dX10_back_40 rfl rfl ?_
    refine s_sipush (n := 160) (pc2 := 44) X dX10_back_41 rfl rfl ?_
    refine s_icge (tgt := 71) X dX10_back_44 (by decide) rfl h2 (inI_c 160 rfl) ?_ ?_
    · refine s_aload_n (j := 0) (pc2 := 72) X dX10_back_71 rfl rfl ?_
      refine s_getR (pc2 := 75) X dX10_back_72 rfl fl_RX10_39 rfl (fun v1 => ?_)
      refine s_bipush (n := 6) (pc2 := 77) X dX10_back_75 rfl rfl ?_
      refine s_iald (pc2 := 78) X dX10_back_77 rfl (fun v2 hv2 => ?_)
      exact s_iret X dX10_back_78 hv2
    · refine s_aload_n (j := 0) (pc2 := 48) X dX10_back_47 rfl rfl ?_
      refine s_getR (pc2 := 51) X dX10_back_48 rfl fl_RX10_39 rfl (fun v3 => ?_)
      refine s_iload_n (j := 2) (pc2 := 52) X dX10_back_51 rfl rfl ?_
      refine s_aload_n (j := 0) (pc2 := 53) X dX10_back_52 rfl rfl ?_
      refine s_getR (pc2 := 56) X dX10_back_53 rfl fl_RX10_69 rfl (fun v4 => ?_)
      refine s_sipush (n := 160) (pc2 := 59) X dX10_back_56 rfl rfl ?_
      refine s_iload_n (j := 1) (pc2 := 60) X dX10_back_59 rfl rfl ?_
      refine s_imul (pc2 := 61) X dX10_back_60 rfl ?_
      refine s_iload_n (j := 2) (pc2 := 62) X dX10_back_61 rfl rfl ?_
      refine s_iadd (pc2 := 63) X dX10_back_62 rfl ?_
      refine s_iald (pc2 := 64) X dX10_back_63 rfl (fun v5 hv5 => ?_)
      refine s_iast (pc2 := 65) X dX10_back_64 rfl hv5 ?_
      refine s_iinc (j := 2) (pc2 := 68) X dX10_back_65 rfl (by decide) rfl rfl rfl cat1_I (fun w6 hw6 => ?_)
      refine s_goto (pc2 := 40) X dX10_back_68 (by decide) ?_
      refine s_sub (lv2 := [(0, vR C.1.1 l0), (1, vI l1), (2, vI w6)]) [1, 2, 0] rfl ?_
      exact ih l0 l1 w6 h1 hw6
set_option maxRecDepth 4000 in
set_option maxHeartbeats 20000000 in
theorem z_X10_back (d : Nat) (hd : 2 ≤ d) {C : hCx} (K : hCtx C.1 C.2.2.1 d 0 0 "back" C) (X : hOK C cX10_back RX10 3 (some .int)) (l0 : Nat) (l1 : Int) (h1 : inI l1) : hSim C (some .int) 0 0 3 0 [(0, vR C.1.1 l0), (1, vI l1)] [] 0 0 (m_X10_back l0 l1) := by
  obtain ⟨⟨hf, hlo⟩, ⟨hc1, hc2⟩, hf1, hl1⟩ := K_room K (by omega)
  have hcs : 0 ≤ C.2.2.2.2.1.cells ∧ 0 ≤ C.2.2.2.2.1.slots := ⟨Nat.zero_le _, Nat.zero_le _⟩
  unfold m_X10_back
  refine s_iload_n (j := 1) (pc2 := 1) X dX10_back_0 rfl rfl ?_
  refine s_i2l (pc2 := 2) X dX10_back_1 rfl h1 ?_
  refine s_lconst (z := 0) (pc2 := 3) X dX10_back_2 rfl rfl ?_
  refine s_ldc2 (z := 3) (pc2 := 6) X dX10_back_3 rfl kc_RX10_476 ?_
  refine s_callSZ (d2 := d - 1) (As := [vL l1, vL 0, vL 3]) (st := []) (pc2 := 9) X dX10_back_6 rfl ml_RX10_118 sm_X10_in (c_X10_in (d - 1) (by omega) C.1 C.2.2.1 l1 0 3 (inL_of h1) (inL_c 0 rfl) (inL_c 3 rfl)) hy_X10_in rfl rfl hf hlo (st_room (Nat.le_of_ble_eq_true rfl)) hcs (fun v1 hv1 => ?_)
  refine s_ifeq (tgt := 21) X dX10_back_9 (by decide) rfl hv1 ?_ ?_
  · refine s_sub (lv2 := []) [] rfl ?_
    exact z_X10_back_L21 d hd K X
  · refine s_aload_n (j := 0) (pc2 := 13) X dX10_back_12 rfl rfl ?_
    refine s_getR (pc2 := 16) X dX10_back_13 rfl fl_RX10_75 rfl (fun v2 => ?_)
    refine s_iload_n (j := 1) (pc2 := 17) X dX10_back_16 rfl rfl ?_
    refine s_zald (pc2 := 18) X dX10_back_17 rfl (fun v3 hv3 => ?_)
    refine s_ifne (tgt := 23) X dX10_back_18 (by decide) rfl hv3 ?_ ?_
    · refine s_aload_n (j := 0) (pc2 := 24) X dX10_back_23 rfl rfl ?_
      refine s_aload_n (j := 0) (pc2 := 25) X dX10_back_24 rfl rfl ?_
      refine s_getR (pc2 := 28) X dX10_back_25 rfl fl_RX10_72 rfl (fun v4 => ?_)
      refine s_iload_n (j := 1) (pc2 := 29) X dX10_back_28 rfl rfl ?_
      refine s_iald (pc2 := 30) X dX10_back_29 rfl (fun v5 hv5 => ?_)
      refine s_putI (pc2 := 33) X dX10_back_30 rfl fl_RX10_456 (Or.inl rfl) rfl hv5 ?_
      refine s_aload_n (j := 0) (pc2 := 34) X dX10_back_33 rfl rfl ?_
      refine s_iconst (n := 0) (pc2 := 35) X dX10_back_34 rfl ?_
      refine s_putI (pc2 := 38) X dX10_back_35 rfl fl_RX10_279 (Or.inl rfl) rfl (inI_c 0 rfl) ?_
      refine s_iconst (n := 0) (pc2 := 39) X dX10_back_38 rfl ?_
      refine s_istore_n (pc2 := 40) X dX10_back_39 rfl (by decide) rfl rfl cat1_I (inI_c 0 rfl) (fun w6 hw6 => ?_)
      refine s_sub (lv2 := [(0, vR C.1.1 l0), (1, vI l1), (2, vI w6)]) [1, 2, 0] rfl ?_
      exact z_X10_back_L40 d hd K X 1000000000 l0 l1 w6 h1 hw6
    · refine s_sub (lv2 := []) [] rfl ?_
      exact z_X10_back_L21 d hd K X
theorem c_X10_back (d : Nat) (hd : 2 ≤ d) (G : hG) (l : Launch) (l0 : Nat) (l1 : Int) (h1 : inI l1) : hMet G l yX10_back cX10_back 3 (some .int) d 0 0 [vR G.1 l0, vI l1] (m_X10_back l0 l1) := by
  refine hMet.of (lv := [(0, vR G.1 l0), (1, vI l1)]) (by decide +kernel) (by simp [lg_sl, vR_cat, vI_cat, vL_cat, vS_cat2, vT_cat2]) (by simp [lv_args, vR_cat, vI_cat, vL_cat, vS_cat2, vT_cat2]) (fun C K X => ?_)
  obtain ⟨rfl, rfl, K⟩ := K
  exact z_X10_back d hd ⟨rfl, rfl, K⟩ X l0 l1 h1
