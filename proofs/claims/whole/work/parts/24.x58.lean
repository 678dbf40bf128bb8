def m_X5_init (l0 : Nat) (l1 : Nat) : hM :=
  hnewA 20 9 fun v1 =>
  hpR 5 l0 0 v1 <|
  hnewA 20 9 fun v2 =>
  hpR 5 l0 1 v2 <|
  hnewA 20 256 fun v3 =>
  hpR 5 l0 2 v3 <|
  hnewA 20 256 fun v4 =>
  hpR 5 l0 3 v4 <|
  hnewA 20 256 fun v5 =>
  hpR 5 l0 4 v5 <|
  hpI 5 l0 6 0 <|
  hpI 5 l0 7 0 <|
  hpI 5 l0 8 0 <|
  hpI 5 l0 9 0 <|
  hpR 5 l0 5 l1 <|
  hret 0
set_option maxRecDepth 4000 in
set_option maxHeartbeats 20000000 in
theorem z_X5_init (d : Nat) (hd : 1 ≤ d) {C : hCx} (K : hCtx C.1 C.2.2.1 d 5 786 "<init>" C) (X : hOK C cX5_init RX5 2 none) (l0 : Nat) (l1 : Nat) (p0 : 0 < l0) : hSim C none 5 786 2 0 [(0, vR C.1.1 l0), (1, vR C.1.1 l1)] [] 0 0 (m_X5_init l0 l1) := by
  obtain ⟨⟨hf, hlo⟩, ⟨hc1, hc2⟩, hf1, hl1⟩ := K_room K (by omega)
  have hcs : 0 ≤ C.2.2.2.2.1.cells ∧ 0 ≤ C.2.2.2.2.1.slots := ⟨Nat.zero_le _, Nat.zero_le _⟩
  unfold m_X5_init
  refine s_aload_n (j := 0) (pc2 := 1) X dX5_init_0 rfl rfl ?_
  refine s_objI (pc2 := 4) X dX5_init_1 rfl ml_RX5_3 im_objectInit co_objectInit p0 hf1 hl1 (st_room (Nat.le_of_ble_eq_true rfl)) ?_
  refine s_aload_n (j := 0) (pc2 := 5) X dX5_init_4 rfl rfl ?_
  refine s_bipush (n := 9) (pc2 := 7) X dX5_init_5 rfl rfl ?_
  refine s_newa20 (N := 9) (pc2 := 9) X dX5_init_7 rfl rfl (by decide) ac_int (by rw [hc1]; exact Nat.le_of_ble_eq_true rfl) (by rw [hc2]; exact Nat.le_of_ble_eq_true rfl) (fun v1 => ?_)
  refine s_cs 1 9 rfl rfl ?_
  refine s_putR (pc2 := 12) X dX5_init_9 rfl fl_RX5_9 (Or.inr ⟨K.2.2.2, _, rfl, rfl⟩) rfl ?_
  refine s_aload_n (j := 0) (pc2 := 13) X dX5_init_12 rfl rfl ?_
  refine s_bipush (n := 9) (pc2 := 15) X dX5_init_13 rfl rfl ?_
  refine s_newa20 (N := 9) (pc2 := 17) X dX5_init_15 rfl rfl (by decide) ac_int (by rw [hc1]; exact Nat.le_of_ble_eq_true rfl) (by rw [hc2]; exact Nat.le_of_ble_eq_true rfl) (fun v2 => ?_)
  refine s_cs 2 18 rfl rfl ?_
  refine s_putR (pc2 := 20) X dX5_init_17 rfl fl_RX5_15 (Or.inr ⟨K.2.2.2, _, rfl, rfl⟩) rfl ?_
  refine s_aload_n (j := 0) (pc2 := 21) X dX5_init_20 rfl rfl ?_
  refine s_sipush (n := 256) (pc2 := 24) X dX5_init_21 rfl rfl ?_
  refine s_newa20 (N := 256) (pc2 := 26) X dX5_init_24 rfl rfl (by decide) ac_int (by rw [hc1]; exact Nat.le_of_ble_eq_true rfl) (by rw [hc2]; exact Nat.le_of_ble_eq_true rfl) (fun v3 => ?_)
  refine s_cs 3 274 rfl rfl ?_
  refine s_putR (pc2 := 29) X dX5_init_26 rfl fl_RX5_18 (Or.inr ⟨K.2.2.2, _, rfl, rfl⟩) rfl ?_
  refine s_aload_n (j := 0) (pc2 := 30) X dX5_init_29 rfl rfl ?_
  refine s_sipush (n := 256) (pc2 := 33) X dX5_init_30 rfl rfl ?_
  refine s_newa20 (N := 256) (pc2 := 35) X dX5_init_33 rfl rfl (by decide) ac_int (by rw [hc1]; exact Nat.le_of_ble_eq_true rfl) (by rw [hc2]; exact Nat.le_of_ble_eq_true rfl) (fun v4 => ?_)
  refine s_cs 4 530 rfl rfl ?_
  refine s_putR (pc2 := 38) X dX5_init_35 rfl fl_RX5_21 (Or.inr ⟨K.2.2.2, _, rfl, rfl⟩) rfl ?_
  refine s_aload_n (j := 0) (pc2 := 39) X dX5_init_38 rfl rfl ?_
  refine s_sipush (n := 256) (pc2 := 42) X dX5_init_39 rfl rfl ?_
  refine s_newa20 (N := 256) (pc2 := 44) X dX5_init_42 rfl rfl (by decide) ac_int (by rw [hc1]; exact Nat.le_of_ble_eq_true rfl) (by rw [hc2]; exact Nat.le_of_ble_eq_true rfl) (fun v5 => ?_)
  refine s_cs 5 786 rfl rfl ?_
  refine s_putR (pc2 := 47) X dX5_init_44 rfl fl_RX5_24 (Or.inr ⟨K.2.2.2, _, rfl, rfl⟩) rfl ?_
  refine s_aload_n (j := 0) (pc2 := 48) X dX5_init_47 rfl rfl ?_
  refine s_iconst (n := 0) (pc2 := 49) X dX5_init_48 rfl ?_
  refine s_putI (pc2 := 52) X dX5_init_49 rfl fl_RX5_27 (Or.inl rfl) rfl (inI_c 0 rfl) ?_
  refine s_aload_n (j := 0) (pc2 := 53) X dX5_init_52 rfl rfl ?_
  refine s_iconst (n := 0) (pc2 := 54) X dX5_init_53 rfl ?_
  refine s_putI (pc2 := 57) X dX5_init_54 rfl fl_RX5_31 (Or.inl rfl) rfl (inI_c 0 rfl) ?_
  refine s_aload_n (j := 0) (pc2 := 58) X dX5_init_57 rfl rfl ?_
  refine s_iconst (n := 0) (pc2 := 59) X dX5_init_58 rfl ?_
  refine s_putI (pc2 := 62) X dX5_init_59 rfl fl_RX5_34 (Or.inl rfl) rfl (inI_c 0 rfl) ?_
  refine s_aload_n (j := 0) (pc2 := 63) X dX5_init_62 rfl rfl ?_
  refine s_iconst (n := 0) (pc2 := 64) X dX5_init_63 rfl ?_
  refine s_putI (pc2 := 67) X dX5_init_64 rfl fl_RX5_37 (Or.inl rfl) rfl (inI_c 0 rfl) ?_
  refine s_aload_n (j := 0) (pc2 := 68) X dX5_init_67 rfl rfl ?_
  refine s_aload_n (j := 1) (pc2 := 69) X dX5_init_68 rfl rfl ?_
  refine s_putR (pc2 := 72) X dX5_init_69 rfl fl_RX5_40 (Or.inl rfl) rfl ?_
  exact s_ret X dX5_init_72
theorem c_X5_init (d : Nat) (hd : 1 ≤ d) (G : hG) (l : Launch) (l0 : Nat) (l1 : Nat) (p0 : 0 < l0) : hMet G l yX5_init cX5_init 2 none d 5 786 [vR G.1 l0, vR G.1 l1] (m_X5_init l0 l1) := by
  refine hMet.of (lv := [(0, vR G.1 l0), (1, vR G.1 l1)]) (by decide +kernel) (by simp [lg_sl, vR_cat, vI_cat, vL_cat, vS_cat2, vT_cat2]) (by simp [lv_args, vR_cat, vI_cat, vL_cat, vS_cat2, vT_cat2]) (fun C K X => ?_)
  obtain ⟨rfl, rfl, K⟩ := K
  exact z_X5_init d hd ⟨rfl, rfl, K⟩ X l0 l1 p0
def m_X5_prepare_L147 (s0 : Int) : hM :=
  hretZ s0
def m_X5_prepare_L126 (l0 : Nat) (l3 : Int) : hM :=
  hpI 5 l0 7 ((w32 (l3 - 1))) <|
  hgI 5 l0 6 fun v1 =>
  hif (v1 > 8) (
m_X5_prepare_L147 0) (
m_X5_prepare_L147 1)
def m_X5_prepare_L44 : Nat → Nat → Nat → Int → Int → Int → hM
  | 0, _, _, _, _, _ => hfail
  | n + 1, l0, l1, l2, l3, l4 =>
    hgR 5 l0 5 fun v1 =>
  hgI 1 v1 3 fun v2 =>
  hif (l4 ≥ v2) (
m_X5_prepare_L126 l0 l3) (
hgI 5 l0 6 fun v3 =>
  hif (v3 > 8) (
m_X5_prepare_L126 l0 l3) (
hgR 5 l0 0 fun v4 =>
  hgR 4 l1 5 fun v5 =>
  haI 20 v5 ((w32 (((w32 (l2 * 9))) + l4))) fun v6 =>
  hsI 20 v4 l4 v6 <|
  hgI 5 l0 6 fun v7 =>
  hgR 5 l0 0 fun v8 =>
  haI 20 v8 l4 fun v9 =>
  hpI 5 l0 6 ((w32 (v7 + v9))) <|
  hgR 5 l0 1 fun v10 =>
  hsI 20 v10 l4 l3 <|
  hgR 5 l0 0 fun v11 =>
  haI 20 v11 l4 fun v12 =>
  hlet ((w32 (l3 * ((w32 (v12 + 1)))))) fun (w13 : Int) =>
  hlet (w32 (l4 + 1)) fun (w14 : Int) =>
  m_X5_prepare_L44 n l0 l1 l2 w13 w14))
def m_X5_prepare (l0 : Nat) (l1 : Nat) (l2 : Int) : hM :=
  hgR 4 l1 0 fun v1 =>
  hgR 7 v1 2 fun v2 =>
  hpR 5 l0 5 v2 <|
  hgR 4 l1 0 fun v3 =>
  hgR 7 v3 8 fun v4 =>
  haI 20 v4 l2 fun v5 =>
  hpI 5 l0 8 v5 <|
  hgR 4 l1 2 fun v6 =>
  haI 20 v6 l2 fun v7 =>
  hpI 5 l0 9 v7 <|
  hpI 5 l0 6 0 <|
  hlet (1 : Int) fun (w8 : Int) =>
  hlet (0 : Int) fun (w9 : Int) =>
  m_X5_prepare_L44 1000000000 l0 l1 l2 w8 w9
set_option maxRecDepth 4000 in
theorem z_X5_prepare_L147 (d : Nat) (hd : 1 ≤ d) {C : hCx} (K : hCtx C.1 C.2.2.1 d 0 0 "prepare" C) (X : hOK C cX5_prepare RX5 5 (some .boolean)) (s0 : Int) (g0 : inI s0) : hSim C (some .boolean) 0 0 5 147 [] [vI s0] 0 0 (m_X5_prepare_L147 s0) := by
  obtain ⟨⟨hf, hlo⟩, ⟨hc1, hc2⟩, hf1, hl1⟩ := K_room K (by omega)
  have hcs : 0 ≤ C.2.2.2.2.1.cells ∧ 0 ≤ C.2.2.2.2.1.slots := ⟨Nat.zero_le _, Nat.zero_le _⟩
  unfold m_X5_prepare_L147
  exact s_zret X dX5_prepare_147
set_option maxRecDepth 4000 in
theorem z_X5_prepare_L126 (d : Nat) (hd : 1 ≤ d) {C : hCx} (K : hCtx C.1 C.2.2.1 d 0 0 "prepare" C) (X : hOK C cX5_prepare RX5 5 (some .boolean)) (l0 : Nat) (l3 : Int) (h3 : inI l3) : hSim C (some .boolean) 0 0 5 126 [(0, vR C.1.1 l0), (3, vI l3)] [] 0 0 (m_X5_prepare_L126 l0 l3) := by
  obtain ⟨⟨hf, hlo⟩, ⟨hc1, hc2⟩, hf1, hl1⟩ := K_room K (by omega)
  have hcs : 0 ≤ C.2.2.2.2.1.cells ∧ 0 ≤ C.2.2.2.2.1.slots := ⟨Nat.zero_le _, Nat.zero_le _⟩
  unfold m_X5_prepare_L126
  refine s_aload_n (j := 0) (pc2 := 127) X dX5_prepare_126 rfl rfl ?_
  refine s_iload_n (j := 1) (pc2 := 128) X dX5_prepare_127 rfl rfl ?_
  refine s_iconst (n := 1) (pc2 := 129) X dX5_prepare_128 rfl ?_
  refine s_isub (pc2 := 130) X dX5_prepare_129 rfl ?_
  refine s_putI (pc2 := 133) X dX5_prepare_130 rfl fl_RX5_31 (Or.inl rfl) rfl (w32_in _) ?_
  refine s_aload_n (j := 0) (pc2 := 134) X dX5_prepare_133 rfl rfl ?_
  refine s_getI (pc2 := 137) X dX5_prepare_134 rfl fl_RX5_27 rfl (fun v1 hv1 => ?_)
  refine s_bipush (n := 8) (pc2 := 139) X dX5_prepare_137 rfl rfl ?_
  refine s_icgt (tgt := 146) X dX5_prepare_139 (by decide) rfl hv1 (inI_c 8 rfl) ?_ ?_
  · refine s_iconst (n := 0) (pc2 := 147) X dX5_prepare_146 rfl ?_
    refine s_sub (lv2 := []) [] rfl ?_
    exact z_X5_prepare_L147 d hd K X 0 (inI_c 0 rfl)
  · refine s_iconst (n := 1) (pc2 := 143) X dX5_prepare_142 rfl ?_
    refine s_goto (pc2 := 147) X dX5_prepare_143 (by decide) ?_
    refine s_sub (lv2 := []) [] rfl ?_
    exact z_X5_prepare_L147 d hd K X 1 (inI_c 1 rfl)
set_option maxRecDepth 4000 in
theorem z_X5_prepare_L44 (d : Nat) (hd : 1 ≤ d) {C : hCx} (K : hCtx C.1 C.2.2.1 d 0 0 "prepare" C) (X : hOK C cX5_prepare RX5 5 (some .boolean)) : ∀ (n : Nat) (l0 : Nat) (l1 : Nat) (l2 : Int) (l3 : Int) (l4 : Int) (h2 : inI l2) (h3 : inI l3) (h4 : inI l4), hSim C (some .boolean) 0 0 5 44 [(0, vR C.1.1 l0), (1, vR C.1.1 l1), (2, vI l2), (3, vI l3), (4, vI l4)] [] 0 0 (m_X5_prepare_L44 n l0 l1 l2 l3 l4) := by
  obtain ⟨⟨hf, hlo⟩, ⟨hc1, hc2⟩, hf1, hl1⟩ := K_room K (by omega)
  have hcs : 0 ≤ C.2.2.2.2.1.cells ∧ 0 ≤ C.2.2.2.2.1.slots := ⟨Nat.zero_le _, Nat.zero_le _⟩
  intro n
  induction n with
  | zero => intros; exact s_none (fun _ => rfl)
  | succ n ih =>
    intro l0 l1 l2 l3 l4 h2 h3 h4
    unfold m_X5_prepare_L44
    refine s_iload (j := 4) (pc2 := 46) X dX5_prepare_44 rfl rfl ?_
    refine s_aload_n (j := 0) (pc2 := 47) X dX5_prepare_46 rfl rfl ?_
    refine s_getR (pc2 := 50) X dX5_prepare_47 rfl fl_RX5_40 rfl (fun v1 => ?_)
    refine s_getI (pc2 := 53) X dX5_prepare_50 rfl fl_RX5_59 rfl (fun v2 hv2 => ?_)
    refine s_icge (tgt := 126) X dX5_prepare_53 (by decide) rfl h4 hv2 ?_ ?_
    · refine s_sub (lv2 := [(0, vR C.1.1 l0), (3, vI l3)]) [0, 3] rfl ?_
      exact z_X5_prepare_L126 d hd K X l0 l3 h3
    · refine s_aload_n (j := 0) (pc2 := 57) X dX5_prepare_56 rfl rfl ?_
      refine s_getI (pc2 := 60) X dX5_prepare_57 rfl fl_RX5_27 rfl (fun v3 hv3 => ?_)
      refine s_bipush (n := 8) (pc2 := 62) X dX5_prepare_60 rfl rfl ?_
      refine s_icgt (tgt := 126) X dX5_prepare_62 (by decide) rfl hv3 (inI_c 8 rfl) ?_ ?_
      · refine s_sub (lv2 := [(0, vR C.1.1 l0), (3, vI l3)]) [0, 3] rfl ?_
        exact z_X5_prepare_L126 d hd K X l0 l3 h3
      · refine s_aload_n (j := 0) (pc2 := 66) X dX5_prepare_65 rfl rfl ?_
        refine s_getR (pc2 := 69) X dX5_prepare_66 rfl fl_RX5_9 rfl (fun v4 => ?_)
        refine s_iload (j := 4) (pc2 := 71) X dX5_prepare_69 rfl rfl ?_
        refine s_aload_n (j := 1) (pc2 := 72) X dX5_prepare_71 rfl rfl ?_
        refine s_getR (pc2 := 75) X dX5_prepare_72 rfl fl_RX5_64 rfl (fun v5 => ?_)
        refine s_iload_n (j := 2) (pc2 := 76) X dX5_prepare_75 rfl rfl ?_
        refine s_bipush (n := 9) (pc2 := 78) X dX5_prepare_76 rfl rfl ?_
        refine s_imul (pc2 := 79) X dX5_prepare_78 rfl ?_
        refine s_iload (j := 4) (pc2 := 81) X dX5_prepare_79 rfl rfl ?_
        refine s_iadd (pc2 := 82) X dX5_prepare_81 rfl ?_
        refine s_iald (pc2 := 83) X dX5_prepare_82 rfl (fun v6 hv6 => ?_)
        refine s_iast (pc2 := 84) X dX5_prepare_83 rfl hv6 ?_
        refine s_aload_n (j := 0) (pc2 := 85) X dX5_prepare_84 rfl rfl ?_
        refine s_dup (pc2 := 86) X dX5_prepare_85 rfl (vR_cat _ _) ?_
        refine s_getI (pc2 := 89) X dX5_prepare_86 rfl fl_RX5_27 rfl (fun v7 hv7 => ?_)
        refine s_aload_n (j := 0) (pc2 := 90) X dX5_prepare_89 rfl rfl ?_
        refine s_getR (pc2 := 93) X dX5_prepare_90 rfl fl_RX5_9 rfl (fun v8 => ?_)
        refine s_iload (j := 4) (pc2 := 95) X dX5_prepare_93 rfl rfl ?_
        refine s_iald (pc2 := 96) X dX5_prepare_95 rfl (fun v9 hv9 => ?_)
        refine s_iadd (pc2 := 97) X dX5_prepare_96 rfl ?_
        refine s_putI (pc2 := 100) X dX5_prepare_97 rfl fl_RX5_27 (Or.inl rfl) rfl (w32_in _) ?_
        refine s_aload_n (j := 0) (pc2 := 101) X dX5_prepare_100 rfl rfl ?_
        refine s_getR (pc2 := 104) X dX5_prepare_101 rfl fl_RX5_15 rfl (fun v10 => ?_)
        refine s_iload (j := 4) (pc2 := 106) X dX5_prepare_104 rfl rfl ?_
        refine s_iload_n (j := 3) (pc2 := 107) X dX5_prepare_106 rfl rfl ?_
        refine s_iast (pc2 := 108) X dX5_prepare_107 rfl h3 ?_
        refine s_iload_n (j := 3) (pc2 := 109) X dX5_prepare_108 rfl rfl ?_
        refine s_aload_n (j := 0) (pc2 := 110) X dX5_prepare_109 rfl rfl ?_
        refine s_getR (pc2 := 113) X dX5_prepare_110 rfl fl_RX5_9 rfl (fun v11 => ?_)
        refine s_iload (j := 4) (pc2 := 115) X dX5_prepare_113 rfl rfl ?_
        refine s_iald (pc2 := 116) X dX5_prepare_115 rfl (fun v12 hv12 => ?_)
        refine s_iconst (n := 1) (pc2 := 117) X dX5_prepare_116 rfl ?_
        refine s_iadd (pc2 := 118) X dX5_prepare_117 rfl ?_
        refine s_imul (pc2 := 119) X dX5_prepare_118 rfl ?_
        refine s_istore_n (pc2 := 120) X dX5_prepare_119 rfl (by decide) rfl rfl cat1_I (w32_in _) (fun w13 hw13 => ?_)
        refine s_iinc (j := 4) (pc2 := 123) X dX5_prepare_120 rfl (by decide) rfl rfl rfl cat1_I (fun w14 hw14 => ?_)
        refine s_goto (pc2 := 44) X dX5_prepare_123 (by decide) ?_
        refine s_sub (lv2 := [(0, vR C.1.1 l0), (1, vR C.1.1 l1), (2, vI l2), (3, vI w13), (4, vI w14)]) [2, 3, 4, 1, 0] rfl ?_
        exact ih l0 l1 l2 w13 w14 h2 hw13 hw14
set_option maxRecDepth 4000 in
set_option maxHeartbeats 20000000 in
theorem z_X5_prepare (d : Nat) (hd : 1 ≤ d) {C : hCx} (K : hCtx C.1 C.2.2.1 d 0 0 "prepare" C) (X : hOK C cX5_prepare RX5 5 (some .boolean)) (l0 : Nat) (l1 : Nat) (l2 : Int) (h2 : inI l2) : hSim C (some .boolean) 0 0 5 0 [(0, vR C.1.1 l0), (1, vR C.1.1 l1), (2, vI l2)] [] 0 0 (m_X5_prepare l0 l1 l2) := by
  obtain ⟨⟨hf, hlo⟩, ⟨hc1, hc2⟩, hf1, hl1⟩ := K_room K (by omega)
  have hcs : 0 ≤ C.2.2.2.2.1.cells ∧ 0 ≤ C.2.2.2.2.1.slots := ⟨Nat.zero_le _, Nat.zero_le _⟩
  unfold m_X5_prepare
  refine s_aload_n (j := 0) (pc2 := 1) X dX5_prepare_0 rfl rfl ?_
  refine s_aload_n (j := 1) (pc2 := 2) X dX5_prepare_1 rfl rfl ?_
  refine s_getR (pc2 := 5) X dX5_prepare_2 rfl fl_RX5_44 rfl (fun v1 => ?_)
  refine s_getR (pc2 := 8) X dX5_prepare_5 rfl fl_RX5_50 rfl (fun v2 => ?_)
  refine s_putR (pc2 := 11) X dX5_prepare_8 rfl fl_RX5_40 (Or.inl rfl) rfl ?_
  refine s_aload_n (j := 0) (pc2 := 12) X dX5_prepare_11 rfl rfl ?_
  refine s_aload_n (j := 1) (pc2 := 13) X dX5_prepare_12 rfl rfl ?_
  refine s_getR (pc2 := 16) X dX5_prepare_13 rfl fl_RX5_44 rfl (fun v3 => ?_)
  refine s_getR (pc2 := 19) X dX5_prepare_16 rfl fl_RX5_53 rfl (fun v4 => ?_)
  refine s_iload_n (j := 2) (pc2 := 20) X dX5_prepare_19 rfl rfl ?_
  refine s_iald (pc2 := 21) X dX5_prepare_20 rfl (fun v5 hv5 => ?_)
  refine s_putI (pc2 := 24) X dX5_prepare_21 rfl fl_RX5_34 (Or.inl rfl) rfl hv5 ?_
  refine s_aload_n (j := 0) (pc2 := 25) X dX5_prepare_24 rfl rfl ?_
  refine s_aload_n (j := 1) (pc2 := 26) X dX5_prepare_25 rfl rfl ?_
  refine s_getR (pc2 := 29) X dX5_prepare_26 rfl fl_RX5_56 rfl (fun v6 => ?_)
  refine s_iload_n (j := 2) (pc2 := 30) X dX5_prepare_29 rfl rfl ?_
  refine s_iald (pc2 := 31) X dX5_prepare_30 rfl (fun v7 hv7 => ?_)
  refine s_putI (pc2 := 34) X dX5_prepare_31 rfl fl_RX5_37 (Or.inl rfl) rfl hv7 ?_
  refine s_aload_n (j := 0) (pc2 := 35) X dX5_prepare_34 rfl rfl ?_
  refine s_iconst (n := 0) (pc2 := 36) X dX5_prepare_35 rfl ?_
  refine s_putI (pc2 := 39) X dX5_prepare_36 rfl fl_RX5_27 (Or.inl rfl) rfl (inI_c 0 rfl) ?_
  refine s_iconst (n := 1) (pc2 := 40) X dX5_prepare_39 rfl ?_
  refine s_istore_n (pc2 := 41) X dX5_prepare_40 rfl (by decide) rfl rfl cat1_I (inI_c 1 rfl) (fun w8 hw8 => ?_)
  refine s_iconst (n := 0) (pc2 := 42) X dX5_prepare_41 rfl ?_
  refine s_istore (pc2 := 44) X dX5_prepare_42 rfl (by decide) rfl rfl cat1_I (inI_c 0 rfl) (fun w9 hw9 => ?_)
  refine s_sub (lv2 := [(0, vR C.1.1 l0), (1, vR C.1.1 l1), (2, vI l2), (3, vI w8), (4, vI w9)]) [2, 3, 4, 1, 0] rfl ?_
  exact z_X5_prepare_L44 d hd K X 1000000000 l0 l1 l2 w8 w9 h2 hw8 hw9
theorem c_X5_prepare (d : Nat) (hd : 1 ≤ d) (G : hG) (l : Launch) (l0 : Nat) (l1 : Nat) (l2 : Int) (h2 : inI l2) : hMet G l yX5_prepare cX5_prepare 5 (some .boolean) d 0 0 [vR G.1 l0, vR G.1 l1, vI l2] (m_X5_prepare l0 l1 l2) := by
  refine hMet.of (lv := [(0, vR G.1 l0), (1, vR G.1 l1), (2, vI l2)]) (by decide +kernel) (by simp [lg_sl, vR_cat, vI_cat, vL_cat, vS_cat2, vT_cat2]) (by simp [lv_args, vR_cat, vI_cat, vL_cat, vS_cat2, vT_cat2]) (fun C K X => ?_)
  obtain ⟨rfl, rfl, K⟩ := K
  exact z_X5_prepare d hd ⟨rfl, rfl, K⟩ X l0 l1 l2 h2
def m_X5_addRows_L75 (s0 : Nat) (s1 : Int) (s2 : Int) (s3 : Int) : hM :=
  hsI 20 s0 s1 ((iorZ s2 s3)) <|
  hret 0
def m_X5_addRows_L33 (l0 : Nat) (l1 : Int) (l2 : Int) (l3 : Int) : hM :=
  hgR 5 l0 2 fun v1 =>
  haI 20 v1 l1 fun v2 =>
  hgR 5 l0 2 fun v3 =>
  haI 20 v3 l2 fun v4 =>
  hsI 20 v1 l1 ((w32 (v2 + v4))) <|
  hgR 5 l0 3 fun v5 =>
  haI 20 v5 l1 fun v6 =>
  hgI 5 l0 7 fun v7 =>
  hif (l2 ≠ v7) (
hgR 5 l0 3 fun v8 =>
  haI 20 v8 l2 fun v9 =>
  m_X5_addRows_L75 v5 l1 v6 v9) (
m_X5_addRows_L75 v5 l1 v6 ((ishlZ 1 l3)))
def m_X5_addRows_L32 (l0 : Nat) (l1 : Int) (l2 : Int) (l3 : Int) (s0 : Nat) (s1 : Int) (s2 : Int) : hM :=
  hsI 20 s0 s1 s2 <|
  m_X5_addRows_L33 l0 l1 l2 l3
def m_X5_addRows (l0 : Nat) (l1 : Int) (l2 : Int) (l3 : Int) : hM :=
  hgR 5 l0 2 fun v1 =>
  haI 20 v1 l1 fun v2 =>
  hif (v2 ≠ 0) (
m_X5_addRows_L33 l0 l1 l2 l3) (
hgR 5 l0 4 fun v3 =>
  hgI 5 l0 7 fun v4 =>
  hif (l2 ≠ v4) (
hgR 5 l0 4 fun v5 =>
  haI 20 v5 l2 fun v6 =>
  m_X5_addRows_L32 l0 l1 l2 l3 v3 l1 v6) (
m_X5_addRows_L32 l0 l1 l2 l3 v3 l1 l3))
set_option maxRecDepth 4000 in
theorem z_X5_addRows_L75 (d : Nat) (hd : 1 ≤ d) {C : hCx} (K : hCtx C.1 C.2.2.1 d 0 0 "addRows" C) (X : hOK C cX5_addRows RX5 4 none) (s0 : Nat) (s1 : Int) (s2 : Int) (s3 : Int) (g1 : inI s1) (g2 : inI s2) (g3 : inI s3) : hSim C none 0 0 4 75 [] [vI s3, vI s2, vI s1, vR C.1.1 s0] 0 0 (m_X5_addRows_L75 s0 s1 s2 s3) := by
  obtain ⟨⟨hf, hlo⟩, ⟨hc1, hc2⟩, hf1, hl1⟩ := K_room K (by omega)
  have hcs : 0 ≤ C.2.2.2.2.1.cells ∧ 0 ≤ C.2.2.2.2.1.slots := ⟨Nat.zero_le _, Nat.zero_le _⟩
  unfold m_X5_addRows_L75
  refine s_ior (pc2 := 76) X dX5_addRows_75 rfl ?_
  refine s_iast (pc2 := 77) X dX5_addRows_76 rfl (iorZ_in _ _) ?_
  exact s_ret X dX5_addRows_77
set_option maxRecDepth 4000 in
theorem z_X5_addRows_L33 (d : Nat) (hd : 1 ≤ d) {C : hCx} (K : hCtx C.1 C.2.2.1 d 0 0 "addRows" C) (X : hOK C cX5_addRows RX5 4 none) (l0 : Nat) (l1 : Int) (l2 : Int) (l3 : Int) (h1 : inI l1) (h2 : inI l2) (h3 : inI l3) : hSim C none 0 0 4 33 [(0, vR C.1.1 l0), (1, vI l1), (2, vI l2), (3, vI l3)] [] 0 0 (m_X5_addRows_L33 l0 l1 l2 l3) := by
  obtain ⟨⟨hf, hlo⟩, ⟨hc1, hc2⟩, hf1, hl1⟩ := K_room K (by omega)
  have hcs : 0 ≤ C.2.2.2.2.1.cells ∧ 0 ≤ C.2.2.2.2.1.slots := ⟨Nat.zero_le _, Nat.zero_le _⟩
  unfold m_X5_addRows_L33
  refine s_aload_n (j := 0) (pc2 := 34) X dX5_addRows_33 rfl rfl ?_
  refine s_getR (pc2 := 37) X dX5_addRows_34 rfl fl_RX5_18 rfl (fun v1 => ?_)
  refine s_iload_n (j := 1) (pc2 := 38) X dX5_addRows_37 rfl rfl ?_
  refine s_dup2 (pc2 := 39) X dX5_addRows_38 rfl rfl (vR_cat _ _) ?_
  refine s_iald (pc2 := 40) X dX5_addRows_39 rfl (fun v2 hv2 => ?_)
  refine s_aload_n (j := 0) (pc2 := 41) X dX5_addRows_40 rfl rfl ?_
  refine s_getR (pc2 := 44) X dX5_addRows_41 rfl fl_RX5_18 rfl (fun v3 => ?_)
  refine s_iload_n (j := 2) (pc2 := 45) X dX5_addRows_44 rfl rfl ?_
  refine s_iald (pc2 := 46) X dX5_addRows_45 rfl (fun v4 hv4 => ?_)
  refine s_iadd (pc2 := 47) X dX5_addRows_46 rfl ?_
  refine s_iast (pc2 := 48) X dX5_addRows_47 rfl (w32_in _) ?_
  refine s_aload_n (j := 0) (pc2 := 49) X dX5_addRows_48 rfl rfl ?_
  refine s_getR (pc2 := 52) X dX5_addRows_49 rfl fl_RX5_21 rfl (fun v5 => ?_)
  refine s_iload_n (j := 1) (pc2 := 53) X dX5_addRows_52 rfl rfl ?_
  refine s_dup2 (pc2 := 54) X dX5_addRows_53 rfl rfl (vR_cat _ _) ?_
  refine s_iald (pc2 := 55) X dX5_addRows_54 rfl (fun v6 hv6 => ?_)
  refine s_iload_n (j := 2) (pc2 := 56) X dX5_addRows_55 rfl rfl ?_
  refine s_aload_n (j := 0) (pc2 := 57) X dX5_addRows_56 rfl rfl ?_
  refine s_getI (pc2 := 60) X dX5_addRows_57 rfl fl_RX5_31 rfl (fun v7 hv7 => ?_)
  refine s_icne (tgt := 69) X dX5_addRows_60 (by decide) rfl h2 hv7 ?_ ?_
  · refine s_aload_n (j := 0) (pc2 := 70) X dX5_addRows_69 rfl rfl ?_
    refine s_getR (pc2 := 73) X dX5_addRows_70 rfl fl_RX5_21 rfl (fun v8 => ?_)
    refine s_iload_n (j := 2) (pc2 := 74) X dX5_addRows_73 rfl rfl ?_
    refine s_iald (pc2 := 75) X dX5_addRows_74 rfl (fun v9 hv9 => ?_)
    refine s_sub (lv2 := []) [] rfl ?_
    exact z_X5_addRows_L75 d hd K X v5 l1 v6 v9 h1 hv6 hv9
  · refine s_iconst (n := 1) (pc2 := 64) X dX5_addRows_63 rfl ?_
    refine s_iload_n (j := 3) (pc2 := 65) X dX5_addRows_64 rfl rfl ?_
    refine s_ishl (pc2 := 66) X dX5_addRows_65 rfl ?_
    refine s_goto (pc2 := 75) X dX5_addRows_66 (by decide) ?_
    refine s_sub (lv2 := []) [] rfl ?_
    exact z_X5_addRows_L75 d hd K X v5 l1 v6 ((ishlZ 1 l3)) h1 hv6 (ishlZ_in _ _)
set_option maxRecDepth 4000 in
theorem z_X5_addRows_L32 (d : Nat) (hd : 1 ≤ d) {C : hCx} (K : hCtx C.1 C.2.2.1 d 0 0 "addRows" C) (X : hOK C cX5_addRows RX5 4 none) (l0 : Nat) (l1 : Int) (l2 : Int) (l3 : Int) (s0 : Nat) (s1 : Int) (s2 : Int) (h1 : inI l1) (h2 : inI l2) (h3 : inI l3) (g1 : inI s1) (g2 : inI s2) : hSim C none 0 0 4 32 [(0, vR C.1.1 l0), (1, vI l1), (2, vI l2), (3, vI l3)] [vI s2, vI s1, vR C.1.1 s0] 0 0 (m_X5_addRows_L32 l0 l1 l2 l3 s0 s1 s2) := by
  obtain ⟨⟨hf, hlo⟩, ⟨hc1, hc2⟩, hf1, hl1⟩ := K_room K (by omega)
  have hcs : 0 ≤ C.2.2.2.2.1.cells ∧ 0 ≤ C.2.2.2.2.1.slots := ⟨Nat.zero_le _, Nat.zero_le _⟩
  unfold m_X5_addRows_L32
  refine s_iast (pc2 := 33) X dX5_addRows_32 rfl g2 ?_
  exact z_X5_addRows_L33 d hd K X l0 l1 l2 l3 h1 h2 h3
set_option maxRecDepth 4000 in
set_option maxHeartbeats 20000000 in
theorem z_X5_addRows (d : Nat) (hd : 1 ≤ d) {C : hCx} (K : hCtx C.1 C.2.2.1 d 0 0 "addRows" C) (X : hOK C cX5_addRows RX5 4 none) (l0 : Nat) (l1 : Int) (l2 : Int) (l3 : Int) (h1 : inI l1) (h2 : inI l2) (h3 : inI l3) : hSim C none 0 0 4 0 [(0, vR C.1.1 l0), (1, vI l1), (2, vI l2), (3, vI l3)] [] 0 0 (m_X5_addRows l0 l1 l2 l3) := by
  obtain ⟨⟨hf, hlo⟩, ⟨hc1, hc2⟩, hf1, hl1⟩ := K_room K (by omega)
  have hcs : 0 ≤ C.2.2.2.2.1.cells ∧ 0 ≤ C.2.2.2.2.1.slots := ⟨Nat.zero_le _, Nat.zero_le _⟩
  unfold m_X5_addRows
  refine s_aload_n (j := 0) (pc2 := 1) X dX5_addRows_0 rfl rfl ?_
  refine s_getR (pc2 := 4) X dX5_addRows_1 rfl fl_RX5_18 rfl (fun v1 => ?_)
  refine s_iload_n (j := 1) (pc2 := 5) X dX5_addRows_4 rfl rfl ?_
  refine s_iald (pc2 := 6) X dX5_addRows_5 rfl (fun v2 hv2 => ?_)
  refine s_ifne (tgt := 33) X dX5_addRows_6 (by decide) rfl hv2 ?_ ?_
  · exact z_X5_addRows_L33 d hd K X l0 l1 l2 l3 h1 h2 h3
  · refine s_aload_n (j := 0) (pc2 := 10) X dX5_addRows_9 rfl rfl ?_
    refine s_getR (pc2 := 13) X dX5_addRows_10 rfl fl_RX5_24 rfl (fun v3 => ?_)
    refine s_iload_n (j := 1) (pc2 := 14) X dX5_addRows_13 rfl rfl ?_
    refine s_iload_n (j := 2) (pc2 := 15) X dX5_addRows_14 rfl rfl ?_
    refine s_aload_n (j := 0) (pc2 := 16) X dX5_addRows_15 rfl rfl ?_
    refine s_getI (pc2 := 19) X dX5_addRows_16 rfl fl_RX5_31 rfl (fun v4 hv4 => ?_)
    refine s_icne (tgt := 26) X dX5_addRows_19 (by decide) rfl h2 hv4 ?_ ?_
    · refine s_aload_n (j := 0) (pc2 := 27) X dX5_addRows_26 rfl rfl ?_
      refine s_getR (pc2 := 30) X dX5_addRows_27 rfl fl_RX5_24 rfl (fun v5 => ?_)
      refine s_iload_n (j := 2) (pc2 := 31) X dX5_addRows_30 rfl rfl ?_
      refine s_iald (pc2 := 32) X dX5_addRows_31 rfl (fun v6 hv6 => ?_)
      exact z_X5_addRows_L32 d hd K X l0 l1 l2 l3 v3 l1 v6 h1 h2 h3 h1 hv6
    · refine s_iload_n (j := 3) (pc2 := 23) X dX5_addRows_22 rfl rfl ?_
      refine s_goto (pc2 := 32) X dX5_addRows_23 (by decide) ?_
      exact z_X5_addRows_L32 d hd K X l0 l1 l2 l3 v3 l1 l3 h1 h2 h3 h1 h3
theorem c_X5_addRows (d : Nat) (hd : 1 ≤ d) (G : hG) (l : Launch) (l0 : Nat) (l1 : Int) (l2 : Int) (l3 : Int) (h1 : inI l1) (h2 : inI l2) (h3 : inI l3) : hMet G l yX5_addRows cX5_addRows 4 none d 0 0 [vR G.1 l0, vI l1, vI l2, vI l3] (m_X5_addRows l0 l1 l2 l3) := by
  refine hMet.of (lv := [(0, vR G.1 l0), (1, vI l1), (2, vI l2), (3, vI l3)]) (by decide +kernel) (by simp [lg_sl, vR_cat, vI_cat, vL_cat, vS_cat2, vT_cat2]) (by simp [lv_args, vR_cat, vI_cat, vL_cat, vS_cat2, vT_cat2]) (fun C K X => ?_)
  obtain ⟨rfl, rfl, K⟩ := K
  exact z_X5_addRows d hd ⟨rfl, rfl, K⟩ X l0 l1 l2 l3 h1 h2 h3
def m_X5_follow_L160 (r_follow : Nat → Int → Int → Int → hM) (k46 : Nat → Int → Int → Int → Int → hM) (l0 : Nat) (l1 : Int) (l2 : Int) (l3 : Int) (l4 : Int) : hM :=
  hlet (w32 (l4 + 1)) fun (w1 : Int) =>
  k46 l0 l1 l2 l3 w1
def m_X5_follow_L141 (r_follow : Nat → Int → Int → Int → hM) (k46 : Nat → Int → Int → Int → Int → hM) (l0 : Nat) (l1 : Int) (l2 : Int) (l3 : Int) (l4 : Int) (l6 : Int) : hM :=
  hgR 5 l0 2 fun v1 =>
  haI 20 v1 l6 fun v2 =>
  hif (v2 ≤ 0) (
m_X5_follow_L160 r_follow k46 l0 l1 l2 l3 l4) (
hcallV 5 l0 (m_X5_addRows l0 l1 l6 l4) fun _ =>
  m_X5_follow_L160 r_follow k46 l0 l1 l2 l3 l4)
def m_X5_follow_L46 (r_follow : Nat → Int → Int → Int → hM) : Nat → Nat → Int → Int → Int → Int → hM
  | 0, _, _, _, _, _ => hfail
  | n + 1, l0, l1, l2, l3, l4 =>
    hgR 5 l0 5 fun v1 =>
  hgI 1 v1 3 fun v2 =>
  hif (l4 ≥ v2) (
hret 0) (
hgR 5 l0 5 fun v3 =>
  hcallV 1 v3 (m_X1_across v3 l4 l2) fun v4 =>
  hlet v4 fun (w5 : Int) =>
  hif (w5 = ((-1))) (
m_X5_follow_L160 r_follow (m_X5_follow_L46 r_follow n) l0 l1 l2 l3 l4) (
hgR 5 l0 0 fun v6 =>
  haI 20 v6 l4 fun v7 =>
  hif (v7 ≤ 0) (
m_X5_follow_L160 r_follow (m_X5_follow_L46 r_follow n) l0 l1 l2 l3 l4) (
hgR 5 l0 1 fun v8 =>
  haI 20 v8 l4 fun v9 =>
  hlet ((w32 (l1 + v9))) fun (w10 : Int) =>
  hgR 5 l0 2 fun v11 =>
  haI 20 v11 w10 fun v12 =>
  hif (v12 ≠ ((-1))) (
m_X5_follow_L141 r_follow (m_X5_follow_L46 r_follow n) l0 l1 l2 l3 l4 w10) (
hgR 5 l0 0 fun v13 =>
  haI 20 v13 l4 fun v14 =>
  hsI 20 v13 l4 ((w32 (v14 - 1))) <|
  hcallV 5 l0 (r_follow l0 w10 w5 ((w32 (l3 - 1)))) fun _ =>
  hgR 5 l0 0 fun v15 =>
  haI 20 v15 l4 fun v16 =>
  hsI 20 v15 l4 ((w32 (v16 + 1))) <|
  m_X5_follow_L141 r_follow (m_X5_follow_L46 r_follow n) l0 l1 l2 l3 l4 w10))))
def m_X5_follow_L22 (r_follow : Nat → Int → Int → Int → hM) (l0 : Nat) (l1 : Int) (l2 : Int) (l3 : Int) (s0 : Nat) (s1 : Int) (s2 : Int) : hM :=
  hsI 20 s0 s1 s2 <|
  hgR 5 l0 3 fun v1 =>
  hsI 20 v1 l1 0 <|
  hgR 5 l0 4 fun v2 =>
  hsI 20 v2 l1 ((-2)) <|
  hif (l3 > 0) (
hlet (0 : Int) fun (w3 : Int) =>
  m_X5_follow_L46 r_follow 1000000000 l0 l1 l2 l3 w3) (
hret 0)
def m_X5_follow_L21 (r_follow : Nat → Int → Int → Int → hM) (l0 : Nat) (l1 : Int) (l2 : Int) (l3 : Int) (s0 : Nat) (s1 : Int) : hM :=
  m_X5_follow_L22 r_follow l0 l1 l2 l3 s0 s1 0
def m_X5_follow (r_follow : Nat → Int → Int → Int → hM) (l0 : Nat) (l1 : Int) (l2 : Int) (l3 : Int) : hM :=
  hgR 5 l0 2 fun v1 =>
  hif (l3 ≠ 0) (
m_X5_follow_L21 r_follow l0 l1 l2 l3 v1 l1) (
hgI 5 l0 9 fun v2 =>
  hif (l2 ≠ v2) (
m_X5_follow_L21 r_follow l0 l1 l2 l3 v1 l1) (
m_X5_follow_L22 r_follow l0 l1 l2 l3 v1 l1 1))
set_option maxRecDepth 4000 in
theorem z_X5_follow_L160 (d : Nat) (hd : 2 ≤ d) {C : hCx} (K : hCtx C.1 C.2.2.1 d 0 0 "follow" C) (X : hOK C cX5_follow RX5 7 none) (r_follow : Nat → Int → Int → Int → hM) (hr_follow : ∀ (l0 : Nat) (l1 : Int) (l2 : Int) (l3 : Int), inI l1 → inI l2 → inI l3 → hMet C.1 C.2.2.1 yX5_follow cX5_follow 7 none (d - 1) 0 0 [vR C.1.1 l0, vI l1, vI l2, vI l3] (r_follow l0 l1 l2 l3)) (k46 : Nat → Int → Int → Int → Int → hM) (hk46 : ∀ (l0 : Nat) (l1 : Int) (l2 : Int) (l3 : Int) (l4 : Int), inI l1 → inI l2 → inI l3 → inI l4 → hSim C none 0 0 7 46 [(0, vR C.1.1 l0), (1, vI l1), (2, vI l2), (3, vI l3), (4, vI l4)] [] 0 0 (k46 l0 l1 l2 l3 l4)) (l0 : Nat) (l1 : Int) (l2 : Int) (l3 : Int) (l4 : Int) (h1 : inI l1) (h2 : inI l2) (h3 : inI l3) (h4 : inI l4) : hSim C none 0 0 7 160 [(0, vR C.1.1 l0), (1, vI l1), (2, vI l2), (3, vI l3), (4, vI l4)] [] 0 0 (m_X5_follow_L160 r_follow k46 l0 l1 l2 l3 l4) := by
  obtain ⟨⟨hf, hlo⟩, ⟨hc1, hc2⟩, hf1, hl1⟩ := K_room K (by omega)
  have hcs : 0 ≤ C.2.2.2.2.1.cells ∧ 0 ≤ C.2.2.2.2.1.slots := ⟨Nat.zero_le _, Nat.zero_le _⟩
  unfold m_X5_follow_L160
  refine s_iinc (j := 4) (pc2 := 163) X dX5_follow_160 rfl (by decide) rfl rfl rfl cat1_I (fun w1 hw1 => ?_)
  refine s_goto (pc2 := 46) X dX5_follow_163 (by decide) ?_
  refine s_sub (lv2 := [(0, vR C.1.1 l0), (1, vI l1), (2, vI l2), (3, vI l3), (4, vI w1)]) [1, 2, 3, 4, 0] rfl ?_
  exact hk46 l0 l1 l2 l3 w1 h1 h2 h3 hw1
set_option maxRecDepth 4000 in
theorem z_X5_follow_L141 (d : Nat) (hd : 2 ≤ d) {C : hCx} (K : hCtx C.1 C.2.2.1 d 0 0 "follow" C) (X : hOK C cX5_follow RX5 7 none) (r_follow : Nat → Int → Int → Int → hM) (hr_follow : ∀ (l0 : Nat) (l1 : Int) (l2 : Int) (l3 : Int), inI l1 → inI l2 → inI l3 → hMet C.1 C.2.2.1 yX5_follow cX5_follow 7 none (d - 1) 0 0 [vR C.1.1 l0, vI l1, vI l2, vI l3] (r_follow l0 l1 l2 l3)) (k46 : Nat → Int → Int → Int → Int → hM) (hk46 : ∀ (l0 : Nat) (l1 : Int) (l2 : Int) (l3 : Int) (l4 : Int), inI l1 → inI l2 → inI l3 → inI l4 → hSim C none 0 0 7 46 [(0, vR C.1.1 l0), (1, vI l1), (2, vI l2), (3, vI l3), (4, vI l4)] [] 0 0 (k46 l0 l1 l2 l3 l4)) (l0 : Nat) (l1 : Int) (l2 : Int) (l3 : Int) (l4 : Int) (l6 : Int) (h1 : inI l1) (h2 : inI l2) (h3 : inI l3) (h4 : inI l4) (h6 : inI l6) : hSim C none 0 0 7 141 [(0, vR C.1.1 l0), (1, vI l1), (2, vI l2), (3, vI l3), (4, vI l4), (6, vI l6)] [] 0 0 (m_X5_follow_L141 r_follow k46 l0 l1 l2 l3 l4 l6) := by
  obtain ⟨⟨hf, hlo⟩, ⟨hc1, hc2⟩, hf1, hl1⟩ := K_room K (by omega)
  have hcs : 0 ≤ C.2.2.2.2.1.cells ∧ 0 ≤ C.2.2.2.2.1.slots := ⟨Nat.zero_le _, Nat.zero_le _⟩
  unfold m_X5_follow_L141
  refine s_aload_n (j := 0) (pc2 := 142) X dX5_follow_141 rfl rfl ?_
  refine s_getR (pc2 := 145) X dX5_follow_142 rfl fl_RX5_18 rfl (fun v1 => ?_)
  refine s_iload (j := 5) (pc2 := 147) X dX5_follow_145 rfl rfl ?_
  refine s_iald (pc2 := 148) X dX5_follow_147 rfl (fun v2 hv2 => ?_)
  refine s_ifle (tgt := 160) X dX5_follow_148 (by decide) rfl hv2 ?_ ?_
  · refine s_sub (lv2 := [(0, vR C.1.1 l0), (1, vI l1), (2, vI l2), (3, vI l3), (4, vI l4)]) [0, 1, 2, 3, 4] rfl ?_
    exact z_X5_follow_L160 d hd K X r_follow hr_follow k46 hk46 l0 l1 l2 l3 l4 h1 h2 h3 h4
  · refine s_aload_n (j := 0) (pc2 := 152) X dX5_follow_151 rfl rfl ?_
    refine s_iload_n (j := 1) (pc2 := 153) X dX5_follow_152 rfl rfl ?_
    refine s_iload (j := 5) (pc2 := 155) X dX5_follow_153 rfl rfl ?_
    refine s_iload (j := 4) (pc2 := 157) X dX5_follow_155 rfl rfl ?_
    refine s_callVV (d2 := d - 1) (As := [vI l1, vI l6, vI l4]) (st := []) (pc2 := 160) X dX5_follow_157 rfl ml_RX5_81 im_X5_addRows se_X5_addRows kX5 rfl (c_X5_addRows (d - 1) (by omega) C.1 C.2.2.1 l0 l1 l6 l4 h1 h6 h4) hy_X5_addRows rfl rfl hf hlo (st_room (Nat.le_of_ble_eq_true rfl)) hcs (fun _ => ?_)
    refine s_sub (lv2 := [(0, vR C.1.1 l0), (1, vI l1), (2, vI l2), (3, vI l3), (4, vI l4)]) [0, 1, 2, 3, 4] rfl ?_
    exact z_X5_follow_L160 d hd K X r_follow hr_follow k46 hk46 l0 l1 l2 l3 l4 h1 h2 h3 h4
set_option maxRecDepth 4000 in
theorem z_X5_follow_L46 (d : Nat) (hd : 2 ≤ d) {C : hCx} (K : hCtx C.1 C.2.2.1 d 0 0 "follow" C) (X : hOK C cX5_follow RX5 7 none) (r_follow : Nat → Int → Int → Int → hM) (hr_follow : ∀ (l0 : Nat) (l1 : Int) (l2 : Int) (l3 : Int), inI l1 → inI l2 → inI l3 → hMet C.1 C.2.2.1 yX5_follow cX5_follow 7 none (d - 1) 0 0 [vR C.1.1 l0, vI l1, vI l2, vI l3] (r_follow l0 l1 l2 l3)) : ∀ (n : Nat) (l0 : Nat) (l1 : Int) (l2 : Int) (l3 : Int) (l4 : Int) (h1 : inI l1) (h2 : inI l2) (h3 : inI l3) (h4 : inI l4), hSim C none 0 0 7 46 [(0, vR C.1.1 l0), (1, vI l1), (2, vI l2), (3, vI l3), (4, vI l4)] [] 0 0 (m_X5_follow_L46 r_follow n l0 l1 l2 l3 l4) := by
  obtain ⟨⟨hf, hlo⟩, ⟨hc1, hc2⟩, hf1, hl1⟩ := K_room K (by omega)
  have hcs : 0 ≤ C.2.2.2.2.1.cells ∧ 0 ≤ C.2.2.2.2.1.slots := ⟨Nat.zero_le _, Nat.zero_le _⟩
  intro n
  induction n with
  | zero => intros; exact s_none (fun _ => rfl)
  | succ n ih =>
    intro l0 l1 l2 l3 l4 h1 h2 h3 h4
    unfold m_X5_follow_L46
    refine s_iload (j := 4) (pc2 := 48) X dX5_follow_46 rfl rfl ?_
    refine s_aload_n (j := 0) (pc2 := 49) X dX5_follow_48 rfl rfl ?_
    refine s_getR (pc2 := 52) X dX5_follow_49 rfl fl_RX5_40 rfl (fun v1 => ?_)
    refine s_getI (pc2 := 55) X dX5_follow_52 rfl fl_RX5_59 rfl (fun v2 hv2 => ?_)
    refine s_icge (tgt := 166) X dX5_follow_55 (by decide) rfl h4 hv2 ?_ ?_
    · exact s_ret X dX5_follow_166
    · refine s_aload_n (j := 0) (pc2 := 59) X dX5_follow_58 rfl rfl ?_
      refine s_getR (pc2 := 62) X dX5_follow_59 rfl fl_RX5_40 rfl (fun v3 => ?_)
      refine s_iload (j := 4) (pc2 := 64) X dX5_follow_62 rfl rfl ?_
      refine s_iload_n (j := 2) (pc2 := 65) X dX5_follow_64 rfl rfl ?_
      refine s_callVI (d2 := d - 1) (As := [vI l4, vI l2]) (st := []) (pc2 := 68) X dX5_follow_65 rfl ml_RX5_77 im_X1_across se_X1_across kX1 rfl (c_X1_across (d - 1) (by omega) C.1 C.2.2.1 v3 l4 l2 h4 h2) hy_X1_across rfl rfl hf hlo (st_room (Nat.le_of_ble_eq_true rfl)) hcs (fun v4 hv4 => ?_)
      refine s_istore (pc2 := 70) X dX5_follow_68 rfl (by decide) rfl rfl cat1_I hv4 (fun w5 hw5 => ?_)
      refine s_iload (j := 0) (pc2 := 72) X dX5_follow_70 rfl rfl ?_
      refine s_iconst (n := (-1)) (pc2 := 73) X dX5_follow_72 rfl ?_
      refine s_iceq (tgt := 160) X dX5_follow_73 (by decide) rfl hw5 (inI_c (-1) rfl) ?_ ?_
      · refine s_sub (lv2 := [(0, vR C.1.1 l0), (1, vI l1), (2, vI l2), (3, vI l3), (4, vI l4)]) [1, 2, 3, 4, 5] rfl ?_
        exact z_X5_follow_L160 d hd K X r_follow hr_follow (m_X5_follow_L46 r_follow n) ih l0 l1 l2 l3 l4 h1 h2 h3 h4
      · refine s_aload_n (j := 1) (pc2 := 77) X dX5_follow_76 rfl rfl ?_
        refine s_getR (pc2 := 80) X dX5_follow_77 rfl fl_RX5_9 rfl (fun v6 => ?_)
        refine s_iload (j := 5) (pc2 := 82) X dX5_follow_80 rfl rfl ?_
        refine s_iald (pc2 := 83) X dX5_follow_82 rfl (fun v7 hv7 => ?_)
        refine s_ifle (tgt := 160) X dX5_follow_83 (by decide) rfl hv7 ?_ ?_
        · refine s_sub (lv2 := [(0, vR C.1.1 l0), (1, vI l1), (2, vI l2), (3, vI l3), (4, vI l4)]) [1, 2, 3, 4, 5] rfl ?_
          exact z_X5_follow_L160 d hd K X r_follow hr_follow (m_X5_follow_L46 r_follow n) ih l0 l1 l2 l3 l4 h1 h2 h3 h4
        · refine s_iload_n (j := 2) (pc2 := 87) X dX5_follow_86 rfl rfl ?_
          refine s_aload_n (j := 1) (pc2 := 88) X dX5_follow_87 rfl rfl ?_
          refine s_getR (pc2 := 91) X dX5_follow_88 rfl fl_RX5_15 rfl (fun v8 => ?_)
          refine s_iload (j := 5) (pc2 := 93) X dX5_follow_91 rfl rfl ?_
          refine s_iald (pc2 := 94) X dX5_follow_93 rfl (fun v9 hv9 => ?_)
          refine s_iadd (pc2 := 95) X dX5_follow_94 rfl ?_
          refine s_istore (pc2 := 97) X dX5_follow_95 rfl (by decide) rfl rfl cat1_I (w32_in _) (fun w10 hw10 => ?_)
          refine s_aload_n (j := 2) (pc2 := 98) X dX5_follow_97 rfl rfl ?_
          refine s_getR (pc2 := 101) X dX5_follow_98 rfl fl_RX5_18 rfl (fun v11 => ?_)
          refine s_iload (j := 0) (pc2 := 103) X dX5_follow_101 rfl rfl ?_
          refine s_iald (pc2 := 104) X dX5_follow_103 rfl (fun v12 hv12 => ?_)
          refine s_iconst (n := (-1)) (pc2 := 105) X dX5_follow_104 rfl ?_
          refine s_icne (tgt := 141) X dX5_follow_105 (by decide) rfl hv12 (inI_c (-1) rfl) ?_ ?_
          · refine s_sub (lv2 := [(0, vR C.1.1 l0), (1, vI l1), (2, vI l2), (3, vI l3), (4, vI l4), (6, vI w10)]) [2, 3, 4, 5, 6, 0] rfl ?_
            exact z_X5_follow_L141 d hd K X r_follow hr_follow (m_X5_follow_L46 r_follow n) ih l0 l1 l2 l3 l4 w10 h1 h2 h3 h4 hw10
          · refine s_aload_n (j := 2) (pc2 := 109) X dX5_follow_108 rfl rfl ?_
            refine s_getR (pc2 := 112) X dX5_follow_109 rfl fl_RX5_9 rfl (fun v13 => ?_)
            refine s_iload (j := 6) (pc2 := 114) X dX5_follow_112 rfl rfl ?_
            refine s_dup2 (pc2 := 115) X dX5_follow_114 rfl rfl (vR_cat _ _) ?_
            refine s_iald (pc2 := 116) X dX5_follow_115 rfl (fun v14 hv14 => ?_)
            refine s_iconst (n := 1) (pc2 := 117) X dX5_follow_116 rfl ?_
            refine s_isub (pc2 := 118) X dX5_follow_117 rfl ?_
            refine s_iast (pc2 := 119) X dX5_follow_118 rfl (w32_in _) ?_
            refine s_aload_n (j := 2) (pc2 := 120) X dX5_follow_119 rfl rfl ?_
            refine s_iload (j := 0) (pc2 := 122) X dX5_follow_120 rfl rfl ?_
            refine s_iload (j := 1) (pc2 := 124) X dX5_follow_122 rfl rfl ?_
            refine s_iload_n (j := 5) (pc2 := 125) X dX5_follow_124 rfl rfl ?_
            refine s_iconst (n := 1) (pc2 := 126) X dX5_follow_125 rfl ?_
            refine s_isub (pc2 := 127) X dX5_follow_126 rfl ?_
            refine s_callVV (d2 := d - 1) (As := [vI w10, vI w5, vI ((w32 (l3 - 1)))]) (st := []) (pc2 := 130) X dX5_follow_127 rfl ml_RX5_73 im_X5_follow se_X5_follow kX5 rfl (hr_follow l0 w10 w5 ((w32 (l3 - 1))) hw10 hw5 (w32_in _)) hy_X5_follow rfl rfl hf hlo (st_room (Nat.le_of_ble_eq_true rfl)) hcs (fun _ => ?_)
            refine s_aload_n (j := 2) (pc2 := 131) X dX5_follow_130 rfl rfl ?_
            refine s_getR (pc2 := 134) X dX5_follow_131 rfl fl_RX5_9 rfl (fun v15 => ?_)
            refine s_iload (j := 6) (pc2 := 136) X dX5_follow_134 rfl rfl ?_
            refine s_dup2 (pc2 := 137) X dX5_follow_136 rfl rfl (vR_cat _ _) ?_
            refine s_iald (pc2 := 138) X dX5_follow_137 rfl (fun v16 hv16 => ?_)
            refine s_iconst (n := 1) (pc2 := 139) X dX5_follow_138 rfl ?_
            refine s_iadd (pc2 := 140) X dX5_follow_139 rfl ?_
            refine s_iast (pc2 := 141) X dX5_follow_140 rfl (w32_in _) ?_
            refine s_sub (lv2 := [(0, vR C.1.1 l0), (1, vI l1), (2, vI l2), (3, vI l3), (4, vI l4), (6, vI w10)]) [2, 3, 4, 5, 6, 0] rfl ?_
            exact z_X5_follow_L141 d hd K X r_follow hr_follow (m_X5_follow_L46 r_follow n) ih l0 l1 l2 l3 l4 w10 h1 h2 h3 h4 hw10
set_option maxRecDepth 4000 in
theorem z_X5_follow_L22 (d : Nat) (hd : 2 ≤ d) {C : hCx} (K : hCtx C.1 C.2.2.1 d 0 0 "follow" C) (X : hOK C cX5_follow RX5 7 none) (r_follow : Nat → Int → Int → Int → hM) (hr_follow : ∀ (l0 : Nat) (l1 : Int) (l2 : Int) (l3 : Int), inI l1 → inI l2 → inI l3 → hMet C.1 C.2.2.1 yX5_follow cX5_follow 7 none (d - 1) 0 0 [vR C.1.1 l0, vI l1, vI l2, vI l3] (r_follow l0 l1 l2 l3)) (l0 : Nat) (l1 : Int) (l2 : Int) (l3 : Int) (s0 : Nat) (s1 : Int) (s2 : Int) (h1 : inI l1) (h2 : inI l2) (h3 : inI l3) (g1 : inI s1) (g2 : inI s2) : hSim C none 0 0 7 22 [(0, vR C.1.1 l0), (1, vI l1), (2, vI l2), (3, vI l3)] [vI s2, vI s1, vR C.1.1 s0] 0 0 (m_X5_follow_L22 r_follow l0 l1 l2 l3 s0 s1 s2) := by
  obtain ⟨⟨hf, hlo⟩, ⟨hc1, hc2⟩, hf1, hl1⟩ := K_room K (by omega)
  have hcs : 0 ≤ C.2.2.2.2.1.cells ∧ 0 ≤ C.2.2.2.2.1.slots := ⟨Nat.zero_le _, Nat.zero_le _⟩
  unfold m_X5_follow_L22
  refine s_iast (pc2 := 23) X dX5_follow_22 rfl g2 ?_
  refine s_aload_n (j := 0) (pc2 := 24) X dX5_follow_23 rfl rfl ?_
  refine s_getR (pc2 := 27) X dX5_follow_24 rfl fl_RX5_21 rfl (fun v1 => ?_)
  refine s_iload_n (j := 1) (pc2 := 28) X dX5_follow_27 rfl rfl ?_
  refine s_iconst (n := 0) (pc2 := 29) X dX5_follow_28 rfl ?_
  refine s_iast (pc2 := 30) X dX5_follow_29 rfl (inI_c 0 rfl) ?_
  refine s_aload_n (j := 0) (pc2 := 31) X dX5_follow_30 rfl rfl ?_
  refine s_getR (pc2 := 34) X dX5_follow_31 rfl fl_RX5_24 rfl (fun v2 => ?_)
  refine s_iload_n (j := 1) (pc2 := 35) X dX5_follow_34 rfl rfl ?_
  refine s_bipush (n := (-2)) (pc2 := 37) X dX5_follow_35 rfl rfl ?_
  refine s_iast (pc2 := 38) X dX5_follow_37 rfl (inI_c (-2) rfl) ?_
  refine s_iload_n (j := 3) (pc2 := 39) X dX5_follow_38 rfl rfl ?_
  refine s_ifgt (tgt := 43) X dX5_follow_39 (by decide) rfl h3 ?_ ?_
  · refine s_iconst (n := 0) (pc2 := 44) X dX5_follow_43 rfl ?_
    refine s_istore (pc2 := 46) X dX5_follow_44 rfl (by decide) rfl rfl cat1_I (inI_c 0 rfl) (fun w3 hw3 => ?_)
    refine s_sub (lv2 := [(0, vR C.1.1 l0), (1, vI l1), (2, vI l2), (3, vI l3), (4, vI w3)]) [1, 2, 3, 4, 0] rfl ?_
    exact z_X5_follow_L46 d hd K X r_follow hr_follow 1000000000 l0 l1 l2 l3 w3 h1 h2 h3 hw3
  · exact s_ret X dX5_follow_42
set_option maxRecDepth 4000 in
theorem z_X5_follow_L21 (d : Nat) (hd : 2 ≤ d) {C : hCx} (K : hCtx C.1 C.2.2.1 d 0 0 "follow" C) (X : hOK C cX5_follow RX5 7 none) (r_follow : Nat → Int → Int → Int → hM) (hr_follow : ∀ (l0 : Nat) (l1 : Int) (l2 : Int) (l3 : Int), inI l1 → inI l2 → inI l3 → hMet C.1 C.2.2.1 yX5_follow cX5_follow 7 none (d - 1) 0 0 [vR C.1.1 l0, vI l1, vI l2, vI l3] (r_follow l0 l1 l2 l3)) (l0 : Nat) (l1 : Int) (l2 : Int) (l3 : Int) (s0 : Nat) (s1 : Int) (h1 : inI l1) (h2 : inI l2) (h3 : inI l3) (g1 : inI s1) : hSim C none 0 0 7 21 [(0, vR C.1.1 l0), (1, vI l1), (2, vI l2), (3, vI l3)] [vI s1, vR C.1.1 s0] 0 0 (m_X5_follow_L21 r_follow l0 l1 l2 l3 s0 s1) := by
  obtain ⟨⟨hf, hlo⟩, ⟨hc1, hc2⟩, hf1, hl1⟩ := K_room K (by omega)
  have hcs : 0 ≤ C.2.2.2.2.1.cells ∧ 0 ≤ C.2.2.2.2.1.slots := ⟨Nat.zero_le _, Nat.zero_le _⟩
  unfold m_X5_follow_L21
  refine s_iconst (n := 0) (pc2 := 22) X dX5_follow_21 rfl ?_
  exact z_X5_follow_L22 d hd K X r_follow hr_follow l0 l1 l2 l3 s0 s1 0 h1 h2 h3 g1 (inI_c 0 rfl)
set_option maxRecDepth 4000 in
set_option maxHeartbeats 20000000 in
theorem z_X5_follow (d : Nat) (hd : 2 ≤ d) {C : hCx} (K : hCtx C.1 C.2.2.1 d 0 0 "follow" C) (X : hOK C cX5_follow RX5 7 none) (r_follow : Nat → Int → Int → Int → hM) (hr_follow : ∀ (l0 : Nat) (l1 : Int) (l2 : Int) (l3 : Int), inI l1 → inI l2 → inI l3 → hMet C.1 C.2.2.1 yX5_follow cX5_follow 7 none (d - 1) 0 0 [vR C.1.1 l0, vI l1, vI l2, vI l3] (r_follow l0 l1 l2 l3)) (l0 : Nat) (l1 : Int) (l2 : Int) (l3 : Int) (h1 : inI l1) (h2 : inI l2) (h3 : inI l3) : hSim C none 0 0 7 0 [(0, vR C.1.1 l0), (1, vI l1), (2, vI l2), (3, vI l3)] [] 0 0 (m_X5_follow r_follow l0 l1 l2 l3) := by
  obtain ⟨⟨hf, hlo⟩, ⟨hc1, hc2⟩, hf1, hl1⟩ := K_room K (by omega)
  have hcs : 0 ≤ C.2.2.2.2.1.cells ∧ 0 ≤ C.2.2.2.2.1.slots := ⟨Nat.zero_le _, Nat.zero_le _⟩
  unfold m_X5_follow
  refine s_aload_n (j := 0) (pc2 := 1) X dX5_follow_0 rfl rfl ?_
  refine s_getR (pc2 := 4) X dX5_follow_1 rfl fl_RX5_18 rfl (fun v1 => ?_)
  refine s_iload_n (j := 1) (pc2 := 5) X dX5_follow_4 rfl rfl ?_
  refine s_iload_n (j := 3) (pc2 := 6) X dX5_follow_5 rfl rfl ?_
  refine s_ifne (tgt := 21) X dX5_follow_6 (by decide) rfl h3 ?_ ?_
  · exact z_X5_follow_L21 d hd K X r_follow hr_follow l0 l1 l2 l3 v1 l1 h1 h2 h3 h1
  · refine s_iload_n (j := 2) (pc2 := 10) X dX5_follow_9 rfl rfl ?_
    refine s_aload_n (j := 0) (pc2 := 11) X dX5_follow_10 rfl rfl ?_
    refine s_getI (pc2 := 14) X dX5_follow_11 rfl fl_RX5_37 rfl (fun v2 hv2 => ?_)
    refine s_icne (tgt := 21) X dX5_follow_14 (by decide) rfl h2 hv2 ?_ ?_
    · exact z_X5_follow_L21 d hd K X r_follow hr_follow l0 l1 l2 l3 v1 l1 h1 h2 h3 h1
    · refine s_iconst (n := 1) (pc2 := 18) X dX5_follow_17 rfl ?_
      refine s_goto (pc2 := 22) X dX5_follow_18 (by decide) ?_
      exact z_X5_follow_L22 d hd K X r_follow hr_follow l0 l1 l2 l3 v1 l1 1 h1 h2 h3 h1 (inI_c 1 rfl)
theorem c_X5_follow (d : Nat) (hd : 2 ≤ d) (G : hG) (l : Launch) (r_follow : Nat → Int → Int → Int → hM) (hr_follow : ∀ (l0 : Nat) (l1 : Int) (l2 : Int) (l3 : Int), inI l1 → inI l2 → inI l3 → hMet G l yX5_follow cX5_follow 7 none (d - 1) 0 0 [vR G.1 l0, vI l1, vI l2, vI l3] (r_follow l0 l1 l2 l3)) (l0 : Nat) (l1 : Int) (l2 : Int) (l3 : Int) (h1 : inI l1) (h2 : inI l2) (h3 : inI l3) : hMet G l yX5_follow cX5_follow 7 none d 0 0 [vR G.1 l0, vI l1, vI l2, vI l3] (m_X5_follow r_follow l0 l1 l2 l3) := by
  refine hMet.of (lv := [(0, vR G.1 l0), (1, vI l1), (2, vI l2), (3, vI l3)]) (by decide +kernel) (by simp [lg_sl, vR_cat, vI_cat, vL_cat, vS_cat2, vT_cat2]) (by simp [lv_args, vR_cat, vI_cat, vL_cat, vS_cat2, vT_cat2]) (fun C K X => ?_)
  obtain ⟨rfl, rfl, K⟩ := K
  exact z_X5_follow d hd ⟨rfl, rfl, K⟩ X r_follow hr_follow l0 l1 l2 l3 h1 h2 h3
def M_X5_follow : Nat → Nat → Int → Int → Int → hM
  | 0 => fun _ _ _ _ => hfail
  | n + 1 => m_X5_follow (M_X5_follow n)
theorem C_X5_follow : ∀ (n d : Nat), 2 + n ≤ d → ∀ (G : hG) (l : Launch) (l0 : Nat) (l1 l2 l3 : Int), inI l1 → inI l2 → inI l3 → hMet G l yX5_follow cX5_follow 7 none d 0 0 [vR G.1 l0, vI l1, vI l2, vI l3] (M_X5_follow n l0 l1 l2 l3) := by
  intro n
  induction n with
  | zero => intro d hd G l l0 l1 l2 l3 h1 h2 h3 u r u2 h; cases h
  | succ n ih => intro d hd G l l0 l1 l2 l3 h1 h2 h3; exact c_X5_follow d (by omega) G l (M_X5_follow n) (fun a b c e hb hc he => ih (d - 1) (by omega) G l a b c e hb hc he) l0 l1 l2 l3 h1 h2 h3
def m_X5_tell (l0 : Nat) : hM :=
  hgR 5 l0 2 fun v1 =>
  hcall (m_J7_fill_53178 v1 ((-1))) fun _ =>
  hgI 5 l0 8 fun v2 =>
  hgI 5 l0 6 fun v3 =>
  hcallV 5 l0 (M_X5_follow 12 l0 0 v2 v3) fun _ =>
  hret 0
set_option maxRecDepth 4000 in
set_option maxHeartbeats 20000000 in
theorem z_X5_tell (d : Nat) (hd : 15 ≤ d) {C : hCx} (K : hCtx C.1 C.2.2.1 d 0 0 "tell" C) (X : hOK C cX5_tell RX5 1 none) (l0 : Nat) : hSim C none 0 0 1 0 [(0, vR C.1.1 l0)] [] 0 0 (m_X5_tell l0) := by
  obtain ⟨⟨hf, hlo⟩, ⟨hc1, hc2⟩, hf1, hl1⟩ := K_room K (by omega)
  have hcs : 0 ≤ C.2.2.2.2.1.cells ∧ 0 ≤ C.2.2.2.2.1.slots := ⟨Nat.zero_le _, Nat.zero_le _⟩
  unfold m_X5_tell
  refine s_aload_n (j := 0) (pc2 := 1) X dX5_tell_0 rfl rfl ?_
  refine s_getR (pc2 := 4) X dX5_tell_1 rfl fl_RX5_18 rfl (fun v1 => ?_)
  refine s_iconst (n := (-1)) (pc2 := 5) X dX5_tell_4 rfl ?_
  refine s_callSV (d2 := d - 1) (As := [vR C.1.1 v1, vI ((-1))]) (st := []) (pc2 := 8) X dX5_tell_5 rfl ml_RX5_67 sm_J7_fill_53178 (c_J7_fill_53178 (d - 1) (by omega) C.1 C.2.2.1 v1 ((-1)) (inI_c (-1) rfl)) hy_J7_fill_53178 rfl rfl hf hlo (st_room (Nat.le_of_ble_eq_true rfl)) hcs (fun _ => ?_)
  refine s_aload_n (j := 0) (pc2 := 9) X dX5_tell_8 rfl rfl ?_
  refine s_iconst (n := 0) (pc2 := 10) X dX5_tell_9 rfl ?_
  refine s_aload_n (j := 0) (pc2 := 11) X dX5_tell_10 rfl rfl ?_
  refine s_getI (pc2 := 14) X dX5_tell_11 rfl fl_RX5_34 rfl (fun v2 hv2 => ?_)
  refine s_aload_n (j := 0) (pc2 := 15) X dX5_tell_14 rfl rfl ?_
  refine s_getI (pc2 := 18) X dX5_tell_15 rfl fl_RX5_27 rfl (fun v3 hv3 => ?_)
  refine s_callVV (d2 := d - 1) (As := [vI 0, vI v2, vI v3]) (st := []) (pc2 := 21) X dX5_tell_18 rfl ml_RX5_73 im_X5_follow se_X5_follow kX5 rfl (C_X5_follow 12 (d - 1) (by omega) C.1 C.2.2.1 l0 0 v2 v3 (inI_c 0 rfl) hv2 hv3) hy_X5_follow rfl rfl hf hlo (st_room (Nat.le_of_ble_eq_true rfl)) hcs (fun _ => ?_)
  exact s_ret X dX5_tell_21
theorem c_X5_tell (d : Nat) (hd : 15 ≤ d) (G : hG) (l : Launch) (l0 : Nat) : hMet G l yX5_tell cX5_tell 1 none d 0 0 [vR G.1 l0] (m_X5_tell l0) := by
  refine hMet.of (lv := [(0, vR G.1 l0)]) (by decide +kernel) (by simp [lg_sl, vR_cat, vI_cat, vL_cat, vS_cat2, vT_cat2]) (by simp [lv_args, vR_cat, vI_cat, vL_cat, vS_cat2, vT_cat2]) (fun C K X => ?_)
  obtain ⟨rfl, rfl, K⟩ := K
  exact z_X5_tell d hd ⟨rfl, rfl, K⟩ X l0
def m_X5_rowCount (l0 : Nat) : hM :=
  hgR 5 l0 2 fun v1 =>
  haI 20 v1 0 fun v2 =>
  hret v2
set_option maxRecDepth 4000 in
set_option maxHeartbeats 20000000 in
theorem z_X5_rowCount (d : Nat) (hd : 1 ≤ d) {C : hCx} (K : hCtx C.1 C.2.2.1 d 0 0 "rowCount" C) (X : hOK C cX5_rowCount RX5 1 (some .int)) (l0 : Nat) : hSim C (some .int) 0 0 1 0 [(0, vR C.1.1 l0)] [] 0 0 (m_X5_rowCount l0) := by
  obtain ⟨⟨hf, hlo⟩, ⟨hc1, hc2⟩, hf1, hl1⟩ := K_room K (by omega)
  have hcs : 0 ≤ C.2.2.2.2.1.cells ∧ 0 ≤ C.2.2.2.2.1.slots := ⟨Nat.zero_le _, Nat.zero_le _⟩
  unfold m_X5_rowCount
  refine s_aload_n (j := 0) (pc2 := 1) X dX5_rowCount_0 rfl rfl ?_
  refine s_getR (pc2 := 4) X dX5_rowCount_1 rfl fl_RX5_18 rfl (fun v1 => ?_)
  refine s_iconst (n := 0) (pc2 := 5) X dX5_rowCount_4 rfl ?_
  refine s_iald (pc2 := 6) X dX5_rowCount_5 rfl (fun v2 hv2 => ?_)
  exact s_iret X dX5_rowCount_6 hv2
theorem c_X5_rowCount (d : Nat) (hd : 1 ≤ d) (G : hG) (l : Launch) (l0 : Nat) : hMet G l yX5_rowCount cX5_rowCount 1 (some .int) d 0 0 [vR G.1 l0] (m_X5_rowCount l0) := by
  refine hMet.of (lv := [(0, vR G.1 l0)]) (by decide +kernel) (by simp [lg_sl, vR_cat, vI_cat, vL_cat, vS_cat2, vT_cat2]) (by simp [lv_args, vR_cat, vI_cat, vL_cat, vS_cat2, vT_cat2]) (fun C K X => ?_)
  obtain ⟨rfl, rfl, K⟩ := K
  exact z_X5_rowCount d hd ⟨rfl, rfl, K⟩ X l0
def m_X5_lastOnes (l0 : Nat) : hM :=
  hgR 5 l0 3 fun v1 =>
  haI 20 v1 0 fun v2 =>
  hret v2
set_option maxRecDepth 4000 in
set_option maxHeartbeats 20000000 in
theorem z_X5_lastOnes (d : Nat) (hd : 1 ≤ d) {C : hCx} (K : hCtx C.1 C.2.2.1 d 0 0 "lastOnes" C) (X : hOK C cX5_lastOnes RX5 1 (some .int)) (l0 : Nat) : hSim C (some .int) 0 0 1 0 [(0, vR C.1.1 l0)] [] 0 0 (m_X5_lastOnes l0) := by
  obtain ⟨⟨hf, hlo⟩, ⟨hc1, hc2⟩, hf1, hl1⟩ := K_room K (by omega)
  have hcs : 0 ≤ C.2.2.2.2.1.cells ∧ 0 ≤ C.2.2.2.2.1.slots := ⟨Nat.zero_le _, Nat.zero_le _⟩
  unfold m_X5_lastOnes
  refine s_aload_n (j := 0) (pc2 := 1) X dX5_lastOnes_0 rfl rfl ?_
  refine s_getR (pc2 := 4) X dX5_lastOnes_1 rfl fl_RX5_21 rfl (fun v1 => ?_)
  refine s_iconst (n := 0) (pc2 := 5) X dX5_lastOnes_4 rfl ?_
  refine s_iald (pc2 := 6) X dX5_lastOnes_5 rfl (fun v2 hv2 => ?_)
  exact s_iret X dX5_lastOnes_6 hv2
theorem c_X5_lastOnes (d : Nat) (hd : 1 ≤ d) (G : hG) (l : Launch) (l0 : Nat) : hMet G l yX5_lastOnes cX5_lastOnes 1 (some .int) d 0 0 [vR G.1 l0] (m_X5_lastOnes l0) := by
  refine hMet.of (lv := [(0, vR G.1 l0)]) (by decide +kernel) (by simp [lg_sl, vR_cat, vI_cat, vL_cat, vS_cat2, vT_cat2]) (by simp [lv_args, vR_cat, vI_cat, vL_cat, vS_cat2, vT_cat2]) (fun C K X => ?_)
  obtain ⟨rfl, rfl, K⟩ := K
  exact z_X5_lastOnes d hd ⟨rfl, rfl, K⟩ X l0
def m_X5_lastOfFirst (l0 : Nat) : hM :=
  hgR 5 l0 4 fun v1 =>
  haI 20 v1 0 fun v2 =>
  hret v2
set_option maxRecDepth 4000 in
set_option maxHeartbeats 20000000 in
theorem z_X5_lastOfFirst (d : Nat) (hd : 1 ≤ d) {C : hCx} (K : hCtx C.1 C.2.2.1 d 0 0 "lastOfFirst" C) (X : hOK C cX5_lastOfFirst RX5 1 (some .int)) (l0 : Nat) : hSim C (some .int) 0 0 1 0 [(0, vR C.1.1 l0)] [] 0 0 (m_X5_lastOfFirst l0) := by
  obtain ⟨⟨hf, hlo⟩, ⟨hc1, hc2⟩, hf1, hl1⟩ := K_room K (by omega)
  have hcs : 0 ≤ C.2.2.2.2.1.cells ∧ 0 ≤ C.2.2.2.2.1.slots := ⟨Nat.zero_le _, Nat.zero_le _⟩
  unfold m_X5_lastOfFirst
  refine s_aload_n (j := 0) (pc2 := 1) X dX5_lastOfFirst_0 rfl rfl ?_
  refine s_getR (pc2 := 4) X dX5_lastOfFirst_1 rfl fl_RX5_24 rfl (fun v1 => ?_)
  refine s_iconst (n := 0) (pc2 := 5) X dX5_lastOfFirst_4 rfl ?_
  refine s_iald (pc2 := 6) X dX5_lastOfFirst_5 rfl (fun v2 hv2 => ?_)
  exact s_iret X dX5_lastOfFirst_6 hv2
theorem c_X5_lastOfFirst (d : Nat) (hd : 1 ≤ d) (G : hG) (l : Launch) (l0 : Nat) : hMet G l yX5_lastOfFirst cX5_lastOfFirst 1 (some .int) d 0 0 [vR G.1 l0] (m_X5_lastOfFirst l0) := by
  refine hMet.of (lv := [(0, vR G.1 l0)]) (by decide +kernel) (by simp [lg_sl, vR_cat, vI_cat, vL_cat, vS_cat2, vT_cat2]) (by simp [lv_args, vR_cat, vI_cat, vL_cat, vS_cat2, vT_cat2]) (fun C K X => ?_)
  obtain ⟨rfl, rfl, K⟩ := K
  exact z_X5_lastOfFirst d hd ⟨rfl, rfl, K⟩ X l0
def m_X8_init (l0 : Nat) (l1 : Nat) : hM :=
  hnewA 20 9 fun v1 =>
  hpR 8 l0 0 v1 <|
  hpI 8 l0 2 0 <|
  hpI 8 l0 3 0 <|
  hpR 8 l0 1 l1 <|
  hret 0
set_option maxRecDepth 4000 in
set_option maxHeartbeats 20000000 in
theorem z_X8_init (d : Nat) (hd : 1 ≤ d) {C : hCx} (K : hCtx C.1 C.2.2.1 d 1 9 "<init>" C) (X : hOK C cX8_init RX8 2 none) (l0 : Nat) (l1 : Nat) (p0 : 0 < l0) : hSim C none 1 9 2 0 [(0, vR C.1.1 l0), (1, vR C.1.1 l1)] [] 0 0 (m_X8_init l0 l1) := by
  obtain ⟨⟨hf, hlo⟩, ⟨hc1, hc2⟩, hf1, hl1⟩ := K_room K (by omega)
  have hcs : 0 ≤ C.2.2.2.2.1.cells ∧ 0 ≤ C.2.2.2.2.1.slots := ⟨Nat.zero_le _, Nat.zero_le _⟩
  unfold m_X8_init
  refine s_aload_n (j := 0) (pc2 := 1) X dX8_init_0 rfl rfl ?_
  refine s_objI (pc2 := 4) X dX8_init_1 rfl ml_RX8_3 im_objectInit co_objectInit p0 hf1 hl1 (st_room (Nat.le_of_ble_eq_true rfl)) ?_
  refine s_aload_n (j := 0) (pc2 := 5) X dX8_init_4 rfl rfl ?_
  refine s_bipush (n := 9) (pc2 := 7) X dX8_init_5 rfl rfl ?_
  refine s_newa20 (N := 9) (pc2 := 9) X dX8_init_7 rfl rfl (by decide) ac_int (by rw [hc1]; exact Nat.le_of_ble_eq_true rfl) (by rw [hc2]; exact Nat.le_of_ble_eq_true rfl) (fun v1 => ?_)
  refine s_cs 1 9 rfl rfl ?_
  refine s_putR (pc2 := 12) X dX8_init_9 rfl fl_RX8_9 (Or.inr ⟨K.2.2.2, _, rfl, rfl⟩) rfl ?_
  refine s_aload_n (j := 0) (pc2 := 13) X dX8_init_12 rfl rfl ?_
  refine s_iconst (n := 0) (pc2 := 14) X dX8_init_13 rfl ?_
  refine s_putI (pc2 := 17) X dX8_init_14 rfl fl_RX8_15 (Or.inl rfl) rfl (inI_c 0 rfl) ?_
  refine s_aload_n (j := 0) (pc2 := 18) X dX8_init_17 rfl rfl ?_
  refine s_iconst (n := 0) (pc2 := 19) X dX8_init_18 rfl ?_
  refine s_putI (pc2 := 22) X dX8_init_19 rfl fl_RX8_19 (Or.inl rfl) rfl (inI_c 0 rfl) ?_
  refine s_aload_n (j := 0) (pc2 := 23) X dX8_init_22 rfl rfl ?_
  refine s_aload_n (j := 1) (pc2 := 24) X dX8_init_23 rfl rfl ?_
  refine s_putR (pc2 := 27) X dX8_init_24 rfl fl_RX8_22 (Or.inl rfl) rfl ?_
  exact s_ret X dX8_init_27
theorem c_X8_init (d : Nat) (hd : 1 ≤ d) (G : hG) (l : Launch) (l0 : Nat) (l1 : Nat) (p0 : 0 < l0) : hMet G l yX8_init cX8_init 2 none d 1 9 [vR G.1 l0, vR G.1 l1] (m_X8_init l0 l1) := by
  refine hMet.of (lv := [(0, vR G.1 l0), (1, vR G.1 l1)]) (by decide +kernel) (by simp [lg_sl, vR_cat, vI_cat, vL_cat, vS_cat2, vT_cat2]) (by simp [lv_args, vR_cat, vI_cat, vL_cat, vS_cat2, vT_cat2]) (fun C K X => ?_)
  obtain ⟨rfl, rfl, K⟩ := K
  exact z_X8_init d hd ⟨rfl, rfl, K⟩ X l0 l1 p0
def m_X8_follow_L114 (r_follow : Nat → Int → Int → hM) : hM :=
  hret 0
def m_X8_follow_L108 (r_follow : Nat → Int → Int → hM) (k27 : Nat → Int → Int → Int → hM) (l0 : Nat) (l1 : Int) (l2 : Int) (l3 : Int) : hM :=
  hlet (w32 (l3 + 1)) fun (w1 : Int) =>
  k27 l0 l1 l2 w1
def m_X8_follow_L27 (r_follow : Nat → Int → Int → hM) : Nat → Nat → Int → Int → Int → hM
  | 0, _, _, _, _ => hfail
  | n + 1, l0, l1, l2, l3 =>
    hgR 8 l0 1 fun v1 =>
  hgI 1 v1 3 fun v2 =>
  hif (l3 ≥ v2) (
m_X8_follow_L114 r_follow) (
hgI 8 l0 2 fun v3 =>
  hif (v3 ≥ 8) (
m_X8_follow_L114 r_follow) (
hgR 8 l0 1 fun v4 =>
  hcallV 1 v4 (m_X1_across v4 l3 l2) fun v5 =>
  hlet v5 fun (w6 : Int) =>
  hif (w6 = ((-1))) (
m_X8_follow_L108 r_follow (m_X8_follow_L27 r_follow n) l0 l1 l2 l3) (
hgR 8 l0 1 fun v7 =>
  hgR 8 l0 0 fun v8 =>
  hcallV 1 v7 (m_X1_isFirstOpen v7 l3 v8) fun v9 =>
  hif (v9 = 0) (
m_X8_follow_L108 r_follow (m_X8_follow_L27 r_follow n) l0 l1 l2 l3) (
hgR 8 l0 0 fun v10 =>
  haI 20 v10 l3 fun v11 =>
  hsI 20 v10 l3 ((w32 (v11 - 1))) <|
  hcallV 8 l0 (r_follow l0 ((w32 (l1 + 1))) w6) fun _ =>
  hgR 8 l0 0 fun v12 =>
  haI 20 v12 l3 fun v13 =>
  hsI 20 v12 l3 ((w32 (v13 + 1))) <|
  m_X8_follow_L108 r_follow (m_X8_follow_L27 r_follow n) l0 l1 l2 l3))))
def m_X8_follow_L18 (r_follow : Nat → Int → Int → hM) (l0 : Nat) (l1 : Int) (l2 : Int) : hM :=
  hif (l1 < 8) (
hlet (0 : Int) fun (w1 : Int) =>
  m_X8_follow_L27 r_follow 1000000000 l0 l1 l2 w1) (
hret 0)
def m_X8_follow (r_follow : Nat → Int → Int → hM) (l0 : Nat) (l1 : Int) (l2 : Int) : hM :=
  hgI 8 l0 2 fun v1 =>
  hif (l1 ≤ v1) (
m_X8_follow_L18 r_follow l0 l1 l2) (
hpI 8 l0 2 l1 <|
  hpI 8 l0 3 l2 <|
  m_X8_follow_L18 r_follow l0 l1 l2)
set_option maxRecDepth 4000 in
theorem z_X8_follow_L114 (d : Nat) (hd : 2 ≤ d) {C : hCx} (K : hCtx C.1 C.2.2.1 d 0 0 "follow" C) (X : hOK C cX8_follow RX8 5 none) (r_follow : Nat → Int → Int → hM) (hr_follow : ∀ (l0 : Nat) (l1 : Int) (l2 : Int), inI l1 → inI l2 → hMet C.1 C.2.2.1 yX8_follow cX8_follow 5 none (d - 1) 0 0 [vR C.1.1 l0, vI l1, vI l2] (r_follow l0 l1 l2)) : hSim C none 0 0 5 114 [] [] 0 0 (m_X8_follow_L114 r_follow) := by
  obtain ⟨⟨hf, hlo⟩, ⟨hc1, hc2⟩, hf1, hl1⟩ := K_room K (by omega)
  have hcs : 0 ≤ C.2.2.2.2.1.cells ∧ 0 ≤ C.2.2.2.2.1.slots := ⟨Nat.zero_le _, Nat.zero_le _⟩
  unfold m_X8_follow_L114
  exact s_ret X dX8_follow_114
set_option maxRecDepth 4000 in
theorem z_X8_follow_L108 (d : Nat) (hd : 2 ≤ d) {C : hCx} (K : hCtx C.1 C.2.2.1 d 0 0 "follow" C) (X : hOK C cX8_follow RX8 5 none) (r_follow : Nat → Int → Int → hM) (hr_follow : ∀ (l0 : Nat) (l1 : Int) (l2 : Int), inI l1 → inI l2 → hMet C.1 C.2.2.1 yX8_follow cX8_follow 5 none (d - 1) 0 0 [vR C.1.1 l0, vI l1, vI l2] (r_follow l0 l1 l2)) (k27 : Nat → Int → Int → Int → hM) (hk27 : ∀ (l0 : Nat) (l1 : Int) (l2 : Int) (l3 : Int), inI l1 → inI l2 → inI l3 → hSim C none 0 0 5 27 [(0, vR C.1.1 l0), (1, vI l1), (2, vI l2), (3, vI l3)] [] 0 0 (k27 l0 l1 l2 l3)) (l0 : Nat) (l1 : Int) (l2 : Int) (l3 : Int) (h1 : inI l1) (h2 : inI l2) (h3 : inI l3) : hSim C none 0 0 5 108 [(0, vR C.1.1 l0), (1, vI l1), (2, vI l2), (3, vI l3)] [] 0 0 (m_X8_follow_L108 r_follow k27 l0 l1 l2 l3) := by
  obtain ⟨⟨hf, hlo⟩, ⟨hc1, hc2⟩, hf1, hl1⟩ := K_room K (by omega)
  have hcs : 0 ≤ C.2.2.2.2.1.cells ∧ 0 ≤ C.2.2.2.2.1.slots := ⟨Nat.zero_le _, Nat.zero_le _⟩
  unfold m_X8_follow_L108
  refine s_iinc (j := 3) (pc2 := 111) X dX8_follow_108 rfl (by decide) rfl rfl rfl cat1_I (fun w1 hw1 => ?_)
  refine s_goto (pc2 := 27) X dX8_follow_111 (by decide) ?_
  refine s_sub (lv2 := [(0, vR C.1.1 l0), (1, vI l1), (2, vI l2), (3, vI w1)]) [1, 2, 3, 0] rfl ?_
  exact hk27 l0 l1 l2 w1 h1 h2 hw1
set_option maxRecDepth 4000 in
theorem z_X8_follow_L27 (d : Nat) (hd : 2 ≤ d) {C : hCx} (K : hCtx C.1 C.2.2.1 d 0 0 "follow" C) (X : hOK C cX8_follow RX8 5 none) (r_follow : Nat → Int → Int → hM) (hr_follow : ∀ (l0 : Nat) (l1 : Int) (l2 : Int), inI l1 → inI l2 → hMet C.1 C.2.2.1 yX8_follow cX8_follow 5 none (d - 1) 0 0 [vR C.1.1 l0, vI l1, vI l2] (r_follow l0 l1 l2)) : ∀ (n : Nat) (l0 : Nat) (l1 : Int) (l2 : Int) (l3 : Int) (h1 : inI l1) (h2 : inI l2) (h3 : inI l3), hSim C none 0 0 5 27 [(0, vR C.1.1 l0), (1, vI l1), (2, vI l2), (3, vI l3)] [] 0 0 (m_X8_follow_L27 r_follow n l0 l1 l2 l3) := by
  obtain ⟨⟨hf, hlo⟩, ⟨hc1, hc2⟩, hf1, hl1⟩ := K_room K (by omega)
  have hcs : 0 ≤ C.2.2.2.2.1.cells ∧ 0 ≤ C.2.2.2.2.1.slots := ⟨Nat.zero_le _, Nat.zero_le _⟩
  intro n
  induction n with
  | zero => intros; exact s_none (fun _ => rfl)
  | succ n ih =>
    intro l0 l1 l2 l3 h1 h2 h3
    unfold m_X8_follow_L27
    refine s_iload_n (j := 3) (pc2 := 28) X dX8_follow_27 rfl rfl ?_
    refine s_aload_n (j := 0) (pc2 := 29) X dX8_follow_28 rfl rfl ?_
    refine s_getR (pc2 := 32) X dX8_follow_29 rfl fl_RX8_22 rfl (fun v1 => ?_)
    refine s_getI (pc2 := 35) X dX8_follow_32 rfl fl_RX8_46 rfl (fun v2 hv2 => ?_)
    refine s_icge (tgt := 114) X dX8_follow_35 (by decide) rfl h3 hv2 ?_ ?_
    · refine s_sub (lv2 := []) [] rfl ?_
      exact z_X8_follow_L114 d hd K X r_follow hr_follow
    · refine s_aload_n (j := 0) (pc2 := 39) X dX8_follow_38 rfl rfl ?_
      refine s_getI (pc2 := 42) X dX8_follow_39 rfl fl_RX8_15 rfl (fun v3 hv3 => ?_)
      refine s_bipush (n := 8) (pc2 := 44) X dX8_follow_42 rfl rfl ?_
      refine s_icge (tgt := 114) X dX8_follow_44 (by decide) rfl hv3 (inI_c 8 rfl) ?_ ?_
      · refine s_sub (lv2 := []) [] rfl ?_
        exact z_X8_follow_L114 d hd K X r_follow hr_follow
      · refine s_aload_n (j := 0) (pc2 := 48) X dX8_follow_47 rfl rfl ?_
        refine s_getR (pc2 := 51) X dX8_follow_48 rfl fl_RX8_22 rfl (fun v4 => ?_)
        refine s_iload_n (j := 3) (pc2 := 52) X dX8_follow_51 rfl rfl ?_
        refine s_iload_n (j := 2) (pc2 := 53) X dX8_follow_52 rfl rfl ?_
        refine s_callVI (d2 := d - 1) (As := [vI l3, vI l2]) (st := []) (pc2 := 56) X dX8_follow_53 rfl ml_RX8_51 im_X1_across se_X1_across kX1 rfl (c_X1_across (d - 1) (by omega) C.1 C.2.2.1 v4 l3 l2 h3 h2) hy_X1_across rfl rfl hf hlo (st_room (Nat.le_of_ble_eq_true rfl)) hcs (fun v5 hv5 => ?_)
        refine s_istore (pc2 := 58) X dX8_follow_56 rfl (by decide) rfl rfl cat1_I hv5 (fun w6 hw6 => ?_)
        refine s_iload (j := 0) (pc2 := 60) X dX8_follow_58 rfl rfl ?_
        refine s_iconst (n := (-1)) (pc2 := 61) X dX8_follow_60 rfl ?_
        refine s_iceq (tgt := 108) X dX8_follow_61 (by decide) rfl hw6 (inI_c (-1) rfl) ?_ ?_
        · refine s_sub (lv2 := [(0, vR C.1.1 l0), (1, vI l1), (2, vI l2), (3, vI l3)]) [1, 2, 3, 4] rfl ?_
          exact z_X8_follow_L108 d hd K X r_follow hr_follow (m_X8_follow_L27 r_follow n) ih l0 l1 l2 l3 h1 h2 h3
        · refine s_aload_n (j := 1) (pc2 := 65) X dX8_follow_64 rfl rfl ?_
          refine s_getR (pc2 := 68) X dX8_follow_65 rfl fl_RX8_22 rfl (fun v7 => ?_)
          refine s_iload_n (j := 4) (pc2 := 69) X dX8_follow_68 rfl rfl ?_
          refine s_aload_n (j := 1) (pc2 := 70) X dX8_follow_69 rfl rfl ?_
          refine s_getR (pc2 := 73) X dX8_follow_70 rfl fl_RX8_9 rfl (fun v8 => ?_)
          refine s_callVZ (d2 := d - 1) (As := [vI l3, vR C.1.1 v8]) (st := []) (pc2 := 76) X dX8_follow_73 rfl ml_RX8_55 im_X1_isFirstOpen se_X1_isFirstOpen kX1 rfl (c_X1_isFirstOpen (d - 1) (by omega) C.1 C.2.2.1 v7 l3 v8 h3) hy_X1_isFirstOpen rfl rfl hf hlo (st_room (Nat.le_of_ble_eq_true rfl)) hcs (fun v9 hv9 => ?_)
          refine s_ifeq (tgt := 108) X dX8_follow_76 (by decide) rfl hv9 ?_ ?_
          · refine s_sub (lv2 := [(0, vR C.1.1 l0), (1, vI l1), (2, vI l2), (3, vI l3)]) [1, 2, 3, 4] rfl ?_
            exact z_X8_follow_L108 d hd K X r_follow hr_follow (m_X8_follow_L27 r_follow n) ih l0 l1 l2 l3 h1 h2 h3
          · refine s_aload_n (j := 1) (pc2 := 80) X dX8_follow_79 rfl rfl ?_
            refine s_getR (pc2 := 83) X dX8_follow_80 rfl fl_RX8_9 rfl (fun v10 => ?_)
            refine s_iload_n (j := 4) (pc2 := 84) X dX8_follow_83 rfl rfl ?_
            refine s_dup2 (pc2 := 85) X dX8_follow_84 rfl rfl (vR_cat _ _) ?_
            refine s_iald (pc2 := 86) X dX8_follow_85 rfl (fun v11 hv11 => ?_)
            refine s_iconst (n := 1) (pc2 := 87) X dX8_follow_86 rfl ?_
            refine s_isub (pc2 := 88) X dX8_follow_87 rfl ?_
            refine s_iast (pc2 := 89) X dX8_follow_88 rfl (w32_in _) ?_
            refine s_aload_n (j := 1) (pc2 := 90) X dX8_follow_89 rfl rfl ?_
            refine s_iload_n (j := 2) (pc2 := 91) X dX8_follow_90 rfl rfl ?_
            refine s_iconst (n := 1) (pc2 := 92) X dX8_follow_91 rfl ?_
            refine s_iadd (pc2 := 93) X dX8_follow_92 rfl ?_
            refine s_iload (j := 0) (pc2 := 95) X dX8_follow_93 rfl rfl ?_
            refine s_callVV (d2 := d - 1) (As := [vI ((w32 (l1 + 1))), vI w6]) (st := []) (pc2 := 98) X dX8_follow_95 rfl ml_RX8_42 im_X8_follow se_X8_follow kX8 rfl (hr_follow l0 ((w32 (l1 + 1))) w6 (w32_in _) hw6) hy_X8_follow rfl rfl hf hlo (st_room (Nat.le_of_ble_eq_true rfl)) hcs (fun _ => ?_)
            refine s_aload_n (j := 1) (pc2 := 99) X dX8_follow_98 rfl rfl ?_
            refine s_getR (pc2 := 102) X dX8_follow_99 rfl fl_RX8_9 rfl (fun v12 => ?_)
            refine s_iload_n (j := 4) (pc2 := 103) X dX8_follow_102 rfl rfl ?_
            refine s_dup2 (pc2 := 104) X dX8_follow_103 rfl rfl (vR_cat _ _) ?_
            refine s_iald (pc2 := 105) X dX8_follow_104 rfl (fun v13 hv13 => ?_)
            refine s_iconst (n := 1) (pc2 := 106) X dX8_follow_105 rfl ?_
            refine s_iadd (pc2 := 107) X dX8_follow_106 rfl ?_
            refine s_iast (pc2 := 108) X dX8_follow_107 rfl (w32_in _) ?_
            refine s_sub (lv2 := [(0, vR C.1.1 l0), (1, vI l1), (2, vI l2), (3, vI l3)]) [1, 2, 3, 4] rfl ?_
            exact z_X8_follow_L108 d hd K X r_follow hr_follow (m_X8_follow_L27 r_follow n) ih l0 l1 l2 l3 h1 h2 h3
set_option maxRecDepth 4000 in
theorem z_X8_follow_L18 (d : Nat) (hd : 2 ≤ d) {C : hCx} (K : hCtx C.1 C.2.2.1 d 0 0 "follow" C) (X : hOK C cX8_follow RX8 5 none) (r_follow : Nat → Int → Int → hM) (hr_follow : ∀ (l0 : Nat) (l1 : Int) (l2 : Int), inI l1 → inI l2 → hMet C.1 C.2.2.1 yX8_follow cX8_follow 5 none (d - 1) 0 0 [vR C.1.1 l0, vI l1, vI l2] (r_follow l0 l1 l2)) (l0 : Nat) (l1 : Int) (l2 : Int) (h1 : inI l1) (h2 : inI l2) : hSim C none 0 0 5 18 [(0, vR C.1.1 l0), (1, vI l1), (2, vI l2)] [] 0 0 (m_X8_follow_L18 r_follow l0 l1 l2) := by
  obtain ⟨⟨hf, hlo⟩, ⟨hc1, hc2⟩, hf1, hl1⟩ := K_room K (by omega)
  have hcs : 0 ≤ C.2.2.2.2.1.cells ∧ 0 ≤ C.2.2.2.2.1.slots := ⟨Nat.zero_le _, Nat.zero_le _⟩
  unfold m_X8_follow_L18
  refine s_iload_n (j := 1) (pc2 := 19) X dX8_follow_18 rfl rfl ?_
  refine s_bipush (n := 8) (pc2 := 21) X dX8_follow_19 rfl rfl ?_
  refine s_iclt (tgt := 25) X dX8_follow_21 (by decide) rfl h1 (inI_c 8 rfl) ?_ ?_
  · refine s_iconst (n := 0) (pc2 := 26) X dX8_follow_25 rfl ?_
    refine s_istore_n (pc2 := 27) X dX8_follow_26 rfl (by decide) rfl rfl cat1_I (inI_c 0 rfl) (fun w1 hw1 => ?_)
    refine s_sub (lv2 := [(0, vR C.1.1 l0), (1, vI l1), (2, vI l2), (3, vI w1)]) [1, 2, 3, 0] rfl ?_
    exact z_X8_follow_L27 d hd K X r_follow hr_follow 1000000000 l0 l1 l2 w1 h1 h2 hw1
  · exact s_ret X dX8_follow_24
set_option maxRecDepth 4000 in
set_option maxHeartbeats 20000000 in
theorem z_X8_follow (d : Nat) (hd : 2 ≤ d) {C : hCx} (K : hCtx C.1 C.2.2.1 d 0 0 "follow" C) (X : hOK C cX8_follow RX8 5 none) (r_follow : Nat → Int → Int → hM) (hr_follow : ∀ (l0 : Nat) (l1 : Int) (l2 : Int), inI l1 → inI l2 → hMet C.1 C.2.2.1 yX8_follow cX8_follow 5 none (d - 1) 0 0 [vR C.1.1 l0, vI l1, vI l2] (r_follow l0 l1 l2)) (l0 : Nat) (l1 : Int) (l2 : Int) (h1 : inI l1) (h2 : inI l2) : hSim C none 0 0 5 0 [(0, vR C.1.1 l0), (1, vI l1), (2, vI l2)] [] 0 0 (m_X8_follow r_follow l0 l1 l2) := by
  obtain ⟨⟨hf, hlo⟩, ⟨hc1, hc2⟩, hf1, hl1⟩ := K_room K (by omega)
  have hcs : 0 ≤ C.2.2.2.2.1.cells ∧ 0 ≤ C.2.2.2.2.1.slots := ⟨Nat.zero_le _, Nat.zero_le _⟩
  unfold m_X8_follow
  refine s_iload_n (j := 1) (pc2 := 1) X dX8_follow_0 rfl rfl ?_
  refine s_aload_n (j := 0) (pc2 := 2) X dX8_follow_1 rfl rfl ?_
  refine s_getI (pc2 := 5) X dX8_follow_2 rfl fl_RX8_15 rfl (fun v1 hv1 => ?_)
  refine s_icle (tgt := 18) X dX8_follow_5 (by decide) rfl h1 hv1 ?_ ?_
  · exact z_X8_follow_L18 d hd K X r_follow hr_follow l0 l1 l2 h1 h2
  · refine s_aload_n (j := 0) (pc2 := 9) X dX8_follow_8 rfl rfl ?_
    refine s_iload_n (j := 1) (pc2 := 10) X dX8_follow_9 rfl rfl ?_
    refine s_putI (pc2 := 13) X dX8_follow_10 rfl fl_RX8_15 (Or.inl rfl) rfl h1 ?_
    refine s_aload_n (j := 0) (pc2 := 14) X dX8_follow_13 rfl rfl ?_
    refine s_iload_n (j := 2) (pc2 := 15) X dX8_follow_14 rfl rfl ?_
    refine s_putI (pc2 := 18) X dX8_follow_15 rfl fl_RX8_19 (Or.inl rfl) rfl h2 ?_
    exact z_X8_follow_L18 d hd K X r_follow hr_follow l0 l1 l2 h1 h2
theorem c_X8_follow (d : Nat) (hd : 2 ≤ d) (G : hG) (l : Launch) (r_follow : Nat → Int → Int → hM) (hr_follow : ∀ (l0 : Nat) (l1 : Int) (l2 : Int), inI l1 → inI l2 → hMet G l yX8_follow cX8_follow 5 none (d - 1) 0 0 [vR G.1 l0, vI l1, vI l2] (r_follow l0 l1 l2)) (l0 : Nat) (l1 : Int) (l2 : Int) (h1 : inI l1) (h2 : inI l2) : hMet G l yX8_follow cX8_follow 5 none d 0 0 [vR G.1 l0, vI l1, vI l2] (m_X8_follow r_follow l0 l1 l2) := by
  refine hMet.of (lv := [(0, vR G.1 l0), (1, vI l1), (2, vI l2)]) (by decide +kernel) (by simp [lg_sl, vR_cat, vI_cat, vL_cat, vS_cat2, vT_cat2]) (by simp [lv_args, vR_cat, vI_cat, vL_cat, vS_cat2, vT_cat2]) (fun C K X => ?_)
  obtain ⟨rfl, rfl, K⟩ := K
  exact z_X8_follow d hd ⟨rfl, rfl, K⟩ X r_follow hr_follow l0 l1 l2 h1 h2
def M_X8_follow : Nat → Nat → Int → Int → hM
  | 0 => fun _ _ _ => hfail
  | n + 1 => m_X8_follow (M_X8_follow n)
theorem C_X8_follow : ∀ (n d : Nat), 2 + n ≤ d → ∀ (G : hG) (l : Launch) (l0 : Nat) (l1 l2 : Int), inI l1 → inI l2 → hMet G l yX8_follow cX8_follow 5 none d 0 0 [vR G.1 l0, vI l1, vI l2] (M_X8_follow n l0 l1 l2) := by
  intro n
  induction n with
  | zero => intro d hd G l l0 l1 l2 h1 h2 u r u2 h; cases h
  | succ n ih => intro d hd G l l0 l1 l2 h1 h2; exact c_X8_follow d (by omega) G l (M_X8_follow n) (fun a b c hb hc => ih (d - 1) (by omega) G l a b c hb hc) l0 l1 l2 h1 h2
def m_X8_start (l0 : Nat) (l1 : Nat) (l2 : Int) : hM :=
  hgR 4 l1 0 fun v1 =>
  hgR 7 v1 2 fun v2 =>
  hpR 8 l0 1 v2 <|
  hgR 8 l0 0 fun v3 =>
  hcallV 4 l1 (m_X4_tellLeft l1 l2 v3) fun _ =>
  hpI 8 l0 2 0 <|
  hgR 4 l1 2 fun v4 =>
  haI 20 v4 l2 fun v5 =>
  hpI 8 l0 3 v5 <|
  hgI 8 l0 3 fun v6 =>
  hcallV 8 l0 (M_X8_follow 12 l0 0 v6) fun _ =>
  hret 0
set_option maxRecDepth 4000 in
set_option maxHeartbeats 20000000 in
theorem z_X8_start (d : Nat) (hd : 15 ≤ d) {C : hCx} (K : hCtx C.1 C.2.2.1 d 0 0 "start" C) (X : hOK C cX8_start RX8 3 none) (l0 : Nat) (l1 : Nat) (l2 : Int) (h2 : inI l2) : hSim C none 0 0 3 0 [(0, vR C.1.1 l0), (1, vR C.1.1 l1), (2, vI l2)] [] 0 0 (m_X8_start l0 l1 l2) := by
  obtain ⟨⟨hf, hlo⟩, ⟨hc1, hc2⟩, hf1, hl1⟩ := K_room K (by omega)
  have hcs : 0 ≤ C.2.2.2.2.1.cells ∧ 0 ≤ C.2.2.2.2.1.slots := ⟨Nat.zero_le _, Nat.zero_le _⟩
  unfold m_X8_start
  refine s_aload_n (j := 0) (pc2 := 1) X dX8_start_0 rfl rfl ?_
  refine s_aload_n (j := 1) (pc2 := 2) X dX8_start_1 rfl rfl ?_
  refine s_getR (pc2 := 5) X dX8_start_2 rfl fl_RX8_26 rfl (fun v1 => ?_)
  refine s_getR (pc2 := 8) X dX8_start_5 rfl fl_RX8_32 rfl (fun v2 => ?_)
  refine s_putR (pc2 := 11) X dX8_start_8 rfl fl_RX8_22 (Or.inl rfl) rfl ?_
  refine s_aload_n (j := 1) (pc2 := 12) X dX8_start_11 rfl rfl ?_
  refine s_iload_n (j := 2) (pc2 := 13) X dX8_start_12 rfl rfl ?_
  refine s_aload_n (j := 0) (pc2 := 14) X dX8_start_13 rfl rfl ?_
  refine s_getR (pc2 := 17) X dX8_start_14 rfl fl_RX8_9 rfl (fun v3 => ?_)
  refine s_callVV (d2 := d - 1) (As := [vI l2, vR C.1.1 v3]) (st := []) (pc2 := 20) X dX8_start_17 rfl ml_RX8_35 im_X4_tellLeft se_X4_tellLeft kX4 rfl (c_X4_tellLeft (d - 1) (by omega) C.1 C.2.2.1 l1 l2 v3 h2) hy_X4_tellLeft rfl rfl hf hlo (st_room (Nat.le_of_ble_eq_true rfl)) hcs (fun _ => ?_)
  refine s_aload_n (j := 0) (pc2 := 21) X dX8_start_20 rfl rfl ?_
  refine s_iconst (n := 0) (pc2 := 22) X dX8_start_21 rfl ?_
  refine s_putI (pc2 := 25) X dX8_start_22 rfl fl_RX8_15 (Or.inl rfl) rfl (inI_c 0 rfl) ?_
  refine s_aload_n (j := 0) (pc2 := 26) X dX8_start_25 rfl rfl ?_
  refine s_aload_n (j := 1) (pc2 := 27) X dX8_start_26 rfl rfl ?_
  refine s_getR (pc2 := 30) X dX8_start_27 rfl fl_RX8_39 rfl (fun v4 => ?_)
  refine s_iload_n (j := 2) (pc2 := 31) X dX8_start_30 rfl rfl ?_
  refine s_iald (pc2 := 32) X dX8_start_31 rfl (fun v5 hv5 => ?_)
  refine s_putI (pc2 := 35) X dX8_start_32 rfl fl_RX8_19 (Or.inl rfl) rfl hv5 ?_
  refine s_aload_n (j := 0) (pc2 := 36) X dX8_start_35 rfl rfl ?_
  refine s_iconst (n := 0) (pc2 := 37) X dX8_start_36 rfl ?_
  refine s_aload_n (j := 0) (pc2 := 38) X dX8_start_37 rfl rfl ?_
  refine s_getI (pc2 := 41) X dX8_start_38 rfl fl_RX8_19 rfl (fun v6 hv6 => ?_)
  refine s_callVV (d2 := d - 1) (As := [vI 0, vI v6]) (st := []) (pc2 := 44) X dX8_start_41 rfl ml_RX8_42 im_X8_follow se_X8_follow kX8 rfl (C_X8_follow 12 (d - 1) (by omega) C.1 C.2.2.1 l0 0 v6 (inI_c 0 rfl) hv6) hy_X8_follow rfl rfl hf hlo (st_room (Nat.le_of_ble_eq_true rfl)) hcs (fun _ => ?_)
  exact s_ret X dX8_start_44
theorem c_X8_start (d : Nat) (hd : 15 ≤ d) (G : hG) (l : Launch) (l0 : Nat) (l1 : Nat) (l2 : Int) (h2 : inI l2) : hMet G l yX8_start cX8_start 3 none d 0 0 [vR G.1 l0, vR G.1 l1, vI l2] (m_X8_start l0 l1 l2) := by
  refine hMet.of (lv := [(0, vR G.1 l0), (1, vR G.1 l1), (2, vI l2)]) (by decide +kernel) (by simp [lg_sl, vR_cat, vI_cat, vL_cat, vS_cat2, vT_cat2]) (by simp [lv_args, vR_cat, vI_cat, vL_cat, vS_cat2, vT_cat2]) (fun C K X => ?_)
  obtain ⟨rfl, rfl, K⟩ := K
  exact z_X8_start d hd ⟨rfl, rfl, K⟩ X l0 l1 l2 h2
