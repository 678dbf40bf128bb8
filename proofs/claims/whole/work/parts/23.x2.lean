def m_X2_init (l0 : Nat) (l1 : Nat) : hM :=
  hnewA 20 9 fun v1 =>
  hpR 2 l0 0 v1 <|
  hnewA 20 48 fun v2 =>
  hpR 2 l0 1 v2 <|
  hnewA 20 56 fun v3 =>
  hpR 2 l0 2 v3 <|
  hnewA 20 6 fun v4 =>
  hpR 2 l0 3 v4 <|
  hnewA 20 6 fun v5 =>
  hpR 2 l0 4 v5 <|
  hpI 2 l0 6 0 <|
  hpI 2 l0 7 0 <|
  hpI 2 l0 8 0 <|
  hpI 2 l0 9 ((-1)) <|
  hpR 2 l0 5 l1 <|
  hret 0
set_option maxRecDepth 4000 in
set_option maxHeartbeats 20000000 in
theorem z_X2_init (d : Nat) (hd : 1 ≤ d) {C : hCx} (K : hCtx C.1 C.2.2.1 d 5 125 "<init>" C) (X : hOK C cX2_init RX2 2 none) (l0 : Nat) (l1 : Nat) (p0 : 0 < l0) : hSim C none 5 125 2 0 [(0, vR C.1.1 l0), (1, vR C.1.1 l1)] [] 0 0 (m_X2_init l0 l1) := by
  obtain ⟨⟨hf, hlo⟩, ⟨hc1, hc2⟩, hf1, hl1⟩ := K_room K (by omega)
  have hcs : 0 ≤ C.2.2.2.2.1.cells ∧ 0 ≤ C.2.2.2.2.1.slots := ⟨Nat.zero_le _, Nat.zero_le _⟩
  unfold m_X2_init
  refine s_aload_n (j := 0) (pc2 := 1) X dX2_init_0 rfl rfl ?_
  refine s_objI (pc2 := 4) X dX2_init_1 rfl ml_RX2_3 im_objectInit co_objectInit p0 hf1 hl1 (st_room (Nat.le_of_ble_eq_true rfl)) ?_
  refine s_aload_n (j := 0) (pc2 := 5) X dX2_init_4 rfl rfl ?_
  refine s_bipush (n := 9) (pc2 := 7) X dX2_init_5 rfl rfl ?_
  refine s_newa20 (N := 9) (pc2 := 9) X dX2_init_7 rfl rfl (by decide) ac_int (by rw [hc1]; exact Nat.le_of_ble_eq_true rfl) (by rw [hc2]; exact Nat.le_of_ble_eq_true rfl) (fun v1 => ?_)
  refine s_cs 1 9 rfl rfl ?_
  refine s_putR (pc2 := 12) X dX2_init_9 rfl fl_RX2_9 (Or.inr ⟨K.2.2.2, _, rfl, rfl⟩) rfl ?_
  refine s_aload_n (j := 0) (pc2 := 13) X dX2_init_12 rfl rfl ?_
  refine s_bipush (n := 48) (pc2 := 15) X dX2_init_13 rfl rfl ?_
  refine s_newa20 (N := 48) (pc2 := 17) X dX2_init_15 rfl rfl (by decide) ac_int (by rw [hc1]; exact Nat.le_of_ble_eq_true rfl) (by rw [hc2]; exact Nat.le_of_ble_eq_true rfl) (fun v2 => ?_)
  refine s_cs 2 57 rfl rfl ?_
  refine s_putR (pc2 := 20) X dX2_init_17 rfl fl_RX2_15 (Or.inr ⟨K.2.2.2, _, rfl, rfl⟩) rfl ?_
  refine s_aload_n (j := 0) (pc2 := 21) X dX2_init_20 rfl rfl ?_
  refine s_bipush (n := 56) (pc2 := 23) X dX2_init_21 rfl rfl ?_
  refine s_newa20 (N := 56) (pc2 := 25) X dX2_init_23 rfl rfl (by decide) ac_int (by rw [hc1]; exact Nat.le_of_ble_eq_true rfl) (by rw [hc2]; exact Nat.le_of_ble_eq_true rfl) (fun v3 => ?_)
  refine s_cs 3 113 rfl rfl ?_
  refine s_putR (pc2 := 28) X dX2_init_25 rfl fl_RX2_18 (Or.inr ⟨K.2.2.2, _, rfl, rfl⟩) rfl ?_
  refine s_aload_n (j := 0) (pc2 := 29) X dX2_init_28 rfl rfl ?_
  refine s_bipush (n := 6) (pc2 := 31) X dX2_init_29 rfl rfl ?_
  refine s_newa20 (N := 6) (pc2 := 33) X dX2_init_31 rfl rfl (by decide) ac_int (by rw [hc1]; exact Nat.le_of_ble_eq_true rfl) (by rw [hc2]; exact Nat.le_of_ble_eq_true rfl) (fun v4 => ?_)
  refine s_cs 4 119 rfl rfl ?_
  refine s_putR (pc2 := 36) X dX2_init_33 rfl fl_RX2_21 (Or.inr ⟨K.2.2.2, _, rfl, rfl⟩) rfl ?_
  refine s_aload_n (j := 0) (pc2 := 37) X dX2_init_36 rfl rfl ?_
  refine s_bipush (n := 6) (pc2 := 39) X dX2_init_37 rfl rfl ?_
  refine s_newa20 (N := 6) (pc2 := 41) X dX2_init_39 rfl rfl (by decide) ac_int (by rw [hc1]; exact Nat.le_of_ble_eq_true rfl) (by rw [hc2]; exact Nat.le_of_ble_eq_true rfl) (fun v5 => ?_)
  refine s_cs 5 125 rfl rfl ?_
  refine s_putR (pc2 := 44) X dX2_init_41 rfl fl_RX2_24 (Or.inr ⟨K.2.2.2, _, rfl, rfl⟩) rfl ?_
  refine s_aload_n (j := 0) (pc2 := 45) X dX2_init_44 rfl rfl ?_
  refine s_iconst (n := 0) (pc2 := 46) X dX2_init_45 rfl ?_
  refine s_putI (pc2 := 49) X dX2_init_46 rfl fl_RX2_27 (Or.inl rfl) rfl (inI_c 0 rfl) ?_
  refine s_aload_n (j := 0) (pc2 := 50) X dX2_init_49 rfl rfl ?_
  refine s_iconst (n := 0) (pc2 := 51) X dX2_init_50 rfl ?_
  refine s_putI (pc2 := 54) X dX2_init_51 rfl fl_RX2_31 (Or.inl rfl) rfl (inI_c 0 rfl) ?_
  refine s_aload_n (j := 0) (pc2 := 55) X dX2_init_54 rfl rfl ?_
  refine s_iconst (n := 0) (pc2 := 56) X dX2_init_55 rfl ?_
  refine s_putI (pc2 := 59) X dX2_init_56 rfl fl_RX2_34 (Or.inl rfl) rfl (inI_c 0 rfl) ?_
  refine s_aload_n (j := 0) (pc2 := 60) X dX2_init_59 rfl rfl ?_
  refine s_iconst (n := (-1)) (pc2 := 61) X dX2_init_60 rfl ?_
  refine s_putI (pc2 := 64) X dX2_init_61 rfl fl_RX2_37 (Or.inl rfl) rfl (inI_c (-1) rfl) ?_
  refine s_aload_n (j := 0) (pc2 := 65) X dX2_init_64 rfl rfl ?_
  refine s_aload_n (j := 1) (pc2 := 66) X dX2_init_65 rfl rfl ?_
  refine s_putR (pc2 := 69) X dX2_init_66 rfl fl_RX2_40 (Or.inl rfl) rfl ?_
  exact s_ret X dX2_init_69
theorem c_X2_init (d : Nat) (hd : 1 ≤ d) (G : hG) (l : Launch) (l0 : Nat) (l1 : Nat) (p0 : 0 < l0) : hMet G l yX2_init cX2_init 2 none d 5 125 [vR G.1 l0, vR G.1 l1] (m_X2_init l0 l1) := by
  refine hMet.of (lv := [(0, vR G.1 l0), (1, vR G.1 l1)]) (by decide +kernel) (by simp [lg_sl, vR_cat, vI_cat, vL_cat, vS_cat2, vT_cat2]) (by simp [lv_args, vR_cat, vI_cat, vL_cat, vS_cat2, vT_cat2]) (fun C K X => ?_)
  obtain ⟨rfl, rfl, K⟩ := K
  exact z_X2_init d hd ⟨rfl, rfl, K⟩ X l0 l1 p0
def m_X2_prepare_L144 (k56 : Nat → Nat → Int → Int → Int → hM) (l0 : Nat) (l1 : Nat) (l2 : Int) (l3 : Int) (l4 : Int) : hM :=
  hlet (w32 (l4 + 1)) fun (w1 : Int) =>
  k56 l0 l1 l2 l3 w1
def m_X2_prepare_L56 : Nat → Nat → Nat → Int → Int → Int → hM
  | 0, _, _, _, _, _ => hfail
  | n + 1, l0, l1, l2, l3, l4 =>
    hgR 2 l0 5 fun v1 =>
  hgI 7 v1 10 fun v2 =>
  hif (l4 ≥ v2) (
hret 0) (
hgR 2 l0 5 fun v3 =>
  hgR 7 v3 13 fun v4 =>
  haI 20 v4 l4 fun v5 =>
  hgI 4 l1 1 fun v6 =>
  hlet ((w32 (v5 - v6))) fun (w7 : Int) =>
  hgR 2 l0 5 fun v8 =>
  hgR 7 v8 11 fun v9 =>
  haI 20 v9 l4 fun v10 =>
  hif (v10 ≠ l2) (
m_X2_prepare_L144 (m_X2_prepare_L56 n) l0 l1 l2 l3 l4) (
hif (w7 < 0) (
m_X2_prepare_L144 (m_X2_prepare_L56 n) l0 l1 l2 l3 l4) (
hif (w7 ≥ l3) (
m_X2_prepare_L144 (m_X2_prepare_L56 n) l0 l1 l2 l3 l4) (
hgR 2 l0 1 fun v11 =>
  hgR 2 l0 5 fun v12 =>
  hgR 7 v12 12 fun v13 =>
  haI 20 v13 l4 fun v14 =>
  haI 20 v11 ((w32 (((w32 (w7 * 8))) + v14))) fun v15 =>
  hgR 2 l0 5 fun v16 =>
  hgR 7 v16 14 fun v17 =>
  haI 20 v17 l4 fun v18 =>
  hsI 20 v11 ((w32 (((w32 (w7 * 8))) + v14))) ((w32 (v15 + v18))) <|
  m_X2_prepare_L144 (m_X2_prepare_L56 n) l0 l1 l2 l3 l4))))
def m_X2_prepare (l0 : Nat) (l1 : Nat) (l2 : Int) (l3 : Int) : hM :=
  hgR 4 l1 0 fun v1 =>
  hpR 2 l0 5 v1 <|
  hpI 2 l0 6 l3 <|
  hgR 4 l1 2 fun v2 =>
  haI 20 v2 l2 fun v3 =>
  hpI 2 l0 7 v3 <|
  hgR 2 l0 5 fun v4 =>
  hgR 7 v4 8 fun v5 =>
  haI 20 v5 l2 fun v6 =>
  hpI 2 l0 8 v6 <|
  hgR 2 l0 0 fun v7 =>
  hcallV 4 l1 (m_X4_tellLeft l1 l2 v7) fun _ =>
  hgR 2 l0 1 fun v8 =>
  hcall (m_J7_fill_53178 v8 0) fun _ =>
  hlet (0 : Int) fun (w9 : Int) =>
  m_X2_prepare_L56 1000000000 l0 l1 l2 l3 w9
set_option maxRecDepth 4000 in
theorem z_X2_prepare_L144 (d : Nat) (hd : 3 ≤ d) {C : hCx} (K : hCtx C.1 C.2.2.1 d 0 0 "prepare" C) (X : hOK C cX2_prepare RX2 6 none) (k56 : Nat → Nat → Int → Int → Int → hM) (hk56 : ∀ (l0 : Nat) (l1 : Nat) (l2 : Int) (l3 : Int) (l4 : Int), inI l2 → inI l3 → inI l4 → hSim C none 0 0 6 56 [(0, vR C.1.1 l0), (1, vR C.1.1 l1), (2, vI l2), (3, vI l3), (4, vI l4)] [] 0 0 (k56 l0 l1 l2 l3 l4)) (l0 : Nat) (l1 : Nat) (l2 : Int) (l3 : Int) (l4 : Int) (h2 : inI l2) (h3 : inI l3) (h4 : inI l4) : hSim C none 0 0 6 144 [(0, vR C.1.1 l0), (1, vR C.1.1 l1), (2, vI l2), (3, vI l3), (4, vI l4)] [] 0 0 (m_X2_prepare_L144 k56 l0 l1 l2 l3 l4) := by
  obtain ⟨⟨hf, hlo⟩, ⟨hc1, hc2⟩, hf1, hl1⟩ := K_room K (by omega)
  have hcs : 0 ≤ C.2.2.2.2.1.cells ∧ 0 ≤ C.2.2.2.2.1.slots := ⟨Nat.zero_le _, Nat.zero_le _⟩
  unfold m_X2_prepare_L144
  refine s_iinc (j := 4) (pc2 := 147) X dX2_prepare_144 rfl (by decide) rfl rfl rfl cat1_I (fun w1 hw1 => ?_)
  refine s_goto (pc2 := 56) X dX2_prepare_147 (by decide) ?_
  refine s_sub (lv2 := [(0, vR C.1.1 l0), (1, vR C.1.1 l1), (2, vI l2), (3, vI l3), (4, vI w1)]) [1, 2, 3, 4, 0] rfl ?_
  exact hk56 l0 l1 l2 l3 w1 h2 h3 hw1
set_option maxRecDepth 4000 in
theorem z_X2_prepare_L56 (d : Nat) (hd : 3 ≤ d) {C : hCx} (K : hCtx C.1 C.2.2.1 d 0 0 "prepare" C) (X : hOK C cX2_prepare RX2 6 none) : ∀ (n : Nat) (l0 : Nat) (l1 : Nat) (l2 : Int) (l3 : Int) (l4 : Int) (h2 : inI l2) (h3 : inI l3) (h4 : inI l4), hSim C none 0 0 6 56 [(0, vR C.1.1 l0), (1, vR C.1.1 l1), (2, vI l2), (3, vI l3), (4, vI l4)] [] 0 0 (m_X2_prepare_L56 n l0 l1 l2 l3 l4) := by
  obtain ⟨⟨hf, hlo⟩, ⟨hc1, hc2⟩, hf1, hl1⟩ := K_room K (by omega)
  have hcs : 0 ≤ C.2.2.2.2.1.cells ∧ 0 ≤ C.2.2.2.2.1.slots := ⟨Nat.zero_le _, Nat.zero_le _⟩
  intro n
  induction n with
  | zero => intros; exact s_none (fun _ => rfl)
  | succ n ih =>
    intro l0 l1 l2 l3 l4 h2 h3 h4
    unfold m_X2_prepare_L56
    refine s_iload (j := 4) (pc2 := 58) X dX2_prepare_56 rfl rfl ?_
    refine s_aload_n (j := 0) (pc2 := 59) X dX2_prepare_58 rfl rfl ?_
    refine s_getR (pc2 := 62) X dX2_prepare_59 rfl fl_RX2_40 rfl (fun v1 => ?_)
    refine s_getI (pc2 := 65) X dX2_prepare_62 rfl fl_RX2_65 rfl (fun v2 hv2 => ?_)
    refine s_icge (tgt := 150) X dX2_prepare_65 (by decide) rfl h4 hv2 ?_ ?_
    · exact s_ret X dX2_prepare_150
    · refine s_aload_n (j := 0) (pc2 := 69) X dX2_prepare_68 rfl rfl ?_
      refine s_getR (pc2 := 72) X dX2_prepare_69 rfl fl_RX2_40 rfl (fun v3 => ?_)
      refine s_getR (pc2 := 75) X dX2_prepare_72 rfl fl_RX2_68 rfl (fun v4 => ?_)
      refine s_iload (j := 4) (pc2 := 77) X dX2_prepare_75 rfl rfl ?_
      refine s_iald (pc2 := 78) X dX2_prepare_77 rfl (fun v5 hv5 => ?_)
      refine s_aload_n (j := 1) (pc2 := 79) X dX2_prepare_78 rfl rfl ?_
      refine s_getI (pc2 := 82) X dX2_prepare_79 rfl fl_RX2_71 rfl (fun v6 hv6 => ?_)
      refine s_isub (pc2 := 83) X dX2_prepare_82 rfl ?_
      refine s_istore (pc2 := 85) X dX2_prepare_83 rfl (by decide) rfl rfl cat1_I (w32_in _) (fun w7 hw7 => ?_)
      refine s_aload_n (j := 1) (pc2 := 86) X dX2_prepare_85 rfl rfl ?_
      refine s_getR (pc2 := 89) X dX2_prepare_86 rfl fl_RX2_40 rfl (fun v8 => ?_)
      refine s_getR (pc2 := 92) X dX2_prepare_89 rfl fl_RX2_74 rfl (fun v9 => ?_)
      refine s_iload (j := 5) (pc2 := 94) X dX2_prepare_92 rfl rfl ?_
      refine s_iald (pc2 := 95) X dX2_prepare_94 rfl (fun v10 hv10 => ?_)
      refine s_iload_n (j := 3) (pc2 := 96) X dX2_prepare_95 rfl rfl ?_
      refine s_icne (tgt := 144) X dX2_prepare_96 (by decide) rfl hv10 h2 ?_ ?_
      · refine s_sub (lv2 := [(0, vR C.1.1 l0), (1, vR C.1.1 l1), (2, vI l2), (3, vI l3), (4, vI l4)]) [1, 2, 3, 4, 5] rfl ?_
        exact z_X2_prepare_L144 d hd K X (m_X2_prepare_L56 n) ih l0 l1 l2 l3 l4 h2 h3 h4
      · refine s_iload (j := 0) (pc2 := 101) X dX2_prepare_99 rfl rfl ?_
        refine s_iflt (tgt := 144) X dX2_prepare_101 (by decide) rfl hw7 ?_ ?_
        · refine s_sub (lv2 := [(0, vR C.1.1 l0), (1, vR C.1.1 l1), (2, vI l2), (3, vI l3), (4, vI l4)]) [1, 2, 3, 4, 5] rfl ?_
          exact z_X2_prepare_L144 d hd K X (m_X2_prepare_L56 n) ih l0 l1 l2 l3 l4 h2 h3 h4
        · refine s_iload (j := 0) (pc2 := 106) X dX2_prepare_104 rfl rfl ?_
          refine s_iload_n (j := 4) (pc2 := 107) X dX2_prepare_106 rfl rfl ?_
          refine s_icge (tgt := 144) X dX2_prepare_107 (by decide) rfl hw7 h3 ?_ ?_
          · refine s_sub (lv2 := [(0, vR C.1.1 l0), (1, vR C.1.1 l1), (2, vI l2), (3, vI l3), (4, vI l4)]) [1, 2, 3, 4, 5] rfl ?_
            exact z_X2_prepare_L144 d hd K X (m_X2_prepare_L56 n) ih l0 l1 l2 l3 l4 h2 h3 h4
          · refine s_aload_n (j := 1) (pc2 := 111) X dX2_prepare_110 rfl rfl ?_
            refine s_getR (pc2 := 114) X dX2_prepare_111 rfl fl_RX2_15 rfl (fun v11 => ?_)
            refine s_iload (j := 0) (pc2 := 116) X dX2_prepare_114 rfl rfl ?_
            refine s_bipush (n := 8) (pc2 := 118) X dX2_prepare_116 rfl rfl ?_
            refine s_imul (pc2 := 119) X dX2_prepare_118 rfl ?_
            refine s_aload_n (j := 1) (pc2 := 120) X dX2_prepare_119 rfl rfl ?_
            refine s_getR (pc2 := 123) X dX2_prepare_120 rfl fl_RX2_40 rfl (fun v12 => ?_)
            refine s_getR (pc2 := 126) X dX2_prepare_123 rfl fl_RX2_77 rfl (fun v13 => ?_)
            refine s_iload (j := 5) (pc2 := 128) X dX2_prepare_126 rfl rfl ?_
            refine s_iald (pc2 := 129) X dX2_prepare_128 rfl (fun v14 hv14 => ?_)
            refine s_iadd (pc2 := 130) X dX2_prepare_129 rfl ?_
            refine s_dup2 (pc2 := 131) X dX2_prepare_130 rfl rfl (vR_cat _ _) ?_
            refine s_iald (pc2 := 132) X dX2_prepare_131 rfl (fun v15 hv15 => ?_)
            refine s_aload_n (j := 1) (pc2 := 133) X dX2_prepare_132 rfl rfl ?_
            refine s_getR (pc2 := 136) X dX2_prepare_133 rfl fl_RX2_40 rfl (fun v16 => ?_)
            refine s_getR (pc2 := 139) X dX2_prepare_136 rfl fl_RX2_80 rfl (fun v17 => ?_)
            refine s_iload (j := 5) (pc2 := 141) X dX2_prepare_139 rfl rfl ?_
            refine s_iald (pc2 := 142) X dX2_prepare_141 rfl (fun v18 hv18 => ?_)
            refine s_iadd (pc2 := 143) X dX2_prepare_142 rfl ?_
            refine s_iast (pc2 := 144) X dX2_prepare_143 rfl (w32_in _) ?_
            refine s_sub (lv2 := [(0, vR C.1.1 l0), (1, vR C.1.1 l1), (2, vI l2), (3, vI l3), (4, vI l4)]) [1, 2, 3, 4, 5] rfl ?_
            exact z_X2_prepare_L144 d hd K X (m_X2_prepare_L56 n) ih l0 l1 l2 l3 l4 h2 h3 h4
set_option maxRecDepth 4000 in
set_option maxHeartbeats 20000000 in
theorem z_X2_prepare (d : Nat) (hd : 3 ≤ d) {C : hCx} (K : hCtx C.1 C.2.2.1 d 0 0 "prepare" C) (X : hOK C cX2_prepare RX2 6 none) (l0 : Nat) (l1 : Nat) (l2 : Int) (l3 : Int) (h2 : inI l2) (h3 : inI l3) : hSim C none 0 0 6 0 [(0, vR C.1.1 l0), (1, vR C.1.1 l1), (2, vI l2), (3, vI l3)] [] 0 0 (m_X2_prepare l0 l1 l2 l3) := by
  obtain ⟨⟨hf, hlo⟩, ⟨hc1, hc2⟩, hf1, hl1⟩ := K_room K (by omega)
  have hcs : 0 ≤ C.2.2.2.2.1.cells ∧ 0 ≤ C.2.2.2.2.1.slots := ⟨Nat.zero_le _, Nat.zero_le _⟩
  unfold m_X2_prepare
  refine s_aload_n (j := 0) (pc2 := 1) X dX2_prepare_0 rfl rfl ?_
  refine s_aload_n (j := 1) (pc2 := 2) X dX2_prepare_1 rfl rfl ?_
  refine s_getR (pc2 := 5) X dX2_prepare_2 rfl fl_RX2_44 rfl (fun v1 => ?_)
  refine s_putR (pc2 := 8) X dX2_prepare_5 rfl fl_RX2_40 (Or.inl rfl) rfl ?_
  refine s_aload_n (j := 0) (pc2 := 9) X dX2_prepare_8 rfl rfl ?_
  refine s_iload_n (j := 3) (pc2 := 10) X dX2_prepare_9 rfl rfl ?_
  refine s_putI (pc2 := 13) X dX2_prepare_10 rfl fl_RX2_27 (Or.inl rfl) rfl h3 ?_
  refine s_aload_n (j := 0) (pc2 := 14) X dX2_prepare_13 rfl rfl ?_
  refine s_aload_n (j := 1) (pc2 := 15) X dX2_prepare_14 rfl rfl ?_
  refine s_getR (pc2 := 18) X dX2_prepare_15 rfl fl_RX2_47 rfl (fun v2 => ?_)
  refine s_iload_n (j := 2) (pc2 := 19) X dX2_prepare_18 rfl rfl ?_
  refine s_iald (pc2 := 20) X dX2_prepare_19 rfl (fun v3 hv3 => ?_)
  refine s_putI (pc2 := 23) X dX2_prepare_20 rfl fl_RX2_31 (Or.inl rfl) rfl hv3 ?_
  refine s_aload_n (j := 0) (pc2 := 24) X dX2_prepare_23 rfl rfl ?_
  refine s_aload_n (j := 0) (pc2 := 25) X dX2_prepare_24 rfl rfl ?_
  refine s_getR (pc2 := 28) X dX2_prepare_25 rfl fl_RX2_40 rfl (fun v4 => ?_)
  refine s_getR (pc2 := 31) X dX2_prepare_28 rfl fl_RX2_50 rfl (fun v5 => ?_)
  refine s_iload_n (j := 2) (pc2 := 32) X dX2_prepare_31 rfl rfl ?_
  refine s_iald (pc2 := 33) X dX2_prepare_32 rfl (fun v6 hv6 => ?_)
  refine s_putI (pc2 := 36) X dX2_prepare_33 rfl fl_RX2_34 (Or.inl rfl) rfl hv6 ?_
  refine s_aload_n (j := 1) (pc2 := 37) X dX2_prepare_36 rfl rfl ?_
  refine s_iload_n (j := 2) (pc2 := 38) X dX2_prepare_37 rfl rfl ?_
  refine s_aload_n (j := 0) (pc2 := 39) X dX2_prepare_38 rfl rfl ?_
  refine s_getR (pc2 := 42) X dX2_prepare_39 rfl fl_RX2_9 rfl (fun v7 => ?_)
  refine s_callVV (d2 := d - 1) (As := [vI l2, vR C.1.1 v7]) (st := []) (pc2 := 45) X dX2_prepare_42 rfl ml_RX2_55 im_X4_tellLeft se_X4_tellLeft kX4 rfl (c_X4_tellLeft (d - 1) (by omega) C.1 C.2.2.1 l1 l2 v7 h2) hy_X4_tellLeft rfl rfl hf hlo (st_room (Nat.le_of_ble_eq_true rfl)) hcs (fun _ => ?_)
  refine s_aload_n (j := 0) (pc2 := 46) X dX2_prepare_45 rfl rfl ?_
  refine s_getR (pc2 := 49) X dX2_prepare_46 rfl fl_RX2_15 rfl (fun v8 => ?_)
  refine s_iconst (n := 0) (pc2 := 50) X dX2_prepare_49 rfl ?_
  refine s_callSV (d2 := d - 1) (As := [vR C.1.1 v8, vI 0]) (st := []) (pc2 := 53) X dX2_prepare_50 rfl ml_RX2_59 sm_J7_fill_53178 (c_J7_fill_53178 (d - 1) (by omega) C.1 C.2.2.1 v8 0 (inI_c 0 rfl)) hy_J7_fill_53178 rfl rfl hf hlo (st_room (Nat.le_of_ble_eq_true rfl)) hcs (fun _ => ?_)
  refine s_iconst (n := 0) (pc2 := 54) X dX2_prepare_53 rfl ?_
  refine s_istore (pc2 := 56) X dX2_prepare_54 rfl (by decide) rfl rfl cat1_I (inI_c 0 rfl) (fun w9 hw9 => ?_)
  refine s_sub (lv2 := [(0, vR C.1.1 l0), (1, vR C.1.1 l1), (2, vI l2), (3, vI l3), (4, vI w9)]) [1, 2, 3, 4, 0] rfl ?_
  exact z_X2_prepare_L56 d hd K X 1000000000 l0 l1 l2 l3 w9 h2 h3 hw9
theorem c_X2_prepare (d : Nat) (hd : 3 ≤ d) (G : hG) (l : Launch) (l0 : Nat) (l1 : Nat) (l2 : Int) (l3 : Int) (h2 : inI l2) (h3 : inI l3) : hMet G l yX2_prepare cX2_prepare 6 none d 0 0 [vR G.1 l0, vR G.1 l1, vI l2, vI l3] (m_X2_prepare l0 l1 l2 l3) := by
  refine hMet.of (lv := [(0, vR G.1 l0), (1, vR G.1 l1), (2, vI l2), (3, vI l3)]) (by decide +kernel) (by simp [lg_sl, vR_cat, vI_cat, vL_cat, vS_cat2, vT_cat2]) (by simp [lv_args, vR_cat, vI_cat, vL_cat, vS_cat2, vT_cat2]) (fun C K X => ?_)
  obtain ⟨rfl, rfl, K⟩ := K
  exact z_X2_prepare d hd ⟨rfl, rfl, K⟩ X l0 l1 l2 l3 h2 h3
def m_X2_giveMore_L2 : Nat → Nat → Int → Int → hM
  | 0, _, _, _ => hfail
  | n + 1, l0, l1, l2 =>
    hgR 2 l0 5 fun v1 =>
  hgR 7 v1 2 fun v2 =>
  hgI 1 v2 3 fun v3 =>
  hif (l2 ≥ v3) (
hret 0) (
hgR 2 l0 0 fun v4 =>
  haI 20 v4 l2 fun v5 =>
  hsI 20 v4 l2 ((w32 (v5 + ((iandZ ((ishrZ l1 l2)) 1))))) <|
  hlet (w32 (l2 + 1)) fun (w6 : Int) =>
  m_X2_giveMore_L2 n l0 l1 w6)
def m_X2_giveMore (l0 : Nat) (l1 : Int) : hM :=
  hlet (0 : Int) fun (w1 : Int) =>
  m_X2_giveMore_L2 1000000000 l0 l1 w1
set_option maxRecDepth 4000 in
theorem z_X2_giveMore_L2 (d : Nat) (hd : 1 ≤ d) {C : hCx} (K : hCtx C.1 C.2.2.1 d 0 0 "giveMore" C) (X : hOK C cX2_giveMore RX2 3 none) : ∀ (n : Nat) (l0 : Nat) (l1 : Int) (l2 : Int) (h1 : inI l1) (h2 : inI l2), hSim C none 0 0 3 2 [(0, vR C.1.1 l0), (1, vI l1), (2, vI l2)] [] 0 0 (m_X2_giveMore_L2 n l0 l1 l2) := by
  obtain ⟨⟨hf, hlo⟩, ⟨hc1, hc2⟩, hf1, hl1⟩ := K_room K (by omega)
  have hcs : 0 ≤ C.2.2.2.2.1.cells ∧ 0 ≤ C.2.2.2.2.1.slots := ⟨Nat.zero_le _, Nat.zero_le _⟩
  intro n
  induction n with
  | zero => intros; exact s_none (fun _ => rfl)
  | succ n ih =>
    intro l0 l1 l2 h1 h2
    unfold m_X2_giveMore_L2
    refine s_iload_n (j := 2) (pc2 := 3) X dX2_giveMore_2 rfl rfl ?_
    refine s_aload_n (j := 0) (pc2 := 4) X dX2_giveMore_3 rfl rfl ?_
    refine s_getR (pc2 := 7) X dX2_giveMore_4 rfl fl_RX2_40 rfl (fun v1 => ?_)
    refine s_getR (pc2 := 10) X dX2_giveMore_7 rfl fl_RX2_83 rfl (fun v2 => ?_)
    refine s_getI (pc2 := 13) X dX2_giveMore_10 rfl fl_RX2_87 rfl (fun v3 hv3 => ?_)
    refine s_icge (tgt := 36) X dX2_giveMore_13 (by decide) rfl h2 hv3 ?_ ?_
    · exact s_ret X dX2_giveMore_36
    · refine s_aload_n (j := 0) (pc2 := 17) X dX2_giveMore_16 rfl rfl ?_
      refine s_getR (pc2 := 20) X dX2_giveMore_17 rfl fl_RX2_9 rfl (fun v4 => ?_)
      refine s_iload_n (j := 2) (pc2 := 21) X dX2_giveMore_20 rfl rfl ?_
      refine s_dup2 (pc2 := 22) X dX2_giveMore_21 rfl rfl (vR_cat _ _) ?_
      refine s_iald (pc2 := 23) X dX2_giveMore_22 rfl (fun v5 hv5 => ?_)
      refine s_iload_n (j := 1) (pc2 := 24) X dX2_giveMore_23 rfl rfl ?_
      refine s_iload_n (j := 2) (pc2 := 25) X dX2_giveMore_24 rfl rfl ?_
      refine s_ishr (pc2 := 26) X dX2_giveMore_25 rfl ?_
      refine s_iconst (n := 1) (pc2 := 27) X dX2_giveMore_26 rfl ?_
      refine s_iand (pc2 := 28) X dX2_giveMore_27 rfl ?_
      refine s_iadd (pc2 := 29) X dX2_giveMore_28 rfl ?_
      refine s_iast (pc2 := 30) X dX2_giveMore_29 rfl (w32_in _) ?_
      refine s_iinc (j := 2) (pc2 := 33) X dX2_giveMore_30 rfl (by decide) rfl rfl rfl cat1_I (fun w6 hw6 => ?_)
      refine s_goto (pc2 := 2) X dX2_giveMore_33 (by decide) ?_
      refine s_sub (lv2 := [(0, vR C.1.1 l0), (1, vI l1), (2, vI w6)]) [1, 2, 0] rfl ?_
      exact ih l0 l1 w6 h1 hw6
set_option maxRecDepth 4000 in
set_option maxHeartbeats 20000000 in
theorem z_X2_giveMore (d : Nat) (hd : 1 ≤ d) {C : hCx} (K : hCtx C.1 C.2.2.1 d 0 0 "giveMore" C) (X : hOK C cX2_giveMore RX2 3 none) (l0 : Nat) (l1 : Int) (h1 : inI l1) : hSim C none 0 0 3 0 [(0, vR C.1.1 l0), (1, vI l1)] [] 0 0 (m_X2_giveMore l0 l1) := by
  obtain ⟨⟨hf, hlo⟩, ⟨hc1, hc2⟩, hf1, hl1⟩ := K_room K (by omega)
  have hcs : 0 ≤ C.2.2.2.2.1.cells ∧ 0 ≤ C.2.2.2.2.1.slots := ⟨Nat.zero_le _, Nat.zero_le _⟩
  unfold m_X2_giveMore
  refine s_iconst (n := 0) (pc2 := 1) X dX2_giveMore_0 rfl ?_
  refine s_istore_n (pc2 := 2) X dX2_giveMore_1 rfl (by decide) rfl rfl cat1_I (inI_c 0 rfl) (fun w1 hw1 => ?_)
  refine s_sub (lv2 := [(0, vR C.1.1 l0), (1, vI l1), (2, vI w1)]) [1, 2, 0] rfl ?_
  exact z_X2_giveMore_L2 d hd K X 1000000000 l0 l1 w1 h1 hw1
theorem c_X2_giveMore (d : Nat) (hd : 1 ≤ d) (G : hG) (l : Launch) (l0 : Nat) (l1 : Int) (h1 : inI l1) : hMet G l yX2_giveMore cX2_giveMore 3 none d 0 0 [vR G.1 l0, vI l1] (m_X2_giveMore l0 l1) := by
  refine hMet.of (lv := [(0, vR G.1 l0), (1, vI l1)]) (by decide +kernel) (by simp [lg_sl, vR_cat, vI_cat, vL_cat, vS_cat2, vT_cat2]) (by simp [lv_args, vR_cat, vI_cat, vL_cat, vS_cat2, vT_cat2]) (fun C K X => ?_)
  obtain ⟨rfl, rfl, K⟩ := K
  exact z_X2_giveMore d hd ⟨rfl, rfl, K⟩ X l0 l1 h1
def m_X2_boundBy_L36 (s0 : Int) : hM :=
  hret s0
def m_X2_boundBy (l0 : Nat) (l1 : Int) (l2 : Int) : hM :=
  hgR 2 l0 2 fun v1 =>
  haI 20 v1 ((w32 (((w32 (((w32 (l1 + 1))) * 8))) + l2))) fun v2 =>
  hlet v2 fun (w3 : Int) =>
  hif (w3 ≠ ((-1))) (
hgR 2 l0 1 fun v4 =>
  haI 20 v4 ((w32 (((w32 (l1 * 8))) + l2))) fun v5 =>
  m_X2_boundBy_L36 ((w32 (w3 + v5)))) (
m_X2_boundBy_L36 ((-1)))
set_option maxRecDepth 4000 in
theorem z_X2_boundBy_L36 (d : Nat) (hd : 1 ≤ d) {C : hCx} (K : hCtx C.1 C.2.2.1 d 0 0 "boundBy" C) (X : hOK C cX2_boundBy RX2 4 (some .int)) (s0 : Int) (g0 : inI s0) : hSim C (some .int) 0 0 4 36 [] [vI s0] 0 0 (m_X2_boundBy_L36 s0) := by
  obtain ⟨⟨hf, hlo⟩, ⟨hc1, hc2⟩, hf1, hl1⟩ := K_room K (by omega)
  have hcs : 0 ≤ C.2.2.2.2.1.cells ∧ 0 ≤ C.2.2.2.2.1.slots := ⟨Nat.zero_le _, Nat.zero_le _⟩
  unfold m_X2_boundBy_L36
  exact s_iret X dX2_boundBy_36 g0
set_option maxRecDepth 4000 in
set_option maxHeartbeats 20000000 in
theorem z_X2_boundBy (d : Nat) (hd : 1 ≤ d) {C : hCx} (K : hCtx C.1 C.2.2.1 d 0 0 "boundBy" C) (X : hOK C cX2_boundBy RX2 4 (some .int)) (l0 : Nat) (l1 : Int) (l2 : Int) (h1 : inI l1) (h2 : inI l2) : hSim C (some .int) 0 0 4 0 [(0, vR C.1.1 l0), (1, vI l1), (2, vI l2)] [] 0 0 (m_X2_boundBy l0 l1 l2) := by
  obtain ⟨⟨hf, hlo⟩, ⟨hc1, hc2⟩, hf1, hl1⟩ := K_room K (by omega)
  have hcs : 0 ≤ C.2.2.2.2.1.cells ∧ 0 ≤ C.2.2.2.2.1.slots := ⟨Nat.zero_le _, Nat.zero_le _⟩
  unfold m_X2_boundBy
  refine s_aload_n (j := 0) (pc2 := 1) X dX2_boundBy_0 rfl rfl ?_
  refine s_getR (pc2 := 4) X dX2_boundBy_1 rfl fl_RX2_18 rfl (fun v1 => ?_)
  refine s_iload_n (j := 1) (pc2 := 5) X dX2_boundBy_4 rfl rfl ?_
  refine s_iconst (n := 1) (pc2 := 6) X dX2_boundBy_5 rfl ?_
  refine s_iadd (pc2 := 7) X dX2_boundBy_6 rfl ?_
  refine s_bipush (n := 8) (pc2 := 9) X dX2_boundBy_7 rfl rfl ?_
  refine s_imul (pc2 := 10) X dX2_boundBy_9 rfl ?_
  refine s_iload_n (j := 2) (pc2 := 11) X dX2_boundBy_10 rfl rfl ?_
  refine s_iadd (pc2 := 12) X dX2_boundBy_11 rfl ?_
  refine s_iald (pc2 := 13) X dX2_boundBy_12 rfl (fun v2 hv2 => ?_)
  refine s_istore_n (pc2 := 14) X dX2_boundBy_13 rfl (by decide) rfl rfl cat1_I hv2 (fun w3 hw3 => ?_)
  refine s_iload_n (j := 0) (pc2 := 15) X dX2_boundBy_14 rfl rfl ?_
  refine s_iconst (n := (-1)) (pc2 := 16) X dX2_boundBy_15 rfl ?_
  refine s_icne (tgt := 23) X dX2_boundBy_16 (by decide) rfl hw3 (inI_c (-1) rfl) ?_ ?_
  · refine s_iload_n (j := 0) (pc2 := 24) X dX2_boundBy_23 rfl rfl ?_
    refine s_aload_n (j := 1) (pc2 := 25) X dX2_boundBy_24 rfl rfl ?_
    refine s_getR (pc2 := 28) X dX2_boundBy_25 rfl fl_RX2_15 rfl (fun v4 => ?_)
    refine s_iload_n (j := 2) (pc2 := 29) X dX2_boundBy_28 rfl rfl ?_
    refine s_bipush (n := 8) (pc2 := 31) X dX2_boundBy_29 rfl rfl ?_
    refine s_imul (pc2 := 32) X dX2_boundBy_31 rfl ?_
    refine s_iload_n (j := 3) (pc2 := 33) X dX2_boundBy_32 rfl rfl ?_
    refine s_iadd (pc2 := 34) X dX2_boundBy_33 rfl ?_
    refine s_iald (pc2 := 35) X dX2_boundBy_34 rfl (fun v5 hv5 => ?_)
    refine s_iadd (pc2 := 36) X dX2_boundBy_35 rfl ?_
    refine s_sub (lv2 := []) [] rfl ?_
    exact z_X2_boundBy_L36 d hd K X ((w32 (w3 + v5))) (w32_in _)
  · refine s_iconst (n := (-1)) (pc2 := 20) X dX2_boundBy_19 rfl ?_
    refine s_goto (pc2 := 36) X dX2_boundBy_20 (by decide) ?_
    refine s_sub (lv2 := []) [] rfl ?_
    exact z_X2_boundBy_L36 d hd K X ((-1)) (inI_c (-1) rfl)
theorem c_X2_boundBy (d : Nat) (hd : 1 ≤ d) (G : hG) (l : Launch) (l0 : Nat) (l1 : Int) (l2 : Int) (h1 : inI l1) (h2 : inI l2) : hMet G l yX2_boundBy cX2_boundBy 4 (some .int) d 0 0 [vR G.1 l0, vI l1, vI l2] (m_X2_boundBy l0 l1 l2) := by
  refine hMet.of (lv := [(0, vR G.1 l0), (1, vI l1), (2, vI l2)]) (by decide +kernel) (by simp [lg_sl, vR_cat, vI_cat, vL_cat, vS_cat2, vT_cat2]) (by simp [lv_args, vR_cat, vI_cat, vL_cat, vS_cat2, vT_cat2]) (fun C K X => ?_)
  obtain ⟨rfl, rfl, K⟩ := K
  exact z_X2_boundBy d hd ⟨rfl, rfl, K⟩ X l0 l1 l2 h1 h2
def m_X2_findBounds_L138 (k53 : Nat → Int → hM) (k59 : Nat → Int → Int → hM) (k80 : Nat → Int → Int → Int → Int → hM) (l0 : Nat) (l1 : Int) (l2 : Int) (l3 : Int) (l4 : Int) : hM :=
  hlet (w32 (l4 + 1)) fun (w1 : Int) =>
  k80 l0 l1 l2 l3 w1
def m_X2_findBounds_L80 (k53 : Nat → Int → hM) (k59 : Nat → Int → Int → hM) : Nat → Nat → Int → Int → Int → Int → hM
  | 0, _, _, _, _, _ => hfail
  | n + 1, l0, l1, l2, l3, l4 =>
    hgR 2 l0 5 fun v1 =>
  hgR 7 v1 2 fun v2 =>
  hgI 1 v2 3 fun v3 =>
  hif (l4 ≥ v3) (
hgR 2 l0 2 fun v4 =>
  hsI 20 v4 ((w32 (((w32 (l1 * 8))) + l2))) l3 <|
  hlet (w32 (l2 + 1)) fun (w5 : Int) =>
  k59 l0 l1 w5) (
hgR 2 l0 5 fun v6 =>
  hgR 7 v6 2 fun v7 =>
  hcallV 1 v7 (m_X1_across v7 l4 l2) fun v8 =>
  hlet v8 fun (w9 : Int) =>
  hif (w9 = ((-1))) (
m_X2_findBounds_L138 k53 k59 (m_X2_findBounds_L80 k53 k59 n) l0 l1 l2 l3 l4) (
hgR 2 l0 0 fun v10 =>
  haI 20 v10 l4 fun v11 =>
  hif (v11 ≤ 0) (
m_X2_findBounds_L138 k53 k59 (m_X2_findBounds_L80 k53 k59 n) l0 l1 l2 l3 l4) (
hcallV 2 l0 (m_X2_boundBy l0 l1 w9) fun v12 =>
  hcall (m_J9_max_7cf53 l3 v12) fun v13 =>
  hlet v13 fun (w14 : Int) =>
  m_X2_findBounds_L138 k53 k59 (m_X2_findBounds_L80 k53 k59 n) l0 l1 l2 w14 l4)))
def m_X2_findBounds_L59 (k53 : Nat → Int → hM) : Nat → Nat → Int → Int → hM
  | 0, _, _, _ => hfail
  | n + 1, l0, l1, l2 =>
    hgR 2 l0 5 fun v1 =>
  hgI 7 v1 0 fun v2 =>
  hif (l2 ≥ v2) (
hlet (w32 (l1 + (-1))) fun (w3 : Int) =>
  k53 l0 w3) (
hcallV 2 l0 (m_X2_boundBy l0 l1 l2) fun v4 =>
  hlet v4 fun (w5 : Int) =>
  hlet (0 : Int) fun (w6 : Int) =>
  m_X2_findBounds_L80 k53 (m_X2_findBounds_L59 k53 n) 1000000000 l0 l1 l2 w5 w6)
def m_X2_findBounds_L53 : Nat → Nat → Int → hM
  | 0, _, _ => hfail
  | n + 1, l0, l1 =>
    hif (l1 < 0) (
hret 0) (
hlet (0 : Int) fun (w1 : Int) =>
  m_X2_findBounds_L59 (m_X2_findBounds_L53 n) 1000000000 l0 l1 w1)
def m_X2_findBounds_L39 (k2 : Nat → Int → hM) (l0 : Nat) (l1 : Int) (s0 : Nat) (s1 : Int) (s2 : Int) : hM :=
  hsI 20 s0 s1 s2 <|
  hlet (w32 (l1 + 1)) fun (w1 : Int) =>
  k2 l0 w1
def m_X2_findBounds_L2 : Nat → Nat → Int → hM
  | 0, _, _ => hfail
  | n + 1, l0, l1 =>
    hgR 2 l0 5 fun v1 =>
  hgI 7 v1 0 fun v2 =>
  hif (l1 ≥ v2) (
hgI 2 l0 6 fun v3 =>
  hlet ((w32 (v3 - 1))) fun (w4 : Int) =>
  m_X2_findBounds_L53 1000000000 l0 w4) (
hgR 2 l0 2 fun v5 =>
  hgI 2 l0 6 fun v6 =>
  hgI 2 l0 8 fun v7 =>
  hif (l1 ≠ v7) (
m_X2_findBounds_L39 (m_X2_findBounds_L2 n) l0 l1 v5 ((w32 (((w32 (v6 * 8))) + l1))) ((-1))) (
m_X2_findBounds_L39 (m_X2_findBounds_L2 n) l0 l1 v5 ((w32 (((w32 (v6 * 8))) + l1))) 0))
def m_X2_findBounds (l0 : Nat) : hM :=
  hlet (0 : Int) fun (w1 : Int) =>
  m_X2_findBounds_L2 1000000000 l0 w1
set_option maxRecDepth 4000 in
theorem z_X2_findBounds_L138 (d : Nat) (hd : 2 ≤ d) {C : hCx} (K : hCtx C.1 C.2.2.1 d 0 0 "findBounds" C) (X : hOK C cX2_findBounds RX2 6 none) (k53 : Nat → Int → hM) (hk53 : ∀ (l0 : Nat) (l1 : Int), inI l1 → hSim C none 0 0 6 53 [(0, vR C.1.1 l0), (1, vI l1)] [] 0 0 (k53 l0 l1)) (k59 : Nat → Int → Int → hM) (hk59 : ∀ (l0 : Nat) (l1 : Int) (l2 : Int), inI l1 → inI l2 → hSim C none 0 0 6 59 [(0, vR C.1.1 l0), (1, vI l1), (2, vI l2)] [] 0 0 (k59 l0 l1 l2)) (k80 : Nat → Int → Int → Int → Int → hM) (hk80 : ∀ (l0 : Nat) (l1 : Int) (l2 : Int) (l3 : Int) (l4 : Int), inI l1 → inI l2 → inI l3 → inI l4 → hSim C none 0 0 6 80 [(0, vR C.1.1 l0), (1, vI l1), (2, vI l2), (3, vI l3), (4, vI l4)] [] 0 0 (k80 l0 l1 l2 l3 l4)) (l0 : Nat) (l1 : Int) (l2 : Int) (l3 : Int) (l4 : Int) (h1 : inI l1) (h2 : inI l2) (h3 : inI l3) (h4 : inI l4) : hSim C none 0 0 6 138 [(0, vR C.1.1 l0), (1, vI l1), (2, vI l2), (3, vI l3), (4, vI l4)] [] 0 0 (m_X2_findBounds_L138 k53 k59 k80 l0 l1 l2 l3 l4) := by
  obtain ⟨⟨hf, hlo⟩, ⟨hc1, hc2⟩, hf1, hl1⟩ := K_room K (by omega)
  have hcs : 0 ≤ C.2.2.2.2.1.cells ∧ 0 ≤ C.2.2.2.2.1.slots := ⟨Nat.zero_le _, Nat.zero_le _⟩
  unfold m_X2_findBounds_L138
  refine s_iinc (j := 4) (pc2 := 141) X dX2_findBounds_138 rfl (by decide) rfl rfl rfl cat1_I (fun w1 hw1 => ?_)
  refine s_goto (pc2 := 80) X dX2_findBounds_141 (by decide) ?_
  refine s_sub (lv2 := [(0, vR C.1.1 l0), (1, vI l1), (2, vI l2), (3, vI l3), (4, vI w1)]) [1, 2, 3, 4, 0] rfl ?_
  exact hk80 l0 l1 l2 l3 w1 h1 h2 h3 hw1
set_option maxRecDepth 4000 in
theorem z_X2_findBounds_L80 (d : Nat) (hd : 2 ≤ d) {C : hCx} (K : hCtx C.1 C.2.2.1 d 0 0 "findBounds" C) (X : hOK C cX2_findBounds RX2 6 none) (k53 : Nat → Int → hM) (hk53 : ∀ (l0 : Nat) (l1 : Int), inI l1 → hSim C none 0 0 6 53 [(0, vR C.1.1 l0), (1, vI l1)] [] 0 0 (k53 l0 l1)) (k59 : Nat → Int → Int → hM) (hk59 : ∀ (l0 : Nat) (l1 : Int) (l2 : Int), inI l1 → inI l2 → hSim C none 0 0 6 59 [(0, vR C.1.1 l0), (1, vI l1), (2, vI l2)] [] 0 0 (k59 l0 l1 l2)) : ∀ (n : Nat) (l0 : Nat) (l1 : Int) (l2 : Int) (l3 : Int) (l4 : Int) (h1 : inI l1) (h2 : inI l2) (h3 : inI l3) (h4 : inI l4), hSim C none 0 0 6 80 [(0, vR C.1.1 l0), (1, vI l1), (2, vI l2), (3, vI l3), (4, vI l4)] [] 0 0 (m_X2_findBounds_L80 k53 k59 n l0 l1 l2 l3 l4) := by
  obtain ⟨⟨hf, hlo⟩, ⟨hc1, hc2⟩, hf1, hl1⟩ := K_room K (by omega)
  have hcs : 0 ≤ C.2.2.2.2.1.cells ∧ 0 ≤ C.2.2.2.2.1.slots := ⟨Nat.zero_le _, Nat.zero_le _⟩
  intro n
  induction n with
  | zero => intros; exact s_none (fun _ => rfl)
  | succ n ih =>
    intro l0 l1 l2 l3 l4 h1 h2 h3 h4
    unfold m_X2_findBounds_L80
    refine s_iload (j := 4) (pc2 := 82) X dX2_findBounds_80 rfl rfl ?_
    refine s_aload_n (j := 0) (pc2 := 83) X dX2_findBounds_82 rfl rfl ?_
    refine s_getR (pc2 := 86) X dX2_findBounds_83 rfl fl_RX2_40 rfl (fun v1 => ?_)
    refine s_getR (pc2 := 89) X dX2_findBounds_86 rfl fl_RX2_83 rfl (fun v2 => ?_)
    refine s_getI (pc2 := 92) X dX2_findBounds_89 rfl fl_RX2_87 rfl (fun v3 hv3 => ?_)
    refine s_icge (tgt := 144) X dX2_findBounds_92 (by decide) rfl h4 hv3 ?_ ?_
    · refine s_aload_n (j := 0) (pc2 := 145) X dX2_findBounds_144 rfl rfl ?_
      refine s_getR (pc2 := 148) X dX2_findBounds_145 rfl fl_RX2_18 rfl (fun v4 => ?_)
      refine s_iload_n (j := 1) (pc2 := 149) X dX2_findBounds_148 rfl rfl ?_
      refine s_bipush (n := 8) (pc2 := 151) X dX2_findBounds_149 rfl rfl ?_
      refine s_imul (pc2 := 152) X dX2_findBounds_151 rfl ?_
      refine s_iload_n (j := 2) (pc2 := 153) X dX2_findBounds_152 rfl rfl ?_
      refine s_iadd (pc2 := 154) X dX2_findBounds_153 rfl ?_
      refine s_iload_n (j := 3) (pc2 := 155) X dX2_findBounds_154 rfl rfl ?_
      refine s_iast (pc2 := 156) X dX2_findBounds_155 rfl h3 ?_
      refine s_iinc (j := 2) (pc2 := 159) X dX2_findBounds_156 rfl (by decide) rfl rfl rfl cat1_I (fun w5 hw5 => ?_)
      refine s_goto (pc2 := 59) X dX2_findBounds_159 (by decide) ?_
      refine s_sub (lv2 := [(0, vR C.1.1 l0), (1, vI l1), (2, vI w5)]) [1, 2, 0] rfl ?_
      exact hk59 l0 l1 w5 h1 hw5
    · refine s_aload_n (j := 0) (pc2 := 96) X dX2_findBounds_95 rfl rfl ?_
      refine s_getR (pc2 := 99) X dX2_findBounds_96 rfl fl_RX2_40 rfl (fun v6 => ?_)
      refine s_getR (pc2 := 102) X dX2_findBounds_99 rfl fl_RX2_83 rfl (fun v7 => ?_)
      refine s_iload (j := 4) (pc2 := 104) X dX2_findBounds_102 rfl rfl ?_
      refine s_iload_n (j := 2) (pc2 := 105) X dX2_findBounds_104 rfl rfl ?_
      refine s_callVI (d2 := d - 1) (As := [vI l4, vI l2]) (st := []) (pc2 := 108) X dX2_findBounds_105 rfl ml_RX2_106 im_X1_across se_X1_across kX1 rfl (c_X1_across (d - 1) (by omega) C.1 C.2.2.1 v7 l4 l2 h4 h2) hy_X1_across rfl rfl hf hlo (st_room (Nat.le_of_ble_eq_true rfl)) hcs (fun v8 hv8 => ?_)
      refine s_istore (pc2 := 110) X dX2_findBounds_108 rfl (by decide) rfl rfl cat1_I hv8 (fun w9 hw9 => ?_)
      refine s_iload (j := 0) (pc2 := 112) X dX2_findBounds_110 rfl rfl ?_
      refine s_iconst (n := (-1)) (pc2 := 113) X dX2_findBounds_112 rfl ?_
      refine s_iceq (tgt := 138) X dX2_findBounds_113 (by decide) rfl hw9 (inI_c (-1) rfl) ?_ ?_
      · refine s_sub (lv2 := [(0, vR C.1.1 l0), (1, vI l1), (2, vI l2), (3, vI l3), (4, vI l4)]) [1, 2, 3, 4, 5] rfl ?_
        exact z_X2_findBounds_L138 d hd K X k53 hk53 k59 hk59 (m_X2_findBounds_L80 k53 k59 n) ih l0 l1 l2 l3 l4 h1 h2 h3 h4
      · refine s_aload_n (j := 1) (pc2 := 117) X dX2_findBounds_116 rfl rfl ?_
        refine s_getR (pc2 := 120) X dX2_findBounds_117 rfl fl_RX2_9 rfl (fun v10 => ?_)
        refine s_iload (j := 5) (pc2 := 122) X dX2_findBounds_120 rfl rfl ?_
        refine s_iald (pc2 := 123) X dX2_findBounds_122 rfl (fun v11 hv11 => ?_)
        refine s_ifle (tgt := 138) X dX2_findBounds_123 (by decide) rfl hv11 ?_ ?_
        · refine s_sub (lv2 := [(0, vR C.1.1 l0), (1, vI l1), (2, vI l2), (3, vI l3), (4, vI l4)]) [1, 2, 3, 4, 5] rfl ?_
          exact z_X2_findBounds_L138 d hd K X k53 hk53 k59 hk59 (m_X2_findBounds_L80 k53 k59 n) ih l0 l1 l2 l3 l4 h1 h2 h3 h4
        · refine s_iload_n (j := 4) (pc2 := 127) X dX2_findBounds_126 rfl rfl ?_
          refine s_aload_n (j := 1) (pc2 := 128) X dX2_findBounds_127 rfl rfl ?_
          refine s_iload_n (j := 2) (pc2 := 129) X dX2_findBounds_128 rfl rfl ?_
          refine s_iload (j := 0) (pc2 := 131) X dX2_findBounds_129 rfl rfl ?_
          refine s_callVI (d2 := d - 1) (As := [vI l1, vI w9]) (st := [vI l3]) (pc2 := 134) X dX2_findBounds_131 rfl ml_RX2_102 im_X2_boundBy se_X2_boundBy kX2 rfl (c_X2_boundBy (d - 1) (by omega) C.1 C.2.2.1 l0 l1 w9 h1 hw9) hy_X2_boundBy rfl rfl hf hlo (st_room (Nat.le_of_ble_eq_true rfl)) hcs (fun v12 hv12 => ?_)
          refine s_callSI (d2 := d - 1) (As := [vI l3, vI v12]) (st := []) (pc2 := 137) X dX2_findBounds_134 rfl ml_RX2_109 sm_J9_max_7cf53 (c_J9_max_7cf53 (d - 1) (by omega) C.1 C.2.2.1 l3 v12 h3 hv12) hy_J9_max_7cf53 rfl rfl hf hlo (st_room (Nat.le_of_ble_eq_true rfl)) hcs (fun v13 hv13 => ?_)
          refine s_istore_n (pc2 := 138) X dX2_findBounds_137 rfl (by decide) rfl rfl cat1_I hv13 (fun w14 hw14 => ?_)
          refine s_sub (lv2 := [(0, vR C.1.1 l0), (1, vI l1), (2, vI l2), (3, vI w14), (4, vI l4)]) [2, 3, 4, 0, 5] rfl ?_
          exact z_X2_findBounds_L138 d hd K X k53 hk53 k59 hk59 (m_X2_findBounds_L80 k53 k59 n) ih l0 l1 l2 w14 l4 h1 h2 hw14 h4
set_option maxRecDepth 4000 in
theorem z_X2_findBounds_L59 (d : Nat) (hd : 2 ≤ d) {C : hCx} (K : hCtx C.1 C.2.2.1 d 0 0 "findBounds" C) (X : hOK C cX2_findBounds RX2 6 none) (k53 : Nat → Int → hM) (hk53 : ∀ (l0 : Nat) (l1 : Int), inI l1 → hSim C none 0 0 6 53 [(0, vR C.1.1 l0), (1, vI l1)] [] 0 0 (k53 l0 l1)) : ∀ (n : Nat) (l0 : Nat) (l1 : Int) (l2 : Int) (h1 : inI l1) (h2 : inI l2), hSim C none 0 0 6 59 [(0, vR C.1.1 l0), (1, vI l1), (2, vI l2)] [] 0 0 (m_X2_findBounds_L59 k53 n l0 l1 l2) := by
  obtain ⟨⟨hf, hlo⟩, ⟨hc1, hc2⟩, hf1, hl1⟩ := K_room K (by omega)
  have hcs : 0 ≤ C.2.2.2.2.1.cells ∧ 0 ≤ C.2.2.2.2.1.slots := ⟨Nat.zero_le _, Nat.zero_le _⟩
  intro n
  induction n with
  | zero => intros; exact s_none (fun _ => rfl)
  | succ n ih =>
    intro l0 l1 l2 h1 h2
    unfold m_X2_findBounds_L59
    refine s_iload_n (j := 2) (pc2 := 60) X dX2_findBounds_59 rfl rfl ?_
    refine s_aload_n (j := 0) (pc2 := 61) X dX2_findBounds_60 rfl rfl ?_
    refine s_getR (pc2 := 64) X dX2_findBounds_61 rfl fl_RX2_40 rfl (fun v1 => ?_)
    refine s_getI (pc2 := 67) X dX2_findBounds_64 rfl fl_RX2_99 rfl (fun v2 hv2 => ?_)
    refine s_icge (tgt := 162) X dX2_findBounds_67 (by decide) rfl h2 hv2 ?_ ?_
    · refine s_iinc (j := 1) (pc2 := 165) X dX2_findBounds_162 rfl (by decide) rfl rfl rfl cat1_R (fun w3 hw3 => ?_)
      refine s_goto (pc2 := 53) X dX2_findBounds_165 (by decide) ?_
      refine s_sub (lv2 := [(0, vR C.1.1 l0), (1, vI w3)]) [1, 0] rfl ?_
      exact hk53 l0 w3 hw3
    · refine s_aload_n (j := 0) (pc2 := 71) X dX2_findBounds_70 rfl rfl ?_
      refine s_iload_n (j := 1) (pc2 := 72) X dX2_findBounds_71 rfl rfl ?_
      refine s_iload_n (j := 2) (pc2 := 73) X dX2_findBounds_72 rfl rfl ?_
      refine s_callVI (d2 := d - 1) (As := [vI l1, vI l2]) (st := []) (pc2 := 76) X dX2_findBounds_73 rfl ml_RX2_102 im_X2_boundBy se_X2_boundBy kX2 rfl (c_X2_boundBy (d - 1) (by omega) C.1 C.2.2.1 l0 l1 l2 h1 h2) hy_X2_boundBy rfl rfl hf hlo (st_room (Nat.le_of_ble_eq_true rfl)) hcs (fun v4 hv4 => ?_)
      refine s_istore_n (pc2 := 77) X dX2_findBounds_76 rfl (by decide) rfl rfl cat1_I hv4 (fun w5 hw5 => ?_)
      refine s_iconst (n := 0) (pc2 := 78) X dX2_findBounds_77 rfl ?_
      refine s_istore (pc2 := 80) X dX2_findBounds_78 rfl (by decide) rfl rfl cat1_I (inI_c 0 rfl) (fun w6 hw6 => ?_)
      refine s_sub (lv2 := [(0, vR C.1.1 l0), (1, vI l1), (2, vI l2), (3, vI w5), (4, vI w6)]) [2, 3, 4, 1, 0] rfl ?_
      exact z_X2_findBounds_L80 d hd K X k53 hk53 (m_X2_findBounds_L59 k53 n) ih 1000000000 l0 l1 l2 w5 w6 h1 h2 hw5 hw6
set_option maxRecDepth 4000 in
theorem z_X2_findBounds_L53 (d : Nat) (hd : 2 ≤ d) {C : hCx} (K : hCtx C.1 C.2.2.1 d 0 0 "findBounds" C) (X : hOK C cX2_findBounds RX2 6 none) : ∀ (n : Nat) (l0 : Nat) (l1 : Int) (h1 : inI l1), hSim C none 0 0 6 53 [(0, vR C.1.1 l0), (1, vI l1)] [] 0 0 (m_X2_findBounds_L53 n l0 l1) := by
  obtain ⟨⟨hf, hlo⟩, ⟨hc1, hc2⟩, hf1, hl1⟩ := K_room K (by omega)
  have hcs : 0 ≤ C.2.2.2.2.1.cells ∧ 0 ≤ C.2.2.2.2.1.slots := ⟨Nat.zero_le _, Nat.zero_le _⟩
  intro n
  induction n with
  | zero => intros; exact s_none (fun _ => rfl)
  | succ n ih =>
    intro l0 l1 h1
    unfold m_X2_findBounds_L53
    refine s_iload_n (j := 1) (pc2 := 54) X dX2_findBounds_53 rfl rfl ?_
    refine s_iflt (tgt := 168) X dX2_findBounds_54 (by decide) rfl h1 ?_ ?_
    · exact s_ret X dX2_findBounds_168
    · refine s_iconst (n := 0) (pc2 := 58) X dX2_findBounds_57 rfl ?_
      refine s_istore_n (pc2 := 59) X dX2_findBounds_58 rfl (by decide) rfl rfl cat1_I (inI_c 0 rfl) (fun w1 hw1 => ?_)
      refine s_sub (lv2 := [(0, vR C.1.1 l0), (1, vI l1), (2, vI w1)]) [1, 2, 0] rfl ?_
      exact z_X2_findBounds_L59 d hd K X (m_X2_findBounds_L53 n) ih 1000000000 l0 l1 w1 h1 hw1
set_option maxRecDepth 4000 in
theorem z_X2_findBounds_L39 (d : Nat) (hd : 2 ≤ d) {C : hCx} (K : hCtx C.1 C.2.2.1 d 0 0 "findBounds" C) (X : hOK C cX2_findBounds RX2 6 none) (k2 : Nat → Int → hM) (hk2 : ∀ (l0 : Nat) (l1 : Int), inI l1 → hSim C none 0 0 6 2 [(0, vR C.1.1 l0), (1, vI l1)] [] 0 0 (k2 l0 l1)) (l0 : Nat) (l1 : Int) (s0 : Nat) (s1 : Int) (s2 : Int) (h1 : inI l1) (g1 : inI s1) (g2 : inI s2) : hSim C none 0 0 6 39 [(0, vR C.1.1 l0), (1, vI l1)] [vI s2, vI s1, vR C.1.1 s0] 0 0 (m_X2_findBounds_L39 k2 l0 l1 s0 s1 s2) := by
  obtain ⟨⟨hf, hlo⟩, ⟨hc1, hc2⟩, hf1, hl1⟩ := K_room K (by omega)
  have hcs : 0 ≤ C.2.2.2.2.1.cells ∧ 0 ≤ C.2.2.2.2.1.slots := ⟨Nat.zero_le _, Nat.zero_le _⟩
  unfold m_X2_findBounds_L39
  refine s_iast (pc2 := 40) X dX2_findBounds_39 rfl g2 ?_
  refine s_iinc (j := 1) (pc2 := 43) X dX2_findBounds_40 rfl (by decide) rfl rfl rfl cat1_R (fun w1 hw1 => ?_)
  refine s_goto (pc2 := 2) X dX2_findBounds_43 (by decide) ?_
  refine s_sub (lv2 := [(0, vR C.1.1 l0), (1, vI w1)]) [1, 0] rfl ?_
  exact hk2 l0 w1 hw1
set_option maxRecDepth 4000 in
theorem z_X2_findBounds_L2 (d : Nat) (hd : 2 ≤ d) {C : hCx} (K : hCtx C.1 C.2.2.1 d 0 0 "findBounds" C) (X : hOK C cX2_findBounds RX2 6 none) : ∀ (n : Nat) (l0 : Nat) (l1 : Int) (h1 : inI l1), hSim C none 0 0 6 2 [(0, vR C.1.1 l0), (1, vI l1)] [] 0 0 (m_X2_findBounds_L2 n l0 l1) := by
  obtain ⟨⟨hf, hlo⟩, ⟨hc1, hc2⟩, hf1, hl1⟩ := K_room K (by omega)
  have hcs : 0 ≤ C.2.2.2.2.1.cells ∧ 0 ≤ C.2.2.2.2.1.slots := ⟨Nat.zero_le _, Nat.zero_le _⟩
  intro n
  induction n with
  | zero => intros; exact s_none (fun _ => rfl)
  | succ n ih =>
    intro l0 l1 h1
    unfold m_X2_findBounds_L2
    refine s_iload_n (j := 1) (pc2 := 3) X dX2_findBounds_2 rfl rfl ?_
    refine s_aload_n (j := 0) (pc2 := 4) X dX2_findBounds_3 rfl rfl ?_
    refine s_getR (pc2 := 7) X dX2_findBounds_4 rfl fl_RX2_40 rfl (fun v1 => ?_)
    refine s_getI (pc2 := 10) X dX2_findBounds_7 rfl fl_RX2_99 rfl (fun v2 hv2 => ?_)
    refine s_icge (tgt := 46) X dX2_findBounds_10 (by decide) rfl h1 hv2 ?_ ?_
    · refine s_aload_n (j := 0) (pc2 := 47) X dX2_findBounds_46 rfl rfl ?_
      refine s_getI (pc2 := 50) X dX2_findBounds_47 rfl fl_RX2_27 rfl (fun v3 hv3 => ?_)
      refine s_iconst (n := 1) (pc2 := 51) X dX2_findBounds_50 rfl ?_
      refine s_isub (pc2 := 52) X dX2_findBounds_51 rfl ?_
      refine s_istore_n (pc2 := 53) X dX2_findBounds_52 rfl (by decide) rfl rfl cat1_R (w32_in _) (fun w4 hw4 => ?_)
      refine s_sub (lv2 := [(0, vR C.1.1 l0), (1, vI w4)]) [1, 0] rfl ?_
      exact z_X2_findBounds_L53 d hd K X 1000000000 l0 w4 hw4
    · refine s_aload_n (j := 0) (pc2 := 14) X dX2_findBounds_13 rfl rfl ?_
      refine s_getR (pc2 := 17) X dX2_findBounds_14 rfl fl_RX2_18 rfl (fun v5 => ?_)
      refine s_aload_n (j := 0) (pc2 := 18) X dX2_findBounds_17 rfl rfl ?_
      refine s_getI (pc2 := 21) X dX2_findBounds_18 rfl fl_RX2_27 rfl (fun v6 hv6 => ?_)
      refine s_bipush (n := 8) (pc2 := 23) X dX2_findBounds_21 rfl rfl ?_
      refine s_imul (pc2 := 24) X dX2_findBounds_23 rfl ?_
      refine s_iload_n (j := 1) (pc2 := 25) X dX2_findBounds_24 rfl rfl ?_
      refine s_iadd (pc2 := 26) X dX2_findBounds_25 rfl ?_
      refine s_iload_n (j := 1) (pc2 := 27) X dX2_findBounds_26 rfl rfl ?_
      refine s_aload_n (j := 0) (pc2 := 28) X dX2_findBounds_27 rfl rfl ?_
      refine s_getI (pc2 := 31) X dX2_findBounds_28 rfl fl_RX2_34 rfl (fun v7 hv7 => ?_)
      refine s_icne (tgt := 38) X dX2_findBounds_31 (by decide) rfl h1 hv7 ?_ ?_
      · refine s_iconst (n := (-1)) (pc2 := 39) X dX2_findBounds_38 rfl ?_
        exact z_X2_findBounds_L39 d hd K X (m_X2_findBounds_L2 n) ih l0 l1 v5 ((w32 (((w32 (v6 * 8))) + l1))) ((-1)) h1 (w32_in _) (inI_c (-1) rfl)
      · refine s_iconst (n := 0) (pc2 := 35) X dX2_findBounds_34 rfl ?_
        refine s_goto (pc2 := 39) X dX2_findBounds_35 (by decide) ?_
        exact z_X2_findBounds_L39 d hd K X (m_X2_findBounds_L2 n) ih l0 l1 v5 ((w32 (((w32 (v6 * 8))) + l1))) 0 h1 (w32_in _) (inI_c 0 rfl)
set_option maxRecDepth 4000 in
set_option maxHeartbeats 20000000 in
theorem z_X2_findBounds (d : Nat) (hd : 2 ≤ d) {C : hCx} (K : hCtx C.1 C.2.2.1 d 0 0 "findBounds" C) (X : hOK C cX2_findBounds RX2 6 none) (l0 : Nat) : hSim C none 0 0 6 0 [(0, vR C.1.1 l0)] [] 0 0 (m_X2_findBounds l0) := by
  obtain ⟨⟨hf, hlo⟩, ⟨hc1, hc2⟩, hf1, hl1⟩ := K_room K (by omega)
  have hcs : 0 ≤ C.2.2.2.2.1.cells ∧ 0 ≤ C.2.2.2.2.1.slots := ⟨Nat.zero_le _, Nat.zero_le _⟩
  unfold m_X2_findBounds
  refine s_iconst (n := 0) (pc2 := 1) X dX2_findBounds_0 rfl ?_
  refine s_istore_n (pc2 := 2) X dX2_findBounds_1 rfl (by decide) rfl rfl cat1_R (inI_c 0 rfl) (fun w1 hw1 => ?_)
  refine s_sub (lv2 := [(0, vR C.1.1 l0), (1, vI w1)]) [1, 0] rfl ?_
  exact z_X2_findBounds_L2 d hd K X 1000000000 l0 w1 hw1
theorem c_X2_findBounds (d : Nat) (hd : 2 ≤ d) (G : hG) (l : Launch) (l0 : Nat) : hMet G l yX2_findBounds cX2_findBounds 6 none d 0 0 [vR G.1 l0] (m_X2_findBounds l0) := by
  refine hMet.of (lv := [(0, vR G.1 l0)]) (by decide +kernel) (by simp [lg_sl, vR_cat, vI_cat, vL_cat, vS_cat2, vT_cat2]) (by simp [lv_args, vR_cat, vI_cat, vL_cat, vS_cat2, vT_cat2]) (fun C K X => ?_)
  obtain ⟨rfl, rfl, K⟩ := K
  exact z_X2_findBounds d hd ⟨rfl, rfl, K⟩ X l0
def m_X2_search_L129 (r_spend : Nat → Int → Int → Int → Int → hM) (k42 : Nat → Int → Int → Int → Int → hM) (l0 : Nat) (l1 : Int) (l2 : Int) (l3 : Int) (l4 : Int) : hM :=
  hlet (w32 (l4 + 1)) fun (w1 : Int) =>
  k42 l0 l1 l2 l3 w1
def m_X2_search_L42 (r_spend : Nat → Int → Int → Int → Int → hM) : Nat → Nat → Int → Int → Int → Int → hM
  | 0, _, _, _, _, _ => hfail
  | n + 1, l0, l1, l2, l3, l4 =>
    hgR 2 l0 5 fun v1 =>
  hgR 7 v1 2 fun v2 =>
  hgI 1 v2 3 fun v3 =>
  hif (l4 ≥ v3) (
hret 0) (
hgR 2 l0 5 fun v4 =>
  hgR 7 v4 2 fun v5 =>
  hcallV 1 v5 (m_X1_across v5 l4 l2) fun v6 =>
  hlet v6 fun (w7 : Int) =>
  hif (w7 = ((-1))) (
m_X2_search_L129 r_spend (m_X2_search_L42 r_spend n) l0 l1 l2 l3 l4) (
hgR 2 l0 5 fun v8 =>
  hgR 7 v8 2 fun v9 =>
  hgR 2 l0 0 fun v10 =>
  hcallV 1 v9 (m_X1_isFirstOpen v9 l4 v10) fun v11 =>
  hif (v11 = 0) (
m_X2_search_L129 r_spend (m_X2_search_L42 r_spend n) l0 l1 l2 l3 l4) (
hgR 2 l0 0 fun v12 =>
  haI 20 v12 l4 fun v13 =>
  hsI 20 v12 l4 ((w32 (v13 - 1))) <|
  hcallV 2 l0 (r_spend l0 l1 w7 l4 l3) fun _ =>
  hgR 2 l0 0 fun v14 =>
  haI 20 v14 l4 fun v15 =>
  hsI 20 v14 l4 ((w32 (v15 + 1))) <|
  m_X2_search_L129 r_spend (m_X2_search_L42 r_spend n) l0 l1 l2 l3 l4)))
def m_X2_search (r_spend : Nat → Int → Int → Int → Int → hM) (l0 : Nat) (l1 : Int) (l2 : Int) (l3 : Int) : hM :=
  hgI 2 l0 6 fun v1 =>
  hif (l1 < v1) (
hcallV 2 l0 (r_spend l0 l1 l2 ((-1)) l3) fun _ =>
  hlet (0 : Int) fun (w2 : Int) =>
  m_X2_search_L42 r_spend 1000000000 l0 l1 l2 l3 w2) (
hpI 2 l0 9 l3 <|
  hgR 2 l0 3 fun v3 =>
  hgR 2 l0 4 fun v4 =>
  hgI 2 l0 6 fun v5 =>
  hcpy v3 0 v4 0 v5 <|
  hret 0)
set_option maxRecDepth 4000 in
theorem z_X2_search_L129 (d : Nat) (hd : 2 ≤ d) {C : hCx} (K : hCtx C.1 C.2.2.1 d 0 0 "search" C) (X : hOK C cX2_search RX2 6 none) (r_spend : Nat → Int → Int → Int → Int → hM) (hr_spend : ∀ (l0 : Nat) (l1 : Int) (l2 : Int) (l3 : Int) (l4 : Int), inI l1 → inI l2 → inI l3 → inI l4 → hMet C.1 C.2.2.1 yX2_spend cX2_spend 6 none (d - 1) 0 0 [vR C.1.1 l0, vI l1, vI l2, vI l3, vI l4] (r_spend l0 l1 l2 l3 l4)) (k42 : Nat → Int → Int → Int → Int → hM) (hk42 : ∀ (l0 : Nat) (l1 : Int) (l2 : Int) (l3 : Int) (l4 : Int), inI l1 → inI l2 → inI l3 → inI l4 → hSim C none 0 0 6 42 [(0, vR C.1.1 l0), (1, vI l1), (2, vI l2), (3, vI l3), (4, vI l4)] [] 0 0 (k42 l0 l1 l2 l3 l4)) (l0 : Nat) (l1 : Int) (l2 : Int) (l3 : Int) (l4 : Int) (h1 : inI l1) (h2 : inI l2) (h3 : inI l3) (h4 : inI l4) : hSim C none 0 0 6 129 [(0, vR C.1.1 l0), (1, vI l1), (2, vI l2), (3, vI l3), (4, vI l4)] [] 0 0 (m_X2_search_L129 r_spend k42 l0 l1 l2 l3 l4) := by
  obtain ⟨⟨hf, hlo⟩, ⟨hc1, hc2⟩, hf1, hl1⟩ := K_room K (by omega)
  have hcs : 0 ≤ C.2.2.2.2.1.cells ∧ 0 ≤ C.2.2.2.2.1.slots := ⟨Nat.zero_le _, Nat.zero_le _⟩
  unfold m_X2_search_L129
  refine s_iinc (j := 4) (pc2 := 132) X dX2_search_129 rfl (by decide) rfl rfl rfl cat1_I (fun w1 hw1 => ?_)
  refine s_goto (pc2 := 42) X dX2_search_132 (by decide) ?_
  refine s_sub (lv2 := [(0, vR C.1.1 l0), (1, vI l1), (2, vI l2), (3, vI l3), (4, vI w1)]) [1, 2, 3, 4, 0] rfl ?_
  exact hk42 l0 l1 l2 l3 w1 h1 h2 h3 hw1
set_option maxRecDepth 4000 in
theorem z_X2_search_L42 (d : Nat) (hd : 2 ≤ d) {C : hCx} (K : hCtx C.1 C.2.2.1 d 0 0 "search" C) (X : hOK C cX2_search RX2 6 none) (r_spend : Nat → Int → Int → Int → Int → hM) (hr_spend : ∀ (l0 : Nat) (l1 : Int) (l2 : Int) (l3 : Int) (l4 : Int), inI l1 → inI l2 → inI l3 → inI l4 → hMet C.1 C.2.2.1 yX2_spend cX2_spend 6 none (d - 1) 0 0 [vR C.1.1 l0, vI l1, vI l2, vI l3, vI l4] (r_spend l0 l1 l2 l3 l4)) : ∀ (n : Nat) (l0 : Nat) (l1 : Int) (l2 : Int) (l3 : Int) (l4 : Int) (h1 : inI l1) (h2 : inI l2) (h3 : inI l3) (h4 : inI l4), hSim C none 0 0 6 42 [(0, vR C.1.1 l0), (1, vI l1), (2, vI l2), (3, vI l3), (4, vI l4)] [] 0 0 (m_X2_search_L42 r_spend n l0 l1 l2 l3 l4) := by
  obtain ⟨⟨hf, hlo⟩, ⟨hc1, hc2⟩, hf1, hl1⟩ := K_room K (by omega)
  have hcs : 0 ≤ C.2.2.2.2.1.cells ∧ 0 ≤ C.2.2.2.2.1.slots := ⟨Nat.zero_le _, Nat.zero_le _⟩
  intro n
  induction n with
  | zero => intros; exact s_none (fun _ => rfl)
  | succ n ih =>
    intro l0 l1 l2 l3 l4 h1 h2 h3 h4
    unfold m_X2_search_L42
    refine s_iload (j := 4) (pc2 := 44) X dX2_search_42 rfl rfl ?_
    refine s_aload_n (j := 0) (pc2 := 45) X dX2_search_44 rfl rfl ?_
    refine s_getR (pc2 := 48) X dX2_search_45 rfl fl_RX2_40 rfl (fun v1 => ?_)
    refine s_getR (pc2 := 51) X dX2_search_48 rfl fl_RX2_83 rfl (fun v2 => ?_)
    refine s_getI (pc2 := 54) X dX2_search_51 rfl fl_RX2_87 rfl (fun v3 hv3 => ?_)
    refine s_icge (tgt := 135) X dX2_search_54 (by decide) rfl h4 hv3 ?_ ?_
    · exact s_ret X dX2_search_135
    · refine s_aload_n (j := 0) (pc2 := 58) X dX2_search_57 rfl rfl ?_
      refine s_getR (pc2 := 61) X dX2_search_58 rfl fl_RX2_40 rfl (fun v4 => ?_)
      refine s_getR (pc2 := 64) X dX2_search_61 rfl fl_RX2_83 rfl (fun v5 => ?_)
      refine s_iload (j := 4) (pc2 := 66) X dX2_search_64 rfl rfl ?_
      refine s_iload_n (j := 2) (pc2 := 67) X dX2_search_66 rfl rfl ?_
      refine s_callVI (d2 := d - 1) (As := [vI l4, vI l2]) (st := []) (pc2 := 70) X dX2_search_67 rfl ml_RX2_106 im_X1_across se_X1_across kX1 rfl (c_X1_across (d - 1) (by omega) C.1 C.2.2.1 v5 l4 l2 h4 h2) hy_X1_across rfl rfl hf hlo (st_room (Nat.le_of_ble_eq_true rfl)) hcs (fun v6 hv6 => ?_)
      refine s_istore (pc2 := 72) X dX2_search_70 rfl (by decide) rfl rfl cat1_I hv6 (fun w7 hw7 => ?_)
      refine s_iload (j := 0) (pc2 := 74) X dX2_search_72 rfl rfl ?_
      refine s_iconst (n := (-1)) (pc2 := 75) X dX2_search_74 rfl ?_
      refine s_iceq (tgt := 129) X dX2_search_75 (by decide) rfl hw7 (inI_c (-1) rfl) ?_ ?_
      · refine s_sub (lv2 := [(0, vR C.1.1 l0), (1, vI l1), (2, vI l2), (3, vI l3), (4, vI l4)]) [1, 2, 3, 4, 5] rfl ?_
        exact z_X2_search_L129 d hd K X r_spend hr_spend (m_X2_search_L42 r_spend n) ih l0 l1 l2 l3 l4 h1 h2 h3 h4
      · refine s_aload_n (j := 1) (pc2 := 79) X dX2_search_78 rfl rfl ?_
        refine s_getR (pc2 := 82) X dX2_search_79 rfl fl_RX2_40 rfl (fun v8 => ?_)
        refine s_getR (pc2 := 85) X dX2_search_82 rfl fl_RX2_83 rfl (fun v9 => ?_)
        refine s_iload (j := 5) (pc2 := 87) X dX2_search_85 rfl rfl ?_
        refine s_aload_n (j := 1) (pc2 := 88) X dX2_search_87 rfl rfl ?_
        refine s_getR (pc2 := 91) X dX2_search_88 rfl fl_RX2_9 rfl (fun v10 => ?_)
        refine s_callVZ (d2 := d - 1) (As := [vI l4, vR C.1.1 v10]) (st := []) (pc2 := 94) X dX2_search_91 rfl ml_RX2_124 im_X1_isFirstOpen se_X1_isFirstOpen kX1 rfl (c_X1_isFirstOpen (d - 1) (by omega) C.1 C.2.2.1 v9 l4 v10 h4) hy_X1_isFirstOpen rfl rfl hf hlo (st_room (Nat.le_of_ble_eq_true rfl)) hcs (fun v11 hv11 => ?_)
        refine s_ifeq (tgt := 129) X dX2_search_94 (by decide) rfl hv11 ?_ ?_
        · refine s_sub (lv2 := [(0, vR C.1.1 l0), (1, vI l1), (2, vI l2), (3, vI l3), (4, vI l4)]) [1, 2, 3, 4, 5] rfl ?_
          exact z_X2_search_L129 d hd K X r_spend hr_spend (m_X2_search_L42 r_spend n) ih l0 l1 l2 l3 l4 h1 h2 h3 h4
        · refine s_aload_n (j := 1) (pc2 := 98) X dX2_search_97 rfl rfl ?_
          refine s_getR (pc2 := 101) X dX2_search_98 rfl fl_RX2_9 rfl (fun v12 => ?_)
          refine s_iload (j := 5) (pc2 := 103) X dX2_search_101 rfl rfl ?_
          refine s_dup2 (pc2 := 104) X dX2_search_103 rfl rfl (vR_cat _ _) ?_
          refine s_iald (pc2 := 105) X dX2_search_104 rfl (fun v13 hv13 => ?_)
          refine s_iconst (n := 1) (pc2 := 106) X dX2_search_105 rfl ?_
          refine s_isub (pc2 := 107) X dX2_search_106 rfl ?_
          refine s_iast (pc2 := 108) X dX2_search_107 rfl (w32_in _) ?_
          refine s_aload_n (j := 1) (pc2 := 109) X dX2_search_108 rfl rfl ?_
          refine s_iload_n (j := 2) (pc2 := 110) X dX2_search_109 rfl rfl ?_
          refine s_iload (j := 0) (pc2 := 112) X dX2_search_110 rfl rfl ?_
          refine s_iload (j := 5) (pc2 := 114) X dX2_search_112 rfl rfl ?_
          refine s_iload_n (j := 4) (pc2 := 115) X dX2_search_114 rfl rfl ?_
          refine s_callVV (d2 := d - 1) (As := [vI l1, vI w7, vI l4, vI l3]) (st := []) (pc2 := 118) X dX2_search_115 rfl ml_RX2_120 im_X2_spend se_X2_spend kX2 rfl (hr_spend l0 l1 w7 l4 l3 h1 hw7 h4 h3) hy_X2_spend rfl rfl hf hlo (st_room (Nat.le_of_ble_eq_true rfl)) hcs (fun _ => ?_)
          refine s_aload_n (j := 1) (pc2 := 119) X dX2_search_118 rfl rfl ?_
          refine s_getR (pc2 := 122) X dX2_search_119 rfl fl_RX2_9 rfl (fun v14 => ?_)
          refine s_iload (j := 5) (pc2 := 124) X dX2_search_122 rfl rfl ?_
          refine s_dup2 (pc2 := 125) X dX2_search_124 rfl rfl (vR_cat _ _) ?_
          refine s_iald (pc2 := 126) X dX2_search_125 rfl (fun v15 hv15 => ?_)
          refine s_iconst (n := 1) (pc2 := 127) X dX2_search_126 rfl ?_
          refine s_iadd (pc2 := 128) X dX2_search_127 rfl ?_
          refine s_iast (pc2 := 129) X dX2_search_128 rfl (w32_in _) ?_
          refine s_sub (lv2 := [(0, vR C.1.1 l0), (1, vI l1), (2, vI l2), (3, vI l3), (4, vI l4)]) [1, 2, 3, 4, 5] rfl ?_
          exact z_X2_search_L129 d hd K X r_spend hr_spend (m_X2_search_L42 r_spend n) ih l0 l1 l2 l3 l4 h1 h2 h3 h4
set_option maxRecDepth 4000 in
set_option maxHeartbeats 20000000 in
theorem z_X2_search (d : Nat) (hd : 2 ≤ d) {C : hCx} (K : hCtx C.1 C.2.2.1 d 0 0 "search" C) (X : hOK C cX2_search RX2 6 none) (r_spend : Nat → Int → Int → Int → Int → hM) (hr_spend : ∀ (l0 : Nat) (l1 : Int) (l2 : Int) (l3 : Int) (l4 : Int), inI l1 → inI l2 → inI l3 → inI l4 → hMet C.1 C.2.2.1 yX2_spend cX2_spend 6 none (d - 1) 0 0 [vR C.1.1 l0, vI l1, vI l2, vI l3, vI l4] (r_spend l0 l1 l2 l3 l4)) (l0 : Nat) (l1 : Int) (l2 : Int) (l3 : Int) (h1 : inI l1) (h2 : inI l2) (h3 : inI l3) : hSim C none 0 0 6 0 [(0, vR C.1.1 l0), (1, vI l1), (2, vI l2), (3, vI l3)] [] 0 0 (m_X2_search r_spend l0 l1 l2 l3) := by
  obtain ⟨⟨hf, hlo⟩, ⟨hc1, hc2⟩, hf1, hl1⟩ := K_room K (by omega)
  have hcs : 0 ≤ C.2.2.2.2.1.cells ∧ 0 ≤ C.2.2.2.2.1.slots := ⟨Nat.zero_le _, Nat.zero_le _⟩
  unfold m_X2_search
  refine s_iload_n (j := 1) (pc2 := 1) X dX2_search_0 rfl rfl ?_
  refine s_aload_n (j := 0) (pc2 := 2) X dX2_search_1 rfl rfl ?_
  refine s_getI (pc2 := 5) X dX2_search_2 rfl fl_RX2_27 rfl (fun v1 hv1 => ?_)
  refine s_iclt (tgt := 31) X dX2_search_5 (by decide) rfl h1 hv1 ?_ ?_
  · refine s_aload_n (j := 0) (pc2 := 32) X dX2_search_31 rfl rfl ?_
    refine s_iload_n (j := 1) (pc2 := 33) X dX2_search_32 rfl rfl ?_
    refine s_iload_n (j := 2) (pc2 := 34) X dX2_search_33 rfl rfl ?_
    refine s_iconst (n := (-1)) (pc2 := 35) X dX2_search_34 rfl ?_
    refine s_iload_n (j := 3) (pc2 := 36) X dX2_search_35 rfl rfl ?_
    refine s_callVV (d2 := d - 1) (As := [vI l1, vI l2, vI ((-1)), vI l3]) (st := []) (pc2 := 39) X dX2_search_36 rfl ml_RX2_120 im_X2_spend se_X2_spend kX2 rfl (hr_spend l0 l1 l2 ((-1)) l3 h1 h2 (inI_c (-1) rfl) h3) hy_X2_spend rfl rfl hf hlo (st_room (Nat.le_of_ble_eq_true rfl)) hcs (fun _ => ?_)
    refine s_iconst (n := 0) (pc2 := 40) X dX2_search_39 rfl ?_
    refine s_istore (pc2 := 42) X dX2_search_40 rfl (by decide) rfl rfl cat1_I (inI_c 0 rfl) (fun w2 hw2 => ?_)
    refine s_sub (lv2 := [(0, vR C.1.1 l0), (1, vI l1), (2, vI l2), (3, vI l3), (4, vI w2)]) [1, 2, 3, 4, 0] rfl ?_
    exact z_X2_search_L42 d hd K X r_spend hr_spend 1000000000 l0 l1 l2 l3 w2 h1 h2 h3 hw2
  · refine s_aload_n (j := 0) (pc2 := 9) X dX2_search_8 rfl rfl ?_
    refine s_iload_n (j := 3) (pc2 := 10) X dX2_search_9 rfl rfl ?_
    refine s_putI (pc2 := 13) X dX2_search_10 rfl fl_RX2_37 (Or.inl rfl) rfl h3 ?_
    refine s_aload_n (j := 0) (pc2 := 14) X dX2_search_13 rfl rfl ?_
    refine s_getR (pc2 := 17) X dX2_search_14 rfl fl_RX2_21 rfl (fun v3 => ?_)
    refine s_iconst (n := 0) (pc2 := 18) X dX2_search_17 rfl ?_
    refine s_aload_n (j := 0) (pc2 := 19) X dX2_search_18 rfl rfl ?_
    refine s_getR (pc2 := 22) X dX2_search_19 rfl fl_RX2_24 rfl (fun v4 => ?_)
    refine s_iconst (n := 0) (pc2 := 23) X dX2_search_22 rfl ?_
    refine s_aload_n (j := 0) (pc2 := 24) X dX2_search_23 rfl rfl ?_
    refine s_getI (pc2 := 27) X dX2_search_24 rfl fl_RX2_27 rfl (fun v5 hv5 => ?_)
    refine s_copy (pc2 := 30) X dX2_search_27 rfl ml_RX2_114 nm_arraycopyName sm_arraycopyName ini_System (inI_c 0 rfl) (inI_c 0 rfl) hv5 hf1 hl1 (st_room (Nat.le_of_ble_eq_true rfl)) ?_
    exact s_ret X dX2_search_30
theorem c_X2_search (d : Nat) (hd : 2 ≤ d) (G : hG) (l : Launch) (r_spend : Nat → Int → Int → Int → Int → hM) (hr_spend : ∀ (l0 : Nat) (l1 : Int) (l2 : Int) (l3 : Int) (l4 : Int), inI l1 → inI l2 → inI l3 → inI l4 → hMet G l yX2_spend cX2_spend 6 none (d - 1) 0 0 [vR G.1 l0, vI l1, vI l2, vI l3, vI l4] (r_spend l0 l1 l2 l3 l4)) (l0 : Nat) (l1 : Int) (l2 : Int) (l3 : Int) (h1 : inI l1) (h2 : inI l2) (h3 : inI l3) : hMet G l yX2_search cX2_search 6 none d 0 0 [vR G.1 l0, vI l1, vI l2, vI l3] (m_X2_search r_spend l0 l1 l2 l3) := by
  refine hMet.of (lv := [(0, vR G.1 l0), (1, vI l1), (2, vI l2), (3, vI l3)]) (by decide +kernel) (by simp [lg_sl, vR_cat, vI_cat, vL_cat, vS_cat2, vT_cat2]) (by simp [lv_args, vR_cat, vI_cat, vL_cat, vS_cat2, vT_cat2]) (fun C K X => ?_)
  obtain ⟨rfl, rfl, K⟩ := K
  exact z_X2_search d hd ⟨rfl, rfl, K⟩ X r_spend hr_spend l0 l1 l2 l3 h1 h2 h3
def m_X2_spend_L55 (r_search : Nat → Int → Int → Int → hM) : hM :=
  hret 0
def m_X2_spend (r_search : Nat → Int → Int → Int → hM) (l0 : Nat) (l1 : Int) (l2 : Int) (l3 : Int) (l4 : Int) : hM :=
  hcallV 2 l0 (m_X2_boundBy l0 l1 l2) fun v1 =>
  hlet v1 fun (w2 : Int) =>
  hif (w2 = ((-1))) (
m_X2_spend_L55 r_search) (
hgI 2 l0 9 fun v3 =>
  hif (((w32 (l4 + w2))) ≤ v3) (
m_X2_spend_L55 r_search) (
hgR 2 l0 3 fun v4 =>
  hsI 20 v4 l1 l3 <|
  hgR 2 l0 1 fun v5 =>
  haI 20 v5 ((w32 (((w32 (l1 * 8))) + l2))) fun v6 =>
  hcallV 2 l0 (r_search l0 ((w32 (l1 + 1))) l2 ((w32 (l4 + v6)))) fun _ =>
  m_X2_spend_L55 r_search))
set_option maxRecDepth 4000 in
theorem z_X2_spend_L55 (d : Nat) (hd : 2 ≤ d) {C : hCx} (K : hCtx C.1 C.2.2.1 d 0 0 "spend" C) (X : hOK C cX2_spend RX2 6 none) (r_search : Nat → Int → Int → Int → hM) (hr_search : ∀ (l0 : Nat) (l1 : Int) (l2 : Int) (l3 : Int), inI l1 → inI l2 → inI l3 → hMet C.1 C.2.2.1 yX2_search cX2_search 6 none (d - 1) 0 0 [vR C.1.1 l0, vI l1, vI l2, vI l3] (r_search l0 l1 l2 l3)) : hSim C none 0 0 6 55 [] [] 0 0 (m_X2_spend_L55 r_search) := by
  obtain ⟨⟨hf, hlo⟩, ⟨hc1, hc2⟩, hf1, hl1⟩ := K_room K (by omega)
  have hcs : 0 ≤ C.2.2.2.2.1.cells ∧ 0 ≤ C.2.2.2.2.1.slots := ⟨Nat.zero_le _, Nat.zero_le _⟩
  unfold m_X2_spend_L55
  exact s_ret X dX2_spend_55
set_option maxRecDepth 4000 in
set_option maxHeartbeats 20000000 in
theorem z_X2_spend (d : Nat) (hd : 2 ≤ d) {C : hCx} (K : hCtx C.1 C.2.2.1 d 0 0 "spend" C) (X : hOK C cX2_spend RX2 6 none) (r_search : Nat → Int → Int → Int → hM) (hr_search : ∀ (l0 : Nat) (l1 : Int) (l2 : Int) (l3 : Int), inI l1 → inI l2 → inI l3 → hMet C.1 C.2.2.1 yX2_search cX2_search 6 none (d - 1) 0 0 [vR C.1.1 l0, vI l1, vI l2, vI l3] (r_search l0 l1 l2 l3)) (l0 : Nat) (l1 : Int) (l2 : Int) (l3 : Int) (l4 : Int) (h1 : inI l1) (h2 : inI l2) (h3 : inI l3) (h4 : inI l4) : hSim C none 0 0 6 0 [(0, vR C.1.1 l0), (1, vI l1), (2, vI l2), (3, vI l3), (4, vI l4)] [] 0 0 (m_X2_spend r_search l0 l1 l2 l3 l4) := by
  obtain ⟨⟨hf, hlo⟩, ⟨hc1, hc2⟩, hf1, hl1⟩ := K_room K (by omega)
  have hcs : 0 ≤ C.2.2.2.2.1.cells ∧ 0 ≤ C.2.2.2.2.1.slots := ⟨Nat.zero_le _, Nat.zero_le _⟩
  unfold m_X2_spend
  refine s_aload_n (j := 0) (pc2 := 1) X dX2_spend_0 rfl rfl ?_
  refine s_iload_n (j := 1) (pc2 := 2) X dX2_spend_1 rfl rfl ?_
  refine s_iload_n (j := 2) (pc2 := 3) X dX2_spend_2 rfl rfl ?_
  refine s_callVI (d2 := d - 1) (As := [vI l1, vI l2]) (st := []) (pc2 := 6) X dX2_spend_3 rfl ml_RX2_102 im_X2_boundBy se_X2_boundBy kX2 rfl (c_X2_boundBy (d - 1) (by omega) C.1 C.2.2.1 l0 l1 l2 h1 h2) hy_X2_boundBy rfl rfl hf hlo (st_room (Nat.le_of_ble_eq_true rfl)) hcs (fun v1 hv1 => ?_)
  refine s_istore (pc2 := 8) X dX2_spend_6 rfl (by decide) rfl rfl cat1_I hv1 (fun w2 hw2 => ?_)
  refine s_iload (j := 0) (pc2 := 10) X dX2_spend_8 rfl rfl ?_
  refine s_iconst (n := (-1)) (pc2 := 11) X dX2_spend_10 rfl ?_
  refine s_iceq (tgt := 55) X dX2_spend_11 (by decide) rfl hw2 (inI_c (-1) rfl) ?_ ?_
  · refine s_sub (lv2 := []) [] rfl ?_
    exact z_X2_spend_L55 d hd K X r_search hr_search
  · refine s_iload (j := 5) (pc2 := 16) X dX2_spend_14 rfl rfl ?_
    refine s_iload (j := 0) (pc2 := 18) X dX2_spend_16 rfl rfl ?_
    refine s_iadd (pc2 := 19) X dX2_spend_18 rfl ?_
    refine s_aload_n (j := 1) (pc2 := 20) X dX2_spend_19 rfl rfl ?_
    refine s_getI (pc2 := 23) X dX2_spend_20 rfl fl_RX2_37 rfl (fun v3 hv3 => ?_)
    refine s_icle (tgt := 55) X dX2_spend_23 (by decide) rfl (w32_in _) hv3 ?_ ?_
    · refine s_sub (lv2 := []) [] rfl ?_
      exact z_X2_spend_L55 d hd K X r_search hr_search
    · refine s_aload_n (j := 1) (pc2 := 27) X dX2_spend_26 rfl rfl ?_
      refine s_getR (pc2 := 30) X dX2_spend_27 rfl fl_RX2_21 rfl (fun v4 => ?_)
      refine s_iload_n (j := 2) (pc2 := 31) X dX2_spend_30 rfl rfl ?_
      refine s_iload_n (j := 4) (pc2 := 32) X dX2_spend_31 rfl rfl ?_
      refine s_iast (pc2 := 33) X dX2_spend_32 rfl h3 ?_
      refine s_aload_n (j := 1) (pc2 := 34) X dX2_spend_33 rfl rfl ?_
      refine s_iload_n (j := 2) (pc2 := 35) X dX2_spend_34 rfl rfl ?_
      refine s_iconst (n := 1) (pc2 := 36) X dX2_spend_35 rfl ?_
      refine s_iadd (pc2 := 37) X dX2_spend_36 rfl ?_
      refine s_iload_n (j := 3) (pc2 := 38) X dX2_spend_37 rfl rfl ?_
      refine s_iload (j := 5) (pc2 := 40) X dX2_spend_38 rfl rfl ?_
      refine s_aload_n (j := 1) (pc2 := 41) X dX2_spend_40 rfl rfl ?_
      refine s_getR (pc2 := 44) X dX2_spend_41 rfl fl_RX2_15 rfl (fun v5 => ?_)
      refine s_iload_n (j := 2) (pc2 := 45) X dX2_spend_44 rfl rfl ?_
      refine s_bipush (n := 8) (pc2 := 47) X dX2_spend_45 rfl rfl ?_
      refine s_imul (pc2 := 48) X dX2_spend_47 rfl ?_
      refine s_iload_n (j := 3) (pc2 := 49) X dX2_spend_48 rfl rfl ?_
      refine s_iadd (pc2 := 50) X dX2_spend_49 rfl ?_
      refine s_iald (pc2 := 51) X dX2_spend_50 rfl (fun v6 hv6 => ?_)
      refine s_iadd (pc2 := 52) X dX2_spend_51 rfl ?_
      refine s_callVV (d2 := d - 1) (As := [vI ((w32 (l1 + 1))), vI l2, vI ((w32 (l4 + v6)))]) (st := []) (pc2 := 55) X dX2_spend_52 rfl ml_RX2_95 im_X2_search se_X2_search kX2 rfl (hr_search l0 ((w32 (l1 + 1))) l2 ((w32 (l4 + v6))) (w32_in _) h2 (w32_in _)) hy_X2_search rfl rfl hf hlo (st_room (Nat.le_of_ble_eq_true rfl)) hcs (fun _ => ?_)
      refine s_sub (lv2 := []) [] rfl ?_
      exact z_X2_spend_L55 d hd K X r_search hr_search
theorem c_X2_spend (d : Nat) (hd : 2 ≤ d) (G : hG) (l : Launch) (r_search : Nat → Int → Int → Int → hM) (hr_search : ∀ (l0 : Nat) (l1 : Int) (l2 : Int) (l3 : Int), inI l1 → inI l2 → inI l3 → hMet G l yX2_search cX2_search 6 none (d - 1) 0 0 [vR G.1 l0, vI l1, vI l2, vI l3] (r_search l0 l1 l2 l3)) (l0 : Nat) (l1 : Int) (l2 : Int) (l3 : Int) (l4 : Int) (h1 : inI l1) (h2 : inI l2) (h3 : inI l3) (h4 : inI l4) : hMet G l yX2_spend cX2_spend 6 none d 0 0 [vR G.1 l0, vI l1, vI l2, vI l3, vI l4] (m_X2_spend r_search l0 l1 l2 l3 l4) := by
  refine hMet.of (lv := [(0, vR G.1 l0), (1, vI l1), (2, vI l2), (3, vI l3), (4, vI l4)]) (by decide +kernel) (by simp [lg_sl, vR_cat, vI_cat, vL_cat, vS_cat2, vT_cat2]) (by simp [lv_args, vR_cat, vI_cat, vL_cat, vS_cat2, vT_cat2]) (fun C K X => ?_)
  obtain ⟨rfl, rfl, K⟩ := K
  exact z_X2_spend d hd ⟨rfl, rfl, K⟩ X r_search hr_search l0 l1 l2 l3 l4 h1 h2 h3 h4
def M_X2_search : Nat → Nat → Int → Int → Int → hM
  | 0 => fun _ _ _ _ => hfail
  | n + 1 => m_X2_search (fun a b c e f => m_X2_spend (M_X2_search n) a b c e f)
theorem C_X2_search : ∀ (n d : Nat), 3 + 2 * n ≤ d → ∀ (G : hG) (l : Launch) (l0 : Nat) (l1 l2 l3 : Int), inI l1 → inI l2 → inI l3 → hMet G l yX2_search cX2_search 6 none d 0 0 [vR G.1 l0, vI l1, vI l2, vI l3] (M_X2_search n l0 l1 l2 l3) := by
  intro n
  induction n with
  | zero => intro d hd G l l0 l1 l2 l3 h1 h2 h3 u r u2 h; cases h
  | succ n ih => intro d hd G l l0 l1 l2 l3 h1 h2 h3; exact c_X2_search d (by omega) G l (fun a b c e f => m_X2_spend (M_X2_search n) a b c e f) (fun a b c e f hb hc he hf => c_X2_spend (d - 1) (by omega) G l (M_X2_search n) (fun a b c e hb hc he => ih (d - 1 - 1) (by omega) G l a b c e hb hc he) a b c e f hb hc he hf) l0 l1 l2 l3 h1 h2 h3
def m_X2_solve_L32 : hM :=
  hret 0
def m_X2_solve (l0 : Nat) : hM :=
  hcallV 2 l0 (m_X2_findBounds l0) fun _ =>
  hpI 2 l0 9 ((-1)) <|
  hgR 2 l0 2 fun v1 =>
  hgI 2 l0 7 fun v2 =>
  haI 20 v1 v2 fun v3 =>
  hif (v3 = ((-1))) (
m_X2_solve_L32) (
hgI 2 l0 7 fun v4 =>
  hcallV 2 l0 (M_X2_search 8 l0 0 v4 0) fun _ =>
  m_X2_solve_L32)
set_option maxRecDepth 4000 in
theorem z_X2_solve_L32 (d : Nat) (hd : 20 ≤ d) {C : hCx} (K : hCtx C.1 C.2.2.1 d 0 0 "solve" C) (X : hOK C cX2_solve RX2 1 none) : hSim C none 0 0 1 32 [] [] 0 0 (m_X2_solve_L32) := by
  obtain ⟨⟨hf, hlo⟩, ⟨hc1, hc2⟩, hf1, hl1⟩ := K_room K (by omega)
  have hcs : 0 ≤ C.2.2.2.2.1.cells ∧ 0 ≤ C.2.2.2.2.1.slots := ⟨Nat.zero_le _, Nat.zero_le _⟩
  unfold m_X2_solve_L32
  exact s_ret X dX2_solve_32
set_option maxRecDepth 4000 in
set_option maxHeartbeats 20000000 in
theorem z_X2_solve (d : Nat) (hd : 20 ≤ d) {C : hCx} (K : hCtx C.1 C.2.2.1 d 0 0 "solve" C) (X : hOK C cX2_solve RX2 1 none) (l0 : Nat) : hSim C none 0 0 1 0 [(0, vR C.1.1 l0)] [] 0 0 (m_X2_solve l0) := by
  obtain ⟨⟨hf, hlo⟩, ⟨hc1, hc2⟩, hf1, hl1⟩ := K_room K (by omega)
  have hcs : 0 ≤ C.2.2.2.2.1.cells ∧ 0 ≤ C.2.2.2.2.1.slots := ⟨Nat.zero_le _, Nat.zero_le _⟩
  unfold m_X2_solve
  refine s_aload_n (j := 0) (pc2 := 1) X dX2_solve_0 rfl rfl ?_
  refine s_callVV (d2 := d - 1) (As := []) (st := []) (pc2 := 4) X dX2_solve_1 rfl ml_RX2_92 im_X2_findBounds se_X2_findBounds kX2 rfl (c_X2_findBounds (d - 1) (by omega) C.1 C.2.2.1 l0) hy_X2_findBounds rfl rfl hf hlo (st_room (Nat.le_of_ble_eq_true rfl)) hcs (fun _ => ?_)
  refine s_aload_n (j := 0) (pc2 := 5) X dX2_solve_4 rfl rfl ?_
  refine s_iconst (n := (-1)) (pc2 := 6) X dX2_solve_5 rfl ?_
  refine s_putI (pc2 := 9) X dX2_solve_6 rfl fl_RX2_37 (Or.inl rfl) rfl (inI_c (-1) rfl) ?_
  refine s_aload_n (j := 0) (pc2 := 10) X dX2_solve_9 rfl rfl ?_
  refine s_getR (pc2 := 13) X dX2_solve_10 rfl fl_RX2_18 rfl (fun v1 => ?_)
  refine s_aload_n (j := 0) (pc2 := 14) X dX2_solve_13 rfl rfl ?_
  refine s_getI (pc2 := 17) X dX2_solve_14 rfl fl_RX2_31 rfl (fun v2 hv2 => ?_)
  refine s_iald (pc2 := 18) X dX2_solve_17 rfl (fun v3 hv3 => ?_)
  refine s_iconst (n := (-1)) (pc2 := 19) X dX2_solve_18 rfl ?_
  refine s_iceq (tgt := 32) X dX2_solve_19 (by decide) rfl hv3 (inI_c (-1) rfl) ?_ ?_
  · refine s_sub (lv2 := []) [] rfl ?_
    exact z_X2_solve_L32 d hd K X
  · refine s_aload_n (j := 0) (pc2 := 23) X dX2_solve_22 rfl rfl ?_
    refine s_iconst (n := 0) (pc2 := 24) X dX2_solve_23 rfl ?_
    refine s_aload_n (j := 0) (pc2 := 25) X dX2_solve_24 rfl rfl ?_
    refine s_getI (pc2 := 28) X dX2_solve_25 rfl fl_RX2_31 rfl (fun v4 hv4 => ?_)
    refine s_iconst (n := 0) (pc2 := 29) X dX2_solve_28 rfl ?_
    refine s_callVV (d2 := d - 1) (As := [vI 0, vI v4, vI 0]) (st := []) (pc2 := 32) X dX2_solve_29 rfl ml_RX2_95 im_X2_search se_X2_search kX2 rfl (C_X2_search 8 (d - 1) (by omega) C.1 C.2.2.1 l0 0 v4 0 (inI_c 0 rfl) hv4 (inI_c 0 rfl)) hy_X2_search rfl rfl hf hlo (st_room (Nat.le_of_ble_eq_true rfl)) hcs (fun _ => ?_)
    refine s_sub (lv2 := []) [] rfl ?_
    exact z_X2_solve_L32 d hd K X
theorem c_X2_solve (d : Nat) (hd : 20 ≤ d) (G : hG) (l : Launch) (l0 : Nat) : hMet G l yX2_solve cX2_solve 1 none d 0 0 [vR G.1 l0] (m_X2_solve l0) := by
  refine hMet.of (lv := [(0, vR G.1 l0)]) (by decide +kernel) (by simp [lg_sl, vR_cat, vI_cat, vL_cat, vS_cat2, vT_cat2]) (by simp [lv_args, vR_cat, vI_cat, vL_cat, vS_cat2, vT_cat2]) (fun C K X => ?_)
  obtain ⟨rfl, rfl, K⟩ := K
  exact z_X2_solve d hd ⟨rfl, rfl, K⟩ X l0
