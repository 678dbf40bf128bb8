def m_X3_init (l0 : Nat) : hM :=
  hnewA 20 400 fun v1 =>
  hpR 3 l0 0 v1 <|
  hnewA 20 400 fun v2 =>
  hpR 3 l0 1 v2 <|
  hnewA 20 12 fun v3 =>
  hpR 3 l0 2 v3 <|
  hnewA 20 12 fun v4 =>
  hpR 3 l0 3 v4 <|
  hnewA 20 12 fun v5 =>
  hpR 3 l0 4 v5 <|
  hnewA 21 60 fun v6 =>
  hpR 3 l0 5 v6 <|
  hpI 3 l0 6 0 <|
  hpI 3 l0 7 0 <|
  hpI 3 l0 8 0 <|
  hret 0
set_option maxRecDepth 4000 in
set_option maxHeartbeats 20000000 in
theorem z_X3_init (d : Nat) (hd : 1 ≤ d) {C : hCx} (K : hCtx C.1 C.2.2.1 d 6 896 "<init>" C) (X : hOK C cX3_init RX3 1 none) (l0 : Nat) (p0 : 0 < l0) : hSim C none 6 896 1 0 [(0, vR C.1.1 l0)] [] 0 0 (m_X3_init l0) := by
  obtain ⟨⟨hf, hlo⟩, ⟨hc1, hc2⟩, hf1, hl1⟩ := K_room K (by omega)
  have hcs : 0 ≤ C.2.2.2.2.1.cells ∧ 0 ≤ C.2.2.2.2.1.slots := ⟨Nat.zero_le _, Nat.zero_le _⟩
  unfold m_X3_init
  refine s_aload_n (j := 0) (pc2 := 1) X dX3_init_0 rfl rfl ?_
  refine s_objI (pc2 := 4) X dX3_init_1 rfl ml_RX3_3 im_objectInit co_objectInit p0 hf1 hl1 (st_room (Nat.le_of_ble_eq_true rfl)) ?_
  refine s_aload_n (j := 0) (pc2 := 5) X dX3_init_4 rfl rfl ?_
  refine s_sipush (n := 400) (pc2 := 8) X dX3_init_5 rfl rfl ?_
  refine s_newa20 (N := 400) (pc2 := 10) X dX3_init_8 rfl rfl (by decide) ac_int (by rw [hc1]; exact Nat.le_of_ble_eq_true rfl) (by rw [hc2]; exact Nat.le_of_ble_eq_true rfl) (fun v1 => ?_)
  refine s_cs 1 400 rfl rfl ?_
  refine s_putR (pc2 := 13) X dX3_init_10 rfl fl_RX3_11 (Or.inr ⟨K.2.2.2, _, rfl, rfl⟩) rfl ?_
  refine s_aload_n (j := 0) (pc2 := 14) X dX3_init_13 rfl rfl ?_
  refine s_sipush (n := 400) (pc2 := 17) X dX3_init_14 rfl rfl ?_
  refine s_newa20 (N := 400) (pc2 := 19) X dX3_init_17 rfl rfl (by decide) ac_int (by rw [hc1]; exact Nat.le_of_ble_eq_true rfl) (by rw [hc2]; exact Nat.le_of_ble_eq_true rfl) (fun v2 => ?_)
  refine s_cs 2 800 rfl rfl ?_
  refine s_putR (pc2 := 22) X dX3_init_19 rfl fl_RX3_17 (Or.inr ⟨K.2.2.2, _, rfl, rfl⟩) rfl ?_
  refine s_aload_n (j := 0) (pc2 := 23) X dX3_init_22 rfl rfl ?_
  refine s_bipush (n := 12) (pc2 := 25) X dX3_init_23 rfl rfl ?_
  refine s_newa20 (N := 12) (pc2 := 27) X dX3_init_25 rfl rfl (by decide) ac_int (by rw [hc1]; exact Nat.le_of_ble_eq_true rfl) (by rw [hc2]; exact Nat.le_of_ble_eq_true rfl) (fun v3 => ?_)
  refine s_cs 3 812 rfl rfl ?_
  refine s_putR (pc2 := 30) X dX3_init_27 rfl fl_RX3_20 (Or.inr ⟨K.2.2.2, _, rfl, rfl⟩) rfl ?_
  refine s_aload_n (j := 0) (pc2 := 31) X dX3_init_30 rfl rfl ?_
  refine s_bipush (n := 12) (pc2 := 33) X dX3_init_31 rfl rfl ?_
  refine s_newa20 (N := 12) (pc2 := 35) X dX3_init_33 rfl rfl (by decide) ac_int (by rw [hc1]; exact Nat.le_of_ble_eq_true rfl) (by rw [hc2]; exact Nat.le_of_ble_eq_true rfl) (fun v4 => ?_)
  refine s_cs 4 824 rfl rfl ?_
  refine s_putR (pc2 := 38) X dX3_init_35 rfl fl_RX3_23 (Or.inr ⟨K.2.2.2, _, rfl, rfl⟩) rfl ?_
  refine s_aload_n (j := 0) (pc2 := 39) X dX3_init_38 rfl rfl ?_
  refine s_bipush (n := 12) (pc2 := 41) X dX3_init_39 rfl rfl ?_
  refine s_newa20 (N := 12) (pc2 := 43) X dX3_init_41 rfl rfl (by decide) ac_int (by rw [hc1]; exact Nat.le_of_ble_eq_true rfl) (by rw [hc2]; exact Nat.le_of_ble_eq_true rfl) (fun v5 => ?_)
  refine s_cs 5 836 rfl rfl ?_
  refine s_putR (pc2 := 46) X dX3_init_43 rfl fl_RX3_26 (Or.inr ⟨K.2.2.2, _, rfl, rfl⟩) rfl ?_
  refine s_aload_n (j := 0) (pc2 := 47) X dX3_init_46 rfl rfl ?_
  refine s_bipush (n := 60) (pc2 := 49) X dX3_init_47 rfl rfl ?_
  refine s_newa21 (N := 60) (pc2 := 51) X dX3_init_49 rfl rfl (by decide) ac_long (by rw [hc1]; exact Nat.le_of_ble_eq_true rfl) (by rw [hc2]; exact Nat.le_of_ble_eq_true rfl) (fun v6 => ?_)
  refine s_cs 6 896 rfl rfl ?_
  refine s_putR (pc2 := 54) X dX3_init_51 rfl fl_RX3_29 (Or.inr ⟨K.2.2.2, _, rfl, rfl⟩) rfl ?_
  refine s_aload_n (j := 0) (pc2 := 55) X dX3_init_54 rfl rfl ?_
  refine s_iconst (n := 0) (pc2 := 56) X dX3_init_55 rfl ?_
  refine s_putI (pc2 := 59) X dX3_init_56 rfl fl_RX3_33 (Or.inl rfl) rfl (inI_c 0 rfl) ?_
  refine s_aload_n (j := 0) (pc2 := 60) X dX3_init_59 rfl rfl ?_
  refine s_iconst (n := 0) (pc2 := 61) X dX3_init_60 rfl ?_
  refine s_putI (pc2 := 64) X dX3_init_61 rfl fl_RX3_37 (Or.inl rfl) rfl (inI_c 0 rfl) ?_
  refine s_aload_n (j := 0) (pc2 := 65) X dX3_init_64 rfl rfl ?_
  refine s_iconst (n := 0) (pc2 := 66) X dX3_init_65 rfl ?_
  refine s_putI (pc2 := 69) X dX3_init_66 rfl fl_RX3_40 (Or.inl rfl) rfl (inI_c 0 rfl) ?_
  exact s_ret X dX3_init_69
theorem c_X3_init (d : Nat) (hd : 1 ≤ d) (G : hG) (l : Launch) (l0 : Nat) (p0 : 0 < l0) : hMet G l yX3_init cX3_init 1 none d 6 896 [vR G.1 l0] (m_X3_init l0) := by
  refine hMet.of (lv := [(0, vR G.1 l0)]) (by decide +kernel) (by simp [lg_sl, vR_cat, vI_cat, vL_cat, vS_cat2, vT_cat2]) (by simp [lv_args, vR_cat, vI_cat, vL_cat, vS_cat2, vT_cat2]) (fun C K X => ?_)
  obtain ⟨rfl, rfl, K⟩ := K
  exact z_X3_init d hd ⟨rfl, rfl, K⟩ X l0 p0
def m_X3_emit_L42 : hM :=
  hret 0
def m_X3_emit (l0 : Nat) (l1 : Int) (l2 : Int) : hM :=
  hgI 3 l0 6 fun v1 =>
  hgR 3 l0 0 fun v2 =>
  hlen 20 v2 fun v3 =>
  hif (v1 ≥ v3) (
m_X3_emit_L42) (
hgR 3 l0 0 fun v4 =>
  hgI 3 l0 6 fun v5 =>
  hsI 20 v4 v5 l1 <|
  hgR 3 l0 1 fun v6 =>
  hgI 3 l0 6 fun v7 =>
  hsI 20 v6 v7 l2 <|
  hgI 3 l0 6 fun v8 =>
  hpI 3 l0 6 ((w32 (v8 + 1))) <|
  m_X3_emit_L42)
set_option maxRecDepth 4000 in
theorem z_X3_emit_L42 (d : Nat) (hd : 1 ≤ d) {C : hCx} (K : hCtx C.1 C.2.2.1 d 0 0 "emit" C) (X : hOK C cX3_emit RX3 3 none) : hSim C none 0 0 3 42 [] [] 0 0 (m_X3_emit_L42) := by
  obtain ⟨⟨hf, hlo⟩, ⟨hc1, hc2⟩, hf1, hl1⟩ := K_room K (by omega)
  have hcs : 0 ≤ C.2.2.2.2.1.cells ∧ 0 ≤ C.2.2.2.2.1.slots := ⟨Nat.zero_le _, Nat.zero_le _⟩
  unfold m_X3_emit_L42
  exact s_ret X dX3_emit_42
set_option maxRecDepth 4000 in
set_option maxHeartbeats 20000000 in
theorem z_X3_emit (d : Nat) (hd : 1 ≤ d) {C : hCx} (K : hCtx C.1 C.2.2.1 d 0 0 "emit" C) (X : hOK C cX3_emit RX3 3 none) (l0 : Nat) (l1 : Int) (l2 : Int) (h1 : inI l1) (h2 : inI l2) : hSim C none 0 0 3 0 [(0, vR C.1.1 l0), (1, vI l1), (2, vI l2)] [] 0 0 (m_X3_emit l0 l1 l2) := by
  obtain ⟨⟨hf, hlo⟩, ⟨hc1, hc2⟩, hf1, hl1⟩ := K_room K (by omega)
  have hcs : 0 ≤ C.2.2.2.2.1.cells ∧ 0 ≤ C.2.2.2.2.1.slots := ⟨Nat.zero_le _, Nat.zero_le _⟩
  unfold m_X3_emit
  refine s_aload_n (j := 0) (pc2 := 1) X dX3_emit_0 rfl rfl ?_
  refine s_getI (pc2 := 4) X dX3_emit_1 rfl fl_RX3_33 rfl (fun v1 hv1 => ?_)
  refine s_aload_n (j := 0) (pc2 := 5) X dX3_emit_4 rfl rfl ?_
  refine s_getR (pc2 := 8) X dX3_emit_5 rfl fl_RX3_11 rfl (fun v2 => ?_)
  refine s_alen20 (pc2 := 9) X dX3_emit_8 rfl (fun v3 hv3 => ?_)
  refine s_icge (tgt := 42) X dX3_emit_9 (by decide) rfl hv1 hv3 ?_ ?_
  · refine s_sub (lv2 := []) [] rfl ?_
    exact z_X3_emit_L42 d hd K X
  · refine s_aload_n (j := 0) (pc2 := 13) X dX3_emit_12 rfl rfl ?_
    refine s_getR (pc2 := 16) X dX3_emit_13 rfl fl_RX3_11 rfl (fun v4 => ?_)
    refine s_aload_n (j := 0) (pc2 := 17) X dX3_emit_16 rfl rfl ?_
    refine s_getI (pc2 := 20) X dX3_emit_17 rfl fl_RX3_33 rfl (fun v5 hv5 => ?_)
    refine s_iload_n (j := 1) (pc2 := 21) X dX3_emit_20 rfl rfl ?_
    refine s_iast (pc2 := 22) X dX3_emit_21 rfl h1 ?_
    refine s_aload_n (j := 0) (pc2 := 23) X dX3_emit_22 rfl rfl ?_
    refine s_getR (pc2 := 26) X dX3_emit_23 rfl fl_RX3_17 rfl (fun v6 => ?_)
    refine s_aload_n (j := 0) (pc2 := 27) X dX3_emit_26 rfl rfl ?_
    refine s_getI (pc2 := 30) X dX3_emit_27 rfl fl_RX3_33 rfl (fun v7 hv7 => ?_)
    refine s_iload_n (j := 2) (pc2 := 31) X dX3_emit_30 rfl rfl ?_
    refine s_iast (pc2 := 32) X dX3_emit_31 rfl h2 ?_
    refine s_aload_n (j := 0) (pc2 := 33) X dX3_emit_32 rfl rfl ?_
    refine s_dup (pc2 := 34) X dX3_emit_33 rfl (vR_cat _ _) ?_
    refine s_getI (pc2 := 37) X dX3_emit_34 rfl fl_RX3_33 rfl (fun v8 hv8 => ?_)
    refine s_iconst (n := 1) (pc2 := 38) X dX3_emit_37 rfl ?_
    refine s_iadd (pc2 := 39) X dX3_emit_38 rfl ?_
    refine s_putI (pc2 := 42) X dX3_emit_39 rfl fl_RX3_33 (Or.inl rfl) rfl (w32_in _) ?_
    refine s_sub (lv2 := []) [] rfl ?_
    exact z_X3_emit_L42 d hd K X
theorem c_X3_emit (d : Nat) (hd : 1 ≤ d) (G : hG) (l : Launch) (l0 : Nat) (l1 : Int) (l2 : Int) (h1 : inI l1) (h2 : inI l2) : hMet G l yX3_emit cX3_emit 3 none d 0 0 [vR G.1 l0, vI l1, vI l2] (m_X3_emit l0 l1 l2) := by
  refine hMet.of (lv := [(0, vR G.1 l0), (1, vI l1), (2, vI l2)]) (by decide +kernel) (by simp [lg_sl, vR_cat, vI_cat, vL_cat, vS_cat2, vT_cat2]) (by simp [lv_args, vR_cat, vI_cat, vL_cat, vS_cat2, vT_cat2]) (fun C K X => ?_)
  obtain ⟨rfl, rfl, K⟩ := K
  exact z_X3_emit d hd ⟨rfl, rfl, K⟩ X l0 l1 l2 h1 h2
def m_X3_countPart_L25 : hM :=
  hret 0
def m_X3_countPart (l0 : Nat) (l1 : Nat) (l2 : Int) : hM :=
  hgI 3 l0 8 fun v1 =>
  hpI 3 l0 8 ((w32 (v1 + 1))) <|
  hgI 3 l0 8 fun v2 =>
  hif (v2 ≤ 60) (
m_X3_countPart_L25) (
hcallV 6 l1 (m_X6_fail l1 l2 3) fun _ =>
  m_X3_countPart_L25)
set_option maxRecDepth 4000 in
theorem z_X3_countPart_L25 (d : Nat) (hd : 2 ≤ d) {C : hCx} (K : hCtx C.1 C.2.2.1 d 0 0 "countPart" C) (X : hOK C cX3_countPart RX3 3 none) : hSim C none 0 0 3 25 [] [] 0 0 (m_X3_countPart_L25) := by
  obtain ⟨⟨hf, hlo⟩, ⟨hc1, hc2⟩, hf1, hl1⟩ := K_room K (by omega)
  have hcs : 0 ≤ C.2.2.2.2.1.cells ∧ 0 ≤ C.2.2.2.2.1.slots := ⟨Nat.zero_le _, Nat.zero_le _⟩
  unfold m_X3_countPart_L25
  exact s_ret X dX3_countPart_25
set_option maxRecDepth 4000 in
set_option maxHeartbeats 20000000 in
theorem z_X3_countPart (d : Nat) (hd : 2 ≤ d) {C : hCx} (K : hCtx C.1 C.2.2.1 d 0 0 "countPart" C) (X : hOK C cX3_countPart RX3 3 none) (l0 : Nat) (l1 : Nat) (l2 : Int) (h2 : inI l2) : hSim C none 0 0 3 0 [(0, vR C.1.1 l0), (1, vR C.1.1 l1), (2, vI l2)] [] 0 0 (m_X3_countPart l0 l1 l2) := by
  obtain ⟨⟨hf, hlo⟩, ⟨hc1, hc2⟩, hf1, hl1⟩ := K_room K (by omega)
  have hcs : 0 ≤ C.2.2.2.2.1.cells ∧ 0 ≤ C.2.2.2.2.1.slots := ⟨Nat.zero_le _, Nat.zero_le _⟩
  unfold m_X3_countPart
  refine s_aload_n (j := 0) (pc2 := 1) X dX3_countPart_0 rfl rfl ?_
  refine s_dup (pc2 := 2) X dX3_countPart_1 rfl (vR_cat _ _) ?_
  refine s_getI (pc2 := 5) X dX3_countPart_2 rfl fl_RX3_40 rfl (fun v1 hv1 => ?_)
  refine s_iconst (n := 1) (pc2 := 6) X dX3_countPart_5 rfl ?_
  refine s_iadd (pc2 := 7) X dX3_countPart_6 rfl ?_
  refine s_putI (pc2 := 10) X dX3_countPart_7 rfl fl_RX3_40 (Or.inl rfl) rfl (w32_in _) ?_
  refine s_aload_n (j := 0) (pc2 := 11) X dX3_countPart_10 rfl rfl ?_
  refine s_getI (pc2 := 14) X dX3_countPart_11 rfl fl_RX3_40 rfl (fun v2 hv2 => ?_)
  refine s_bipush (n := 60) (pc2 := 16) X dX3_countPart_14 rfl rfl ?_
  refine s_icle (tgt := 25) X dX3_countPart_16 (by decide) rfl hv2 (inI_c 60 rfl) ?_ ?_
  · refine s_sub (lv2 := []) [] rfl ?_
    exact z_X3_countPart_L25 d hd K X
  · refine s_aload_n (j := 1) (pc2 := 20) X dX3_countPart_19 rfl rfl ?_
    refine s_iload_n (j := 2) (pc2 := 21) X dX3_countPart_20 rfl rfl ?_
    refine s_iconst (n := 3) (pc2 := 22) X dX3_countPart_21 rfl ?_
    refine s_callVV (d2 := d - 1) (As := [vI l2, vI 3]) (st := []) (pc2 := 25) X dX3_countPart_22 rfl ml_RX3_69 im_X6_fail se_X6_fail kX6 rfl (c_X6_fail (d - 1) (by omega) C.1 C.2.2.1 l1 l2 3 h2 (inI_c 3 rfl)) hy_X6_fail rfl rfl hf hlo (st_room (Nat.le_of_ble_eq_true rfl)) hcs (fun _ => ?_)
    refine s_sub (lv2 := []) [] rfl ?_
    exact z_X3_countPart_L25 d hd K X
theorem c_X3_countPart (d : Nat) (hd : 2 ≤ d) (G : hG) (l : Launch) (l0 : Nat) (l1 : Nat) (l2 : Int) (h2 : inI l2) : hMet G l yX3_countPart cX3_countPart 3 none d 0 0 [vR G.1 l0, vR G.1 l1, vI l2] (m_X3_countPart l0 l1 l2) := by
  refine hMet.of (lv := [(0, vR G.1 l0), (1, vR G.1 l1), (2, vI l2)]) (by decide +kernel) (by simp [lg_sl, vR_cat, vI_cat, vL_cat, vS_cat2, vT_cat2]) (by simp [lv_args, vR_cat, vI_cat, vL_cat, vS_cat2, vT_cat2]) (fun C K X => ?_)
  obtain ⟨rfl, rfl, K⟩ := K
  exact z_X3_countPart d hd ⟨rfl, rfl, K⟩ X l0 l1 l2 h2
def m_X3_readValue_L44 (l0 : Nat) (l1 : Nat) : hM :=
  hgI 6 l1 3 fun v1 =>
  hcallV 3 l0 (m_X3_countPart l0 l1 v1) fun _ =>
  hret 0
def m_X3_readValue (l0 : Nat) (l1 : Nat) : hM :=
  hgI 6 l1 4 fun v1 =>
  hif (v1 = 0) (
hcallV 6 l1 (m_X6_next l1) fun v2 =>
  hcall (m_X6_isDigit v2) fun v3 =>
  hif (v3 = 0) (
hcallV 6 l1 (m_X6_word l1 2) fun v4 =>
  hcallV 3 l0 (m_X3_emit l0 1 v4) fun _ =>
  m_X3_readValue_L44 l0 l1) (
hcallV 6 l1 (m_X6_number l1 0 99999) fun v5 =>
  hcallV 3 l0 (m_X3_emit l0 0 v5) fun _ =>
  m_X3_readValue_L44 l0 l1)) (
hret 0)
set_option maxRecDepth 4000 in
theorem z_X3_readValue_L44 (d : Nat) (hd : 7 ≤ d) {C : hCx} (K : hCtx C.1 C.2.2.1 d 0 0 "readValue" C) (X : hOK C cX3_readValue RX3 2 none) (l0 : Nat) (l1 : Nat) : hSim C none 0 0 2 44 [(0, vR C.1.1 l0), (1, vR C.1.1 l1)] [] 0 0 (m_X3_readValue_L44 l0 l1) := by
  obtain ⟨⟨hf, hlo⟩, ⟨hc1, hc2⟩, hf1, hl1⟩ := K_room K (by omega)
  have hcs : 0 ≤ C.2.2.2.2.1.cells ∧ 0 ≤ C.2.2.2.2.1.slots := ⟨Nat.zero_le _, Nat.zero_le _⟩
  unfold m_X3_readValue_L44
  refine s_aload_n (j := 0) (pc2 := 45) X dX3_readValue_44 rfl rfl ?_
  refine s_aload_n (j := 1) (pc2 := 46) X dX3_readValue_45 rfl rfl ?_
  refine s_aload_n (j := 1) (pc2 := 47) X dX3_readValue_46 rfl rfl ?_
  refine s_getI (pc2 := 50) X dX3_readValue_47 rfl fl_RX3_66 rfl (fun v1 hv1 => ?_)
  refine s_callVV (d2 := d - 1) (As := [vR C.1.1 l1, vI v1]) (st := []) (pc2 := 53) X dX3_readValue_50 rfl ml_RX3_110 im_X3_countPart se_X3_countPart kX3 rfl (c_X3_countPart (d - 1) (by omega) C.1 C.2.2.1 l0 l1 v1 hv1) hy_X3_countPart rfl rfl hf hlo (st_room (Nat.le_of_ble_eq_true rfl)) hcs (fun _ => ?_)
  exact s_ret X dX3_readValue_53
set_option maxRecDepth 4000 in
set_option maxHeartbeats 20000000 in
theorem z_X3_readValue (d : Nat) (hd : 7 ≤ d) {C : hCx} (K : hCtx C.1 C.2.2.1 d 0 0 "readValue" C) (X : hOK C cX3_readValue RX3 2 none) (l0 : Nat) (l1 : Nat) : hSim C none 0 0 2 0 [(0, vR C.1.1 l0), (1, vR C.1.1 l1)] [] 0 0 (m_X3_readValue l0 l1) := by
  obtain ⟨⟨hf, hlo⟩, ⟨hc1, hc2⟩, hf1, hl1⟩ := K_room K (by omega)
  have hcs : 0 ≤ C.2.2.2.2.1.cells ∧ 0 ≤ C.2.2.2.2.1.slots := ⟨Nat.zero_le _, Nat.zero_le _⟩
  unfold m_X3_readValue
  refine s_aload_n (j := 1) (pc2 := 1) X dX3_readValue_0 rfl rfl ?_
  refine s_getI (pc2 := 4) X dX3_readValue_1 rfl fl_RX3_87 rfl (fun v1 hv1 => ?_)
  refine s_ifeq (tgt := 8) X dX3_readValue_4 (by decide) rfl hv1 ?_ ?_
  · refine s_aload_n (j := 1) (pc2 := 9) X dX3_readValue_8 rfl rfl ?_
    refine s_callVI (d2 := d - 1) (As := []) (st := []) (pc2 := 12) X dX3_readValue_9 rfl ml_RX3_90 im_X6_next se_X6_next kX6 rfl (c_X6_next (d - 1) (by omega) C.1 C.2.2.1 l1) hy_X6_next rfl rfl hf hlo (st_room (Nat.le_of_ble_eq_true rfl)) hcs (fun v2 hv2 => ?_)
    refine s_callSZ (d2 := d - 1) (As := [vI v2]) (st := []) (pc2 := 15) X dX3_readValue_12 rfl ml_RX3_123 sm_X6_isDigit (c_X6_isDigit (d - 1) (by omega) C.1 C.2.2.1 v2 hv2) hy_X6_isDigit rfl rfl hf hlo (st_room (Nat.le_of_ble_eq_true rfl)) hcs (fun v3 hv3 => ?_)
    refine s_ifeq (tgt := 33) X dX3_readValue_15 (by decide) rfl hv3 ?_ ?_
    · refine s_aload_n (j := 0) (pc2 := 34) X dX3_readValue_33 rfl rfl ?_
      refine s_iconst (n := 1) (pc2 := 35) X dX3_readValue_34 rfl ?_
      refine s_aload_n (j := 1) (pc2 := 36) X dX3_readValue_35 rfl rfl ?_
      refine s_ldcS (j := 2) (pc2 := 38) X dX3_readValue_36 rfl rfl ?_
      refine s_callVI (d2 := d - 1) (As := [vS C.1 2]) (st := [vI 1, vR C.1.1 l0]) (pc2 := 41) X dX3_readValue_38 rfl ml_RX3_48 im_X6_word se_X6_word kX6 rfl (c_X6_word (d - 1) (by omega) C.1 C.2.2.1 l1 2) hy_X6_word rfl rfl hf hlo (st_room (Nat.le_of_ble_eq_true rfl)) hcs (fun v4 hv4 => ?_)
      refine s_callVV (d2 := d - 1) (As := [vI 1, vI v4]) (st := []) (pc2 := 44) X dX3_readValue_41 rfl ml_RX3_82 im_X3_emit se_X3_emit kX3 rfl (c_X3_emit (d - 1) (by omega) C.1 C.2.2.1 l0 1 v4 (inI_c 1 rfl) hv4) hy_X3_emit rfl rfl hf hlo (st_room (Nat.le_of_ble_eq_true rfl)) hcs (fun _ => ?_)
      exact z_X3_readValue_L44 d hd K X l0 l1
    · refine s_aload_n (j := 0) (pc2 := 19) X dX3_readValue_18 rfl rfl ?_
      refine s_iconst (n := 0) (pc2 := 20) X dX3_readValue_19 rfl ?_
      refine s_aload_n (j := 1) (pc2 := 21) X dX3_readValue_20 rfl rfl ?_
      refine s_iconst (n := 0) (pc2 := 22) X dX3_readValue_21 rfl ?_
      refine s_ldc (z := 99999) (pc2 := 24) X dX3_readValue_22 rfl kc_RX3_127 ?_
      refine s_callVI (d2 := d - 1) (As := [vI 0, vI 99999]) (st := [vI 0, vR C.1.1 l0]) (pc2 := 27) X dX3_readValue_24 rfl ml_RX3_128 im_X6_number se_X6_number kX6 rfl (c_X6_number (d - 1) (by omega) C.1 C.2.2.1 l1 0 99999 (inI_c 0 rfl) (inI_c 99999 rfl)) hy_X6_number rfl rfl hf hlo (st_room (Nat.le_of_ble_eq_true rfl)) hcs (fun v5 hv5 => ?_)
      refine s_callVV (d2 := d - 1) (As := [vI 0, vI v5]) (st := []) (pc2 := 30) X dX3_readValue_27 rfl ml_RX3_82 im_X3_emit se_X3_emit kX3 rfl (c_X3_emit (d - 1) (by omega) C.1 C.2.2.1 l0 0 v5 (inI_c 0 rfl) hv5) hy_X3_emit rfl rfl hf hlo (st_room (Nat.le_of_ble_eq_true rfl)) hcs (fun _ => ?_)
      refine s_goto (pc2 := 44) X dX3_readValue_30 (by decide) ?_
      exact z_X3_readValue_L44 d hd K X l0 l1
  · exact s_ret X dX3_readValue_7
theorem c_X3_readValue (d : Nat) (hd : 7 ≤ d) (G : hG) (l : Launch) (l0 : Nat) (l1 : Nat) : hMet G l yX3_readValue cX3_readValue 2 none d 0 0 [vR G.1 l0, vR G.1 l1] (m_X3_readValue l0 l1) := by
  refine hMet.of (lv := [(0, vR G.1 l0), (1, vR G.1 l1)]) (by decide +kernel) (by simp [lg_sl, vR_cat, vI_cat, vL_cat, vS_cat2, vT_cat2]) (by simp [lv_args, vR_cat, vI_cat, vL_cat, vS_cat2, vT_cat2]) (fun C K X => ?_)
  obtain ⟨rfl, rfl, K⟩ := K
  exact z_X3_readValue d hd ⟨rfl, rfl, K⟩ X l0 l1
def m_X3_readSum_L155 : hM :=
  hret 0
def m_X3_readSum_L144 (l0 : Nat) (l2 : Int) : hM :=
  hif (l2 = ((-1))) (
m_X3_readSum_L155) (
hcallV 3 l0 (m_X3_emit l0 l2 0) fun _ =>
  m_X3_readSum_L155)
def m_X3_readSum_L138 (k12 : Nat → Nat → Int → Int → Int → hM) (l0 : Nat) (l1 : Nat) (l2 : Int) (l3 : Int) (l4 : Int) : hM :=
  hlet (w32 (l4 + 1)) fun (w1 : Int) =>
  k12 l0 l1 l2 l3 w1
def m_X3_readSum_L136 (k12 : Nat → Nat → Int → Int → Int → hM) (l0 : Nat) (l1 : Nat) (l2 : Int) (l4 : Int) : hM :=
  hlet (0 : Int) fun (w1 : Int) =>
  m_X3_readSum_L138 k12 l0 l1 l2 w1 l4
def m_X3_readSum_L125 (k12 : Nat → Nat → Int → Int → Int → hM) (l0 : Nat) (l1 : Nat) (l3 : Int) (l4 : Int) (l5 : Int) : hM :=
  hlet l5 fun (w1 : Int) =>
  hcallV 3 l0 (m_X3_readValue l0 l1) fun _ =>
  m_X3_readSum_L138 k12 l0 l1 w1 l3 l4
def m_X3_readSum_L104 (k12 : Nat → Nat → Int → Int → Int → hM) (l0 : Nat) (l1 : Nat) (l2 : Int) (l3 : Int) (l4 : Int) (l5 : Int) : hM :=
  hgI 6 l1 2 fun v1 =>
  hpI 6 l1 2 ((w32 (v1 + 1))) <|
  hif (l2 = ((-1))) (
m_X3_readSum_L125 k12 l0 l1 l3 l4 l5) (
hcallV 3 l0 (m_X3_emit l0 l2 0) fun _ =>
  m_X3_readSum_L125 k12 l0 l1 l3 l4 l5)
def m_X3_readSum_L83 (k12 : Nat → Nat → Int → Int → Int → hM) (l0 : Nat) (l1 : Nat) (l2 : Int) (l3 : Int) (l4 : Int) (l5 : Int) : hM :=
  hgI 6 l1 4 fun v1 =>
  hif (v1 ≠ 0) (
m_X3_readSum_L136 k12 l0 l1 l2 l4) (
hif (l5 = 43) (
m_X3_readSum_L104 k12 l0 l1 l2 l3 l4 l5) (
hif (l5 ≠ 45) (
m_X3_readSum_L136 k12 l0 l1 l2 l4) (
m_X3_readSum_L104 k12 l0 l1 l2 l3 l4 l5)))
def m_X3_readSum_L58 (k12 : Nat → Nat → Int → Int → Int → hM) (l0 : Nat) (l1 : Nat) (l2 : Int) (l3 : Int) (l4 : Int) (l5 : Int) : hM :=
  hgI 6 l1 2 fun v1 =>
  hpI 6 l1 2 ((w32 (v1 + 1))) <|
  hcallV 3 l0 (m_X3_readValue l0 l1) fun _ =>
  hcallV 3 l0 (m_X3_emit l0 l5 0) fun _ =>
  m_X3_readSum_L138 k12 l0 l1 l2 l3 l4
def m_X3_readSum_L12 : Nat → Nat → Nat → Int → Int → Int → hM
  | 0, _, _, _, _, _ => hfail
  | n + 1, l0, l1, l2, l3, l4 =>
    hif (l3 = 0) (
m_X3_readSum_L144 l0 l2) (
hif (l4 ≥ 400) (
m_X3_readSum_L144 l0 l2) (
hcallV 6 l1 (m_X6_next l1) fun v1 =>
  hlet v1 fun (w2 : Int) =>
  hgI 6 l1 4 fun v3 =>
  hif (v3 ≠ 0) (
m_X3_readSum_L83 (m_X3_readSum_L12 n) l0 l1 l2 l3 l4 w2) (
hif (w2 = 42) (
m_X3_readSum_L58 (m_X3_readSum_L12 n) l0 l1 l2 l3 l4 w2) (
hif (w2 = 47) (
m_X3_readSum_L58 (m_X3_readSum_L12 n) l0 l1 l2 l3 l4 w2) (
hif (w2 ≠ 37) (
m_X3_readSum_L83 (m_X3_readSum_L12 n) l0 l1 l2 l3 l4 w2) (
m_X3_readSum_L58 (m_X3_readSum_L12 n) l0 l1 l2 l3 l4 w2))))))
def m_X3_readSum (l0 : Nat) (l1 : Nat) : hM :=
  hcallV 3 l0 (m_X3_readValue l0 l1) fun _ =>
  hlet ((-1) : Int) fun (w1 : Int) =>
  hlet (1 : Int) fun (w2 : Int) =>
  hlet (0 : Int) fun (w3 : Int) =>
  m_X3_readSum_L12 1000000000 l0 l1 w1 w2 w3
set_option maxRecDepth 4000 in
theorem z_X3_readSum_L155 (d : Nat) (hd : 8 ≤ d) {C : hCx} (K : hCtx C.1 C.2.2.1 d 0 0 "readSum" C) (X : hOK C cX3_readSum RX3 6 none) : hSim C none 0 0 6 155 [] [] 0 0 (m_X3_readSum_L155) := by
  obtain ⟨⟨hf, hlo⟩, ⟨hc1, hc2⟩, hf1, hl1⟩ := K_room K (by omega)
  have hcs : 0 ≤ C.2.2.2.2.1.cells ∧ 0 ≤ C.2.2.2.2.1.slots := ⟨Nat.zero_le _, Nat.zero_le _⟩
  unfold m_X3_readSum_L155
  exact s_ret X dX3_readSum_155
set_option maxRecDepth 4000 in
theorem z_X3_readSum_L144 (d : Nat) (hd : 8 ≤ d) {C : hCx} (K : hCtx C.1 C.2.2.1 d 0 0 "readSum" C) (X : hOK C cX3_readSum RX3 6 none) (l0 : Nat) (l2 : Int) (h2 : inI l2) : hSim C none 0 0 6 144 [(0, vR C.1.1 l0), (2, vI l2)] [] 0 0 (m_X3_readSum_L144 l0 l2) := by
  obtain ⟨⟨hf, hlo⟩, ⟨hc1, hc2⟩, hf1, hl1⟩ := K_room K (by omega)
  have hcs : 0 ≤ C.2.2.2.2.1.cells ∧ 0 ≤ C.2.2.2.2.1.slots := ⟨Nat.zero_le _, Nat.zero_le _⟩
  unfold m_X3_readSum_L144
  refine s_iload_n (j := 1) (pc2 := 145) X dX3_readSum_144 rfl rfl ?_
  refine s_iconst (n := (-1)) (pc2 := 146) X dX3_readSum_145 rfl ?_
  refine s_iceq (tgt := 155) X dX3_readSum_146 (by decide) rfl h2 (inI_c (-1) rfl) ?_ ?_
  · refine s_sub (lv2 := []) [] rfl ?_
    exact z_X3_readSum_L155 d hd K X
  · refine s_aload_n (j := 0) (pc2 := 150) X dX3_readSum_149 rfl rfl ?_
    refine s_iload_n (j := 1) (pc2 := 151) X dX3_readSum_150 rfl rfl ?_
    refine s_iconst (n := 0) (pc2 := 152) X dX3_readSum_151 rfl ?_
    refine s_callVV (d2 := d - 1) (As := [vI l2, vI 0]) (st := []) (pc2 := 155) X dX3_readSum_152 rfl ml_RX3_82 im_X3_emit se_X3_emit kX3 rfl (c_X3_emit (d - 1) (by omega) C.1 C.2.2.1 l0 l2 0 h2 (inI_c 0 rfl)) hy_X3_emit rfl rfl hf hlo (st_room (Nat.le_of_ble_eq_true rfl)) hcs (fun _ => ?_)
    refine s_sub (lv2 := []) [] rfl ?_
    exact z_X3_readSum_L155 d hd K X
set_option maxRecDepth 4000 in
theorem z_X3_readSum_L138 (d : Nat) (hd : 8 ≤ d) {C : hCx} (K : hCtx C.1 C.2.2.1 d 0 0 "readSum" C) (X : hOK C cX3_readSum RX3 6 none) (k12 : Nat → Nat → Int → Int → Int → hM) (hk12 : ∀ (l0 : Nat) (l1 : Nat) (l2 : Int) (l3 : Int) (l4 : Int), inI l2 → inI l3 → inI l4 → hSim C none 0 0 6 12 [(0, vR C.1.1 l0), (1, vR C.1.1 l1), (2, vI l2), (3, vI l3), (4, vI l4)] [] 0 0 (k12 l0 l1 l2 l3 l4)) (l0 : Nat) (l1 : Nat) (l2 : Int) (l3 : Int) (l4 : Int) (h2 : inI l2) (h3 : inI l3) (h4 : inI l4) : hSim C none 0 0 6 138 [(0, vR C.1.1 l0), (1, vR C.1.1 l1), (2, vI l2), (3, vI l3), (4, vI l4)] [] 0 0 (m_X3_readSum_L138 k12 l0 l1 l2 l3 l4) := by
  obtain ⟨⟨hf, hlo⟩, ⟨hc1, hc2⟩, hf1, hl1⟩ := K_room K (by omega)
  have hcs : 0 ≤ C.2.2.2.2.1.cells ∧ 0 ≤ C.2.2.2.2.1.slots := ⟨Nat.zero_le _, Nat.zero_le _⟩
  unfold m_X3_readSum_L138
  refine s_iinc (j := 4) (pc2 := 141) X dX3_readSum_138 rfl (by decide) rfl rfl rfl cat1_I (fun w1 hw1 => ?_)
  refine s_goto (pc2 := 12) X dX3_readSum_141 (by decide) ?_
  refine s_sub (lv2 := [(0, vR C.1.1 l0), (1, vR C.1.1 l1), (2, vI l2), (3, vI l3), (4, vI w1)]) [1, 2, 3, 4, 0] rfl ?_
  exact hk12 l0 l1 l2 l3 w1 h2 h3 hw1
set_option maxRecDepth 4000 in
theorem z_X3_readSum_L136 (d : Nat) (hd : 8 ≤ d) {C : hCx} (K : hCtx C.1 C.2.2.1 d 0 0 "readSum" C) (X : hOK C cX3_readSum RX3 6 none) (k12 : Nat → Nat → Int → Int → Int → hM) (hk12 : ∀ (l0 : Nat) (l1 : Nat) (l2 : Int) (l3 : Int) (l4 : Int), inI l2 → inI l3 → inI l4 → hSim C none 0 0 6 12 [(0, vR C.1.1 l0), (1, vR C.1.1 l1), (2, vI l2), (3, vI l3), (4, vI l4)] [] 0 0 (k12 l0 l1 l2 l3 l4)) (l0 : Nat) (l1 : Nat) (l2 : Int) (l4 : Int) (h2 : inI l2) (h4 : inI l4) : hSim C none 0 0 6 136 [(0, vR C.1.1 l0), (1, vR C.1.1 l1), (2, vI l2), (4, vI l4)] [] 0 0 (m_X3_readSum_L136 k12 l0 l1 l2 l4) := by
  obtain ⟨⟨hf, hlo⟩, ⟨hc1, hc2⟩, hf1, hl1⟩ := K_room K (by omega)
  have hcs : 0 ≤ C.2.2.2.2.1.cells ∧ 0 ≤ C.2.2.2.2.1.slots := ⟨Nat.zero_le _, Nat.zero_le _⟩
  unfold m_X3_readSum_L136
  refine s_iconst (n := 0) (pc2 := 137) X dX3_readSum_136 rfl ?_
  refine s_istore_n (pc2 := 138) X dX3_readSum_137 rfl (by decide) rfl rfl cat1_I (inI_c 0 rfl) (fun w1 hw1 => ?_)
  refine s_sub (lv2 := [(0, vR C.1.1 l0), (1, vR C.1.1 l1), (2, vI l2), (3, vI w1), (4, vI l4)]) [1, 2, 3, 0, 4] rfl ?_
  exact z_X3_readSum_L138 d hd K X k12 hk12 l0 l1 l2 w1 l4 h2 hw1 h4
set_option maxRecDepth 4000 in
theorem z_X3_readSum_L125 (d : Nat) (hd : 8 ≤ d) {C : hCx} (K : hCtx C.1 C.2.2.1 d 0 0 "readSum" C) (X : hOK C cX3_readSum RX3 6 none) (k12 : Nat → Nat → Int → Int → Int → hM) (hk12 : ∀ (l0 : Nat) (l1 : Nat) (l2 : Int) (l3 : Int) (l4 : Int), inI l2 → inI l3 → inI l4 → hSim C none 0 0 6 12 [(0, vR C.1.1 l0), (1, vR C.1.1 l1), (2, vI l2), (3, vI l3), (4, vI l4)] [] 0 0 (k12 l0 l1 l2 l3 l4)) (l0 : Nat) (l1 : Nat) (l3 : Int) (l4 : Int) (l5 : Int) (h3 : inI l3) (h4 : inI l4) (h5 : inI l5) : hSim C none 0 0 6 125 [(0, vR C.1.1 l0), (1, vR C.1.1 l1), (3, vI l3), (4, vI l4), (5, vI l5)] [] 0 0 (m_X3_readSum_L125 k12 l0 l1 l3 l4 l5) := by
  obtain ⟨⟨hf, hlo⟩, ⟨hc1, hc2⟩, hf1, hl1⟩ := K_room K (by omega)
  have hcs : 0 ≤ C.2.2.2.2.1.cells ∧ 0 ≤ C.2.2.2.2.1.slots := ⟨Nat.zero_le _, Nat.zero_le _⟩
  unfold m_X3_readSum_L125
  refine s_iload (j := 4) (pc2 := 127) X dX3_readSum_125 rfl rfl ?_
  refine s_istore_n (pc2 := 128) X dX3_readSum_127 rfl (by decide) rfl rfl cat1_R h5 (fun w1 hw1 => ?_)
  refine s_aload_n (j := 1) (pc2 := 129) X dX3_readSum_128 rfl rfl ?_
  refine s_aload_n (j := 2) (pc2 := 130) X dX3_readSum_129 rfl rfl ?_
  refine s_callVV (d2 := d - 1) (As := [vR C.1.1 l1]) (st := []) (pc2 := 133) X dX3_readSum_130 rfl ml_RX3_120 im_X3_readValue se_X3_readValue kX3 rfl (c_X3_readValue (d - 1) (by omega) C.1 C.2.2.1 l0 l1) hy_X3_readValue rfl rfl hf hlo (st_room (Nat.le_of_ble_eq_true rfl)) hcs (fun _ => ?_)
  refine s_goto (pc2 := 138) X dX3_readSum_133 (by decide) ?_
  refine s_sub (lv2 := [(0, vR C.1.1 l0), (1, vR C.1.1 l1), (2, vI w1), (3, vI l3), (4, vI l4)]) [1, 2, 0, 3, 4] rfl ?_
  exact z_X3_readSum_L138 d hd K X k12 hk12 l0 l1 w1 l3 l4 hw1 h3 h4
set_option maxRecDepth 4000 in
theorem z_X3_readSum_L104 (d : Nat) (hd : 8 ≤ d) {C : hCx} (K : hCtx C.1 C.2.2.1 d 0 0 "readSum" C) (X : hOK C cX3_readSum RX3 6 none) (k12 : Nat → Nat → Int → Int → Int → hM) (hk12 : ∀ (l0 : Nat) (l1 : Nat) (l2 : Int) (l3 : Int) (l4 : Int), inI l2 → inI l3 → inI l4 → hSim C none 0 0 6 12 [(0, vR C.1.1 l0), (1, vR C.1.1 l1), (2, vI l2), (3, vI l3), (4, vI l4)] [] 0 0 (k12 l0 l1 l2 l3 l4)) (l0 : Nat) (l1 : Nat) (l2 : Int) (l3 : Int) (l4 : Int) (l5 : Int) (h2 : inI l2) (h3 : inI l3) (h4 : inI l4) (h5 : inI l5) : hSim C none 0 0 6 104 [(0, vR C.1.1 l0), (1, vR C.1.1 l1), (2, vI l2), (3, vI l3), (4, vI l4), (5, vI l5)] [] 0 0 (m_X3_readSum_L104 k12 l0 l1 l2 l3 l4 l5) := by
  obtain ⟨⟨hf, hlo⟩, ⟨hc1, hc2⟩, hf1, hl1⟩ := K_room K (by omega)
  have hcs : 0 ≤ C.2.2.2.2.1.cells ∧ 0 ≤ C.2.2.2.2.1.slots := ⟨Nat.zero_le _, Nat.zero_le _⟩
  unfold m_X3_readSum_L104
  refine s_aload_n (j := 1) (pc2 := 105) X dX3_readSum_104 rfl rfl ?_
  refine s_dup (pc2 := 106) X dX3_readSum_105 rfl (vR_cat _ _) ?_
  refine s_getI (pc2 := 109) X dX3_readSum_106 rfl fl_RX3_99 rfl (fun v1 hv1 => ?_)
  refine s_iconst (n := 1) (pc2 := 110) X dX3_readSum_109 rfl ?_
  refine s_iadd (pc2 := 111) X dX3_readSum_110 rfl ?_
  refine s_putI (pc2 := 114) X dX3_readSum_111 rfl fl_RX3_99 (Or.inl rfl) rfl (w32_in _) ?_
  refine s_iload_n (j := 2) (pc2 := 115) X dX3_readSum_114 rfl rfl ?_
  refine s_iconst (n := (-1)) (pc2 := 116) X dX3_readSum_115 rfl ?_
  refine s_iceq (tgt := 125) X dX3_readSum_116 (by decide) rfl h2 (inI_c (-1) rfl) ?_ ?_
  · refine s_sub (lv2 := [(0, vR C.1.1 l0), (1, vR C.1.1 l1), (3, vI l3), (4, vI l4), (5, vI l5)]) [0, 1, 3, 4, 5] rfl ?_
    exact z_X3_readSum_L125 d hd K X k12 hk12 l0 l1 l3 l4 l5 h3 h4 h5
  · refine s_aload_n (j := 0) (pc2 := 120) X dX3_readSum_119 rfl rfl ?_
    refine s_iload_n (j := 2) (pc2 := 121) X dX3_readSum_120 rfl rfl ?_
    refine s_iconst (n := 0) (pc2 := 122) X dX3_readSum_121 rfl ?_
    refine s_callVV (d2 := d - 1) (As := [vI l2, vI 0]) (st := []) (pc2 := 125) X dX3_readSum_122 rfl ml_RX3_82 im_X3_emit se_X3_emit kX3 rfl (c_X3_emit (d - 1) (by omega) C.1 C.2.2.1 l0 l2 0 h2 (inI_c 0 rfl)) hy_X3_emit rfl rfl hf hlo (st_room (Nat.le_of_ble_eq_true rfl)) hcs (fun _ => ?_)
    refine s_sub (lv2 := [(0, vR C.1.1 l0), (1, vR C.1.1 l1), (3, vI l3), (4, vI l4), (5, vI l5)]) [0, 1, 3, 4, 5] rfl ?_
    exact z_X3_readSum_L125 d hd K X k12 hk12 l0 l1 l3 l4 l5 h3 h4 h5
set_option maxRecDepth 4000 in
theorem z_X3_readSum_L83 (d : Nat) (hd : 8 ≤ d) {C : hCx} (K : hCtx C.1 C.2.2.1 d 0 0 "readSum" C) (X : hOK C cX3_readSum RX3 6 none) (k12 : Nat → Nat → Int → Int → Int → hM) (hk12 : ∀ (l0 : Nat) (l1 : Nat) (l2 : Int) (l3 : Int) (l4 : Int), inI l2 → inI l3 → inI l4 → hSim C none 0 0 6 12 [(0, vR C.1.1 l0), (1, vR C.1.1 l1), (2, vI l2), (3, vI l3), (4, vI l4)] [] 0 0 (k12 l0 l1 l2 l3 l4)) (l0 : Nat) (l1 : Nat) (l2 : Int) (l3 : Int) (l4 : Int) (l5 : Int) (h2 : inI l2) (h3 : inI l3) (h4 : inI l4) (h5 : inI l5) : hSim C none 0 0 6 83 [(0, vR C.1.1 l0), (1, vR C.1.1 l1), (2, vI l2), (3, vI l3), (4, vI l4), (5, vI l5)] [] 0 0 (m_X3_readSum_L83 k12 l0 l1 l2 l3 l4 l5) := by
  obtain ⟨⟨hf, hlo⟩, ⟨hc1, hc2⟩, hf1, hl1⟩ := K_room K (by omega)
  have hcs : 0 ≤ C.2.2.2.2.1.cells ∧ 0 ≤ C.2.2.2.2.1.slots := ⟨Nat.zero_le _, Nat.zero_le _⟩
  unfold m_X3_readSum_L83
  refine s_aload_n (j := 1) (pc2 := 84) X dX3_readSum_83 rfl rfl ?_
  refine s_getI (pc2 := 87) X dX3_readSum_84 rfl fl_RX3_87 rfl (fun v1 hv1 => ?_)
  refine s_ifne (tgt := 136) X dX3_readSum_87 (by decide) rfl hv1 ?_ ?_
  · refine s_sub (lv2 := [(0, vR C.1.1 l0), (1, vR C.1.1 l1), (2, vI l2), (4, vI l4)]) [0, 1, 2, 4] rfl ?_
    exact z_X3_readSum_L136 d hd K X k12 hk12 l0 l1 l2 l4 h2 h4
  · refine s_iload (j := 5) (pc2 := 92) X dX3_readSum_90 rfl rfl ?_
    refine s_bipush (n := 43) (pc2 := 94) X dX3_readSum_92 rfl rfl ?_
    refine s_iceq (tgt := 104) X dX3_readSum_94 (by decide) rfl h5 (inI_c 43 rfl) ?_ ?_
    · exact z_X3_readSum_L104 d hd K X k12 hk12 l0 l1 l2 l3 l4 l5 h2 h3 h4 h5
    · refine s_iload (j := 5) (pc2 := 99) X dX3_readSum_97 rfl rfl ?_
      refine s_bipush (n := 45) (pc2 := 101) X dX3_readSum_99 rfl rfl ?_
      refine s_icne (tgt := 136) X dX3_readSum_101 (by decide) rfl h5 (inI_c 45 rfl) ?_ ?_
      · refine s_sub (lv2 := [(0, vR C.1.1 l0), (1, vR C.1.1 l1), (2, vI l2), (4, vI l4)]) [0, 1, 2, 4] rfl ?_
        exact z_X3_readSum_L136 d hd K X k12 hk12 l0 l1 l2 l4 h2 h4
      · exact z_X3_readSum_L104 d hd K X k12 hk12 l0 l1 l2 l3 l4 l5 h2 h3 h4 h5
set_option maxRecDepth 4000 in
theorem z_X3_readSum_L58 (d : Nat) (hd : 8 ≤ d) {C : hCx} (K : hCtx C.1 C.2.2.1 d 0 0 "readSum" C) (X : hOK C cX3_readSum RX3 6 none) (k12 : Nat → Nat → Int → Int → Int → hM) (hk12 : ∀ (l0 : Nat) (l1 : Nat) (l2 : Int) (l3 : Int) (l4 : Int), inI l2 → inI l3 → inI l4 → hSim C none 0 0 6 12 [(0, vR C.1.1 l0), (1, vR C.1.1 l1), (2, vI l2), (3, vI l3), (4, vI l4)] [] 0 0 (k12 l0 l1 l2 l3 l4)) (l0 : Nat) (l1 : Nat) (l2 : Int) (l3 : Int) (l4 : Int) (l5 : Int) (h2 : inI l2) (h3 : inI l3) (h4 : inI l4) (h5 : inI l5) : hSim C none 0 0 6 58 [(0, vR C.1.1 l0), (1, vR C.1.1 l1), (2, vI l2), (3, vI l3), (4, vI l4), (5, vI l5)] [] 0 0 (m_X3_readSum_L58 k12 l0 l1 l2 l3 l4 l5) := by
  obtain ⟨⟨hf, hlo⟩, ⟨hc1, hc2⟩, hf1, hl1⟩ := K_room K (by omega)
  have hcs : 0 ≤ C.2.2.2.2.1.cells ∧ 0 ≤ C.2.2.2.2.1.slots := ⟨Nat.zero_le _, Nat.zero_le _⟩
  unfold m_X3_readSum_L58
  refine s_aload_n (j := 1) (pc2 := 59) X dX3_readSum_58 rfl rfl ?_
  refine s_dup (pc2 := 60) X dX3_readSum_59 rfl (vR_cat _ _) ?_
  refine s_getI (pc2 := 63) X dX3_readSum_60 rfl fl_RX3_99 rfl (fun v1 hv1 => ?_)
  refine s_iconst (n := 1) (pc2 := 64) X dX3_readSum_63 rfl ?_
  refine s_iadd (pc2 := 65) X dX3_readSum_64 rfl ?_
  refine s_putI (pc2 := 68) X dX3_readSum_65 rfl fl_RX3_99 (Or.inl rfl) rfl (w32_in _) ?_
  refine s_aload_n (j := 0) (pc2 := 69) X dX3_readSum_68 rfl rfl ?_
  refine s_aload_n (j := 1) (pc2 := 70) X dX3_readSum_69 rfl rfl ?_
  refine s_callVV (d2 := d - 1) (As := [vR C.1.1 l1]) (st := []) (pc2 := 73) X dX3_readSum_70 rfl ml_RX3_120 im_X3_readValue se_X3_readValue kX3 rfl (c_X3_readValue (d - 1) (by omega) C.1 C.2.2.1 l0 l1) hy_X3_readValue rfl rfl hf hlo (st_room (Nat.le_of_ble_eq_true rfl)) hcs (fun _ => ?_)
  refine s_aload_n (j := 0) (pc2 := 74) X dX3_readSum_73 rfl rfl ?_
  refine s_iload (j := 5) (pc2 := 76) X dX3_readSum_74 rfl rfl ?_
  refine s_iconst (n := 0) (pc2 := 77) X dX3_readSum_76 rfl ?_
  refine s_callVV (d2 := d - 1) (As := [vI l5, vI 0]) (st := []) (pc2 := 80) X dX3_readSum_77 rfl ml_RX3_82 im_X3_emit se_X3_emit kX3 rfl (c_X3_emit (d - 1) (by omega) C.1 C.2.2.1 l0 l5 0 h5 (inI_c 0 rfl)) hy_X3_emit rfl rfl hf hlo (st_room (Nat.le_of_ble_eq_true rfl)) hcs (fun _ => ?_)
  refine s_goto (pc2 := 138) X dX3_readSum_80 (by decide) ?_
  refine s_sub (lv2 := [(0, vR C.1.1 l0), (1, vR C.1.1 l1), (2, vI l2), (3, vI l3), (4, vI l4)]) [0, 1, 2, 3, 4] rfl ?_
  exact z_X3_readSum_L138 d hd K X k12 hk12 l0 l1 l2 l3 l4 h2 h3 h4
set_option maxRecDepth 4000 in
theorem z_X3_readSum_L12 (d : Nat) (hd : 8 ≤ d) {C : hCx} (K : hCtx C.1 C.2.2.1 d 0 0 "readSum" C) (X : hOK C cX3_readSum RX3 6 none) : ∀ (n : Nat) (l0 : Nat) (l1 : Nat) (l2 : Int) (l3 : Int) (l4 : Int) (h2 : inI l2) (h3 : inI l3) (h4 : inI l4), hSim C none 0 0 6 12 [(0, vR C.1.1 l0), (1, vR C.1.1 l1), (2, vI l2), (3, vI l3), (4, vI l4)] [] 0 0 (m_X3_readSum_L12 n l0 l1 l2 l3 l4) := by
  obtain ⟨⟨hf, hlo⟩, ⟨hc1, hc2⟩, hf1, hl1⟩ := K_room K (by omega)
  have hcs : 0 ≤ C.2.2.2.2.1.cells ∧ 0 ≤ C.2.2.2.2.1.slots := ⟨Nat.zero_le _, Nat.zero_le _⟩
  intro n
  induction n with
  | zero => intros; exact s_none (fun _ => rfl)
  | succ n ih =>
    intro l0 l1 l2 l3 l4 h2 h3 h4
    unfold m_X3_readSum_L12
    refine s_iload_n (j := 3) (pc2 := 13) X dX3_readSum_12 rfl rfl ?_
    refine s_ifeq (tgt := 144) X dX3_readSum_13 (by decide) rfl h3 ?_ ?_
    · refine s_sub (lv2 := [(0, vR C.1.1 l0), (2, vI l2)]) [0, 2] rfl ?_
      exact z_X3_readSum_L144 d hd K X l0 l2 h2
    · refine s_iload (j := 4) (pc2 := 18) X dX3_readSum_16 rfl rfl ?_
      refine s_sipush (n := 400) (pc2 := 21) X dX3_readSum_18 rfl rfl ?_
      refine s_icge (tgt := 144) X dX3_readSum_21 (by decide) rfl h4 (inI_c 400 rfl) ?_ ?_
      · refine s_sub (lv2 := [(0, vR C.1.1 l0), (2, vI l2)]) [0, 2] rfl ?_
        exact z_X3_readSum_L144 d hd K X l0 l2 h2
      · refine s_aload_n (j := 1) (pc2 := 25) X dX3_readSum_24 rfl rfl ?_
        refine s_callVI (d2 := d - 1) (As := []) (st := []) (pc2 := 28) X dX3_readSum_25 rfl ml_RX3_90 im_X6_next se_X6_next kX6 rfl (c_X6_next (d - 1) (by omega) C.1 C.2.2.1 l1) hy_X6_next rfl rfl hf hlo (st_room (Nat.le_of_ble_eq_true rfl)) hcs (fun v1 hv1 => ?_)
        refine s_istore (pc2 := 30) X dX3_readSum_28 rfl (by decide) rfl rfl cat1_I hv1 (fun w2 hw2 => ?_)
        refine s_aload_n (j := 2) (pc2 := 31) X dX3_readSum_30 rfl rfl ?_
        refine s_getI (pc2 := 34) X dX3_readSum_31 rfl fl_RX3_87 rfl (fun v3 hv3 => ?_)
        refine s_ifne (tgt := 83) X dX3_readSum_34 (by decide) rfl hv3 ?_ ?_
        · refine s_sub (lv2 := [(0, vR C.1.1 l0), (1, vR C.1.1 l1), (2, vI l2), (3, vI l3), (4, vI l4), (5, vI w2)]) [1, 2, 3, 4, 5, 0] rfl ?_
          exact z_X3_readSum_L83 d hd K X (m_X3_readSum_L12 n) ih l0 l1 l2 l3 l4 w2 h2 h3 h4 hw2
        · refine s_iload (j := 0) (pc2 := 39) X dX3_readSum_37 rfl rfl ?_
          refine s_bipush (n := 42) (pc2 := 41) X dX3_readSum_39 rfl rfl ?_
          refine s_iceq (tgt := 58) X dX3_readSum_41 (by decide) rfl hw2 (inI_c 42 rfl) ?_ ?_
          · refine s_sub (lv2 := [(0, vR C.1.1 l0), (1, vR C.1.1 l1), (2, vI l2), (3, vI l3), (4, vI l4), (5, vI w2)]) [1, 2, 3, 4, 5, 0] rfl ?_
            exact z_X3_readSum_L58 d hd K X (m_X3_readSum_L12 n) ih l0 l1 l2 l3 l4 w2 h2 h3 h4 hw2
          · refine s_iload (j := 0) (pc2 := 46) X dX3_readSum_44 rfl rfl ?_
            refine s_bipush (n := 47) (pc2 := 48) X dX3_readSum_46 rfl rfl ?_
            refine s_iceq (tgt := 58) X dX3_readSum_48 (by decide) rfl hw2 (inI_c 47 rfl) ?_ ?_
            · refine s_sub (lv2 := [(0, vR C.1.1 l0), (1, vR C.1.1 l1), (2, vI l2), (3, vI l3), (4, vI l4), (5, vI w2)]) [1, 2, 3, 4, 5, 0] rfl ?_
              exact z_X3_readSum_L58 d hd K X (m_X3_readSum_L12 n) ih l0 l1 l2 l3 l4 w2 h2 h3 h4 hw2
            · refine s_iload (j := 0) (pc2 := 53) X dX3_readSum_51 rfl rfl ?_
              refine s_bipush (n := 37) (pc2 := 55) X dX3_readSum_53 rfl rfl ?_
              refine s_icne (tgt := 83) X dX3_readSum_55 (by decide) rfl hw2 (inI_c 37 rfl) ?_ ?_
              · refine s_sub (lv2 := [(0, vR C.1.1 l0), (1, vR C.1.1 l1), (2, vI l2), (3, vI l3), (4, vI l4), (5, vI w2)]) [1, 2, 3, 4, 5, 0] rfl ?_
                exact z_X3_readSum_L83 d hd K X (m_X3_readSum_L12 n) ih l0 l1 l2 l3 l4 w2 h2 h3 h4 hw2
              · refine s_sub (lv2 := [(0, vR C.1.1 l0), (1, vR C.1.1 l1), (2, vI l2), (3, vI l3), (4, vI l4), (5, vI w2)]) [1, 2, 3, 4, 5, 0] rfl ?_
                exact z_X3_readSum_L58 d hd K X (m_X3_readSum_L12 n) ih l0 l1 l2 l3 l4 w2 h2 h3 h4 hw2
set_option maxRecDepth 4000 in
set_option maxHeartbeats 20000000 in
theorem z_X3_readSum (d : Nat) (hd : 8 ≤ d) {C : hCx} (K : hCtx C.1 C.2.2.1 d 0 0 "readSum" C) (X : hOK C cX3_readSum RX3 6 none) (l0 : Nat) (l1 : Nat) : hSim C none 0 0 6 0 [(0, vR C.1.1 l0), (1, vR C.1.1 l1)] [] 0 0 (m_X3_readSum l0 l1) := by
  obtain ⟨⟨hf, hlo⟩, ⟨hc1, hc2⟩, hf1, hl1⟩ := K_room K (by omega)
  have hcs : 0 ≤ C.2.2.2.2.1.cells ∧ 0 ≤ C.2.2.2.2.1.slots := ⟨Nat.zero_le _, Nat.zero_le _⟩
  unfold m_X3_readSum
  refine s_aload_n (j := 0) (pc2 := 1) X dX3_readSum_0 rfl rfl ?_
  refine s_aload_n (j := 1) (pc2 := 2) X dX3_readSum_1 rfl rfl ?_
  refine s_callVV (d2 := d - 1) (As := [vR C.1.1 l1]) (st := []) (pc2 := 5) X dX3_readSum_2 rfl ml_RX3_120 im_X3_readValue se_X3_readValue kX3 rfl (c_X3_readValue (d - 1) (by omega) C.1 C.2.2.1 l0 l1) hy_X3_readValue rfl rfl hf hlo (st_room (Nat.le_of_ble_eq_true rfl)) hcs (fun _ => ?_)
  refine s_iconst (n := (-1)) (pc2 := 6) X dX3_readSum_5 rfl ?_
  refine s_istore_n (pc2 := 7) X dX3_readSum_6 rfl (by decide) rfl rfl cat1_R (inI_c (-1) rfl) (fun w1 hw1 => ?_)
  refine s_iconst (n := 1) (pc2 := 8) X dX3_readSum_7 rfl ?_
  refine s_istore_n (pc2 := 9) X dX3_readSum_8 rfl (by decide) rfl rfl cat1_I (inI_c 1 rfl) (fun w2 hw2 => ?_)
  refine s_iconst (n := 0) (pc2 := 10) X dX3_readSum_9 rfl ?_
  refine s_istore (pc2 := 12) X dX3_readSum_10 rfl (by decide) rfl rfl cat1_I (inI_c 0 rfl) (fun w3 hw3 => ?_)
  refine s_sub (lv2 := [(0, vR C.1.1 l0), (1, vR C.1.1 l1), (2, vI w1), (3, vI w2), (4, vI w3)]) [3, 4, 2, 1, 0] rfl ?_
  exact z_X3_readSum_L12 d hd K X 1000000000 l0 l1 w1 w2 w3 hw1 hw2 hw3
theorem c_X3_readSum (d : Nat) (hd : 8 ≤ d) (G : hG) (l : Launch) (l0 : Nat) (l1 : Nat) : hMet G l yX3_readSum cX3_readSum 6 none d 0 0 [vR G.1 l0, vR G.1 l1] (m_X3_readSum l0 l1) := by
  refine hMet.of (lv := [(0, vR G.1 l0), (1, vR G.1 l1)]) (by decide +kernel) (by simp [lg_sl, vR_cat, vI_cat, vL_cat, vS_cat2, vT_cat2]) (by simp [lv_args, vR_cat, vI_cat, vL_cat, vS_cat2, vT_cat2]) (fun C K X => ?_)
  obtain ⟨rfl, rfl, K⟩ := K
  exact z_X3_readSum d hd ⟨rfl, rfl, K⟩ X l0 l1
def m_X3_readTest_L103 (r_readFact : Nat → Nat → Int → hM) : hM :=
  hret 0
def m_X3_readTest_L92 (r_readFact : Nat → Nat → Int → hM) (l0 : Nat) (l3 : Int) : hM :=
  hif (l3 = 0) (
m_X3_readTest_L103 r_readFact) (
hcallV 3 l0 (m_X3_emit l0 124 0) fun _ =>
  m_X3_readTest_L103 r_readFact)
def m_X3_readTest_L86 (r_readFact : Nat → Nat → Int → hM) (k14 : Nat → Nat → Int → Int → Int → Int → hM) (l0 : Nat) (l1 : Nat) (l2 : Int) (l3 : Int) (l4 : Int) (l5 : Int) : hM :=
  hlet (w32 (l5 + 1)) fun (w1 : Int) =>
  k14 l0 l1 l2 l3 l4 w1
def m_X3_readTest_L72 (r_readFact : Nat → Nat → Int → hM) (k14 : Nat → Nat → Int → Int → Int → Int → hM) (l0 : Nat) (l1 : Nat) (l2 : Int) (l4 : Int) (l5 : Int) : hM :=
  hlet (1 : Int) fun (w1 : Int) =>
  hcallV 3 l0 (r_readFact l0 l1 l2) fun _ =>
  m_X3_readTest_L86 r_readFact k14 l0 l1 l2 w1 l4 l5
def m_X3_readTest_L14 (r_readFact : Nat → Nat → Int → hM) : Nat → Nat → Nat → Int → Int → Int → Int → hM
  | 0, _, _, _, _, _, _ => hfail
  | n + 1, l0, l1, l2, l3, l4, l5 =>
    hif (l4 = 0) (
m_X3_readTest_L92 r_readFact l0 l3) (
hif (l5 ≥ 400) (
m_X3_readTest_L92 r_readFact l0 l3) (
hcallV 6 l1 (m_X6_takeWord l1 5) fun v1 =>
  hif (v1 = 0) (
hcallV 6 l1 (m_X6_takeWord l1 6) fun v2 =>
  hif (v2 = 0) (
hlet (0 : Int) fun (w3 : Int) =>
  m_X3_readTest_L86 r_readFact (m_X3_readTest_L14 r_readFact n) l0 l1 l2 l3 w3 l5) (
hif (l3 = 0) (
m_X3_readTest_L72 r_readFact (m_X3_readTest_L14 r_readFact n) l0 l1 l2 l4 l5) (
hcallV 3 l0 (m_X3_emit l0 124 0) fun _ =>
  m_X3_readTest_L72 r_readFact (m_X3_readTest_L14 r_readFact n) l0 l1 l2 l4 l5))) (
hcallV 3 l0 (r_readFact l0 l1 l2) fun _ =>
  hcallV 3 l0 (m_X3_emit l0 38 0) fun _ =>
  m_X3_readTest_L86 r_readFact (m_X3_readTest_L14 r_readFact n) l0 l1 l2 l3 l4 l5)))
def m_X3_readTest (r_readFact : Nat → Nat → Int → hM) (l0 : Nat) (l1 : Nat) (l2 : Int) : hM :=
  hcallV 3 l0 (r_readFact l0 l1 l2) fun _ =>
  hlet (0 : Int) fun (w1 : Int) =>
  hlet (1 : Int) fun (w2 : Int) =>
  hlet (0 : Int) fun (w3 : Int) =>
  m_X3_readTest_L14 r_readFact 1000000000 l0 l1 l2 w1 w2 w3
set_option maxRecDepth 4000 in
theorem z_X3_readTest_L103 (d : Nat) (hd : 8 ≤ d) {C : hCx} (K : hCtx C.1 C.2.2.1 d 0 0 "readTest" C) (X : hOK C cX3_readTest RX3 6 none) (r_readFact : Nat → Nat → Int → hM) (hr_readFact : ∀ (l0 : Nat) (l1 : Nat) (l2 : Int), inI l2 → hMet C.1 C.2.2.1 yX3_readFact cX3_readFact 5 none (d - 1) 0 0 [vR C.1.1 l0, vR C.1.1 l1, vI l2] (r_readFact l0 l1 l2)) : hSim C none 0 0 6 103 [] [] 0 0 (m_X3_readTest_L103 r_readFact) := by
  obtain ⟨⟨hf, hlo⟩, ⟨hc1, hc2⟩, hf1, hl1⟩ := K_room K (by omega)
  have hcs : 0 ≤ C.2.2.2.2.1.cells ∧ 0 ≤ C.2.2.2.2.1.slots := ⟨Nat.zero_le _, Nat.zero_le _⟩
  unfold m_X3_readTest_L103
  exact s_ret X dX3_readTest_103
set_option maxRecDepth 4000 in
theorem z_X3_readTest_L92 (d : Nat) (hd : 8 ≤ d) {C : hCx} (K : hCtx C.1 C.2.2.1 d 0 0 "readTest" C) (X : hOK C cX3_readTest RX3 6 none) (r_readFact : Nat → Nat → Int → hM) (hr_readFact : ∀ (l0 : Nat) (l1 : Nat) (l2 : Int), inI l2 → hMet C.1 C.2.2.1 yX3_readFact cX3_readFact 5 none (d - 1) 0 0 [vR C.1.1 l0, vR C.1.1 l1, vI l2] (r_readFact l0 l1 l2)) (l0 : Nat) (l3 : Int) (h3 : inI l3) : hSim C none 0 0 6 92 [(0, vR C.1.1 l0), (3, vI l3)] [] 0 0 (m_X3_readTest_L92 r_readFact l0 l3) := by
  obtain ⟨⟨hf, hlo⟩, ⟨hc1, hc2⟩, hf1, hl1⟩ := K_room K (by omega)
  have hcs : 0 ≤ C.2.2.2.2.1.cells ∧ 0 ≤ C.2.2.2.2.1.slots := ⟨Nat.zero_le _, Nat.zero_le _⟩
  unfold m_X3_readTest_L92
  refine s_iload_n (j := 1) (pc2 := 93) X dX3_readTest_92 rfl rfl ?_
  refine s_ifeq (tgt := 103) X dX3_readTest_93 (by decide) rfl h3 ?_ ?_
  · refine s_sub (lv2 := []) [] rfl ?_
    exact z_X3_readTest_L103 d hd K X r_readFact hr_readFact
  · refine s_aload_n (j := 0) (pc2 := 97) X dX3_readTest_96 rfl rfl ?_
    refine s_bipush (n := 124) (pc2 := 99) X dX3_readTest_97 rfl rfl ?_
    refine s_iconst (n := 0) (pc2 := 100) X dX3_readTest_99 rfl ?_
    refine s_callVV (d2 := d - 1) (As := [vI 124, vI 0]) (st := []) (pc2 := 103) X dX3_readTest_100 rfl ml_RX3_82 im_X3_emit se_X3_emit kX3 rfl (c_X3_emit (d - 1) (by omega) C.1 C.2.2.1 l0 124 0 (inI_c 124 rfl) (inI_c 0 rfl)) hy_X3_emit rfl rfl hf hlo (st_room (Nat.le_of_ble_eq_true rfl)) hcs (fun _ => ?_)
    refine s_sub (lv2 := []) [] rfl ?_
    exact z_X3_readTest_L103 d hd K X r_readFact hr_readFact
set_option maxRecDepth 4000 in
theorem z_X3_readTest_L86 (d : Nat) (hd : 8 ≤ d) {C : hCx} (K : hCtx C.1 C.2.2.1 d 0 0 "readTest" C) (X : hOK C cX3_readTest RX3 6 none) (r_readFact : Nat → Nat → Int → hM) (hr_readFact : ∀ (l0 : Nat) (l1 : Nat) (l2 : Int), inI l2 → hMet C.1 C.2.2.1 yX3_readFact cX3_readFact 5 none (d - 1) 0 0 [vR C.1.1 l0, vR C.1.1 l1, vI l2] (r_readFact l0 l1 l2)) (k14 : Nat → Nat → Int → Int → Int → Int → hM) (hk14 : ∀ (l0 : Nat) (l1 : Nat) (l2 : Int) (l3 : Int) (l4 : Int) (l5 : Int), inI l2 → inI l3 → inI l4 → inI l5 → hSim C none 0 0 6 14 [(0, vR C.1.1 l0), (1, vR C.1.1 l1), (2, vI l2), (3, vI l3), (4, vI l4), (5, vI l5)] [] 0 0 (k14 l0 l1 l2 l3 l4 l5)) (l0 : Nat) (l1 : Nat) (l2 : Int) (l3 : Int) (l4 : Int) (l5 : Int) (h2 : inI l2) (h3 : inI l3) (h4 : inI l4) (h5 : inI l5) : hSim C none 0 0 6 86 [(0, vR C.1.1 l0), (1, vR C.1.1 l1), (2, vI l2), (3, vI l3), (4, vI l4), (5, vI l5)] [] 0 0 (m_X3_readTest_L86 r_readFact k14 l0 l1 l2 l3 l4 l5) := by
  obtain ⟨⟨hf, hlo⟩, ⟨hc1, hc2⟩, hf1, hl1⟩ := K_room K (by omega)
  have hcs : 0 ≤ C.2.2.2.2.1.cells ∧ 0 ≤ C.2.2.2.2.1.slots := ⟨Nat.zero_le _, Nat.zero_le _⟩
  unfold m_X3_readTest_L86
  refine s_iinc (j := 5) (pc2 := 89) X dX3_readTest_86 rfl (by decide) rfl rfl rfl cat1_I (fun w1 hw1 => ?_)
  refine s_goto (pc2 := 14) X dX3_readTest_89 (by decide) ?_
  refine s_sub (lv2 := [(0, vR C.1.1 l0), (1, vR C.1.1 l1), (2, vI l2), (3, vI l3), (4, vI l4), (5, vI w1)]) [1, 2, 3, 4, 5, 0] rfl ?_
  exact hk14 l0 l1 l2 l3 l4 w1 h2 h3 h4 hw1
set_option maxRecDepth 4000 in
theorem z_X3_readTest_L72 (d : Nat) (hd : 8 ≤ d) {C : hCx} (K : hCtx C.1 C.2.2.1 d 0 0 "readTest" C) (X : hOK C cX3_readTest RX3 6 none) (r_readFact : Nat → Nat → Int → hM) (hr_readFact : ∀ (l0 : Nat) (l1 : Nat) (l2 : Int), inI l2 → hMet C.1 C.2.2.1 yX3_readFact cX3_readFact 5 none (d - 1) 0 0 [vR C.1.1 l0, vR C.1.1 l1, vI l2] (r_readFact l0 l1 l2)) (k14 : Nat → Nat → Int → Int → Int → Int → hM) (hk14 : ∀ (l0 : Nat) (l1 : Nat) (l2 : Int) (l3 : Int) (l4 : Int) (l5 : Int), inI l2 → inI l3 → inI l4 → inI l5 → hSim C none 0 0 6 14 [(0, vR C.1.1 l0), (1, vR C.1.1 l1), (2, vI l2), (3, vI l3), (4, vI l4), (5, vI l5)] [] 0 0 (k14 l0 l1 l2 l3 l4 l5)) (l0 : Nat) (l1 : Nat) (l2 : Int) (l4 : Int) (l5 : Int) (h2 : inI l2) (h4 : inI l4) (h5 : inI l5) : hSim C none 0 0 6 72 [(0, vR C.1.1 l0), (1, vR C.1.1 l1), (2, vI l2), (4, vI l4), (5, vI l5)] [] 0 0 (m_X3_readTest_L72 r_readFact k14 l0 l1 l2 l4 l5) := by
  obtain ⟨⟨hf, hlo⟩, ⟨hc1, hc2⟩, hf1, hl1⟩ := K_room K (by omega)
  have hcs : 0 ≤ C.2.2.2.2.1.cells ∧ 0 ≤ C.2.2.2.2.1.slots := ⟨Nat.zero_le _, Nat.zero_le _⟩
  unfold m_X3_readTest_L72
  refine s_iconst (n := 1) (pc2 := 73) X dX3_readTest_72 rfl ?_
  refine s_istore_n (pc2 := 74) X dX3_readTest_73 rfl (by decide) rfl rfl cat1_I (inI_c 1 rfl) (fun w1 hw1 => ?_)
  refine s_aload_n (j := 1) (pc2 := 75) X dX3_readTest_74 rfl rfl ?_
  refine s_aload_n (j := 2) (pc2 := 76) X dX3_readTest_75 rfl rfl ?_
  refine s_iload_n (j := 3) (pc2 := 77) X dX3_readTest_76 rfl rfl ?_
  refine s_callVV (d2 := d - 1) (As := [vR C.1.1 l1, vI l2]) (st := []) (pc2 := 80) X dX3_readTest_77 rfl ml_RX3_77 im_X3_readFact se_X3_readFact kX3 rfl (hr_readFact l0 l1 l2 h2) hy_X3_readFact rfl rfl hf hlo (st_room (Nat.le_of_ble_eq_true rfl)) hcs (fun _ => ?_)
  refine s_goto (pc2 := 86) X dX3_readTest_80 (by decide) ?_
  refine s_sub (lv2 := [(0, vR C.1.1 l0), (1, vR C.1.1 l1), (2, vI l2), (3, vI w1), (4, vI l4), (5, vI l5)]) [1, 2, 3, 0, 4, 5] rfl ?_
  exact z_X3_readTest_L86 d hd K X r_readFact hr_readFact k14 hk14 l0 l1 l2 w1 l4 l5 h2 hw1 h4 h5
set_option maxRecDepth 4000 in
theorem z_X3_readTest_L14 (d : Nat) (hd : 8 ≤ d) {C : hCx} (K : hCtx C.1 C.2.2.1 d 0 0 "readTest" C) (X : hOK C cX3_readTest RX3 6 none) (r_readFact : Nat → Nat → Int → hM) (hr_readFact : ∀ (l0 : Nat) (l1 : Nat) (l2 : Int), inI l2 → hMet C.1 C.2.2.1 yX3_readFact cX3_readFact 5 none (d - 1) 0 0 [vR C.1.1 l0, vR C.1.1 l1, vI l2] (r_readFact l0 l1 l2)) : ∀ (n : Nat) (l0 : Nat) (l1 : Nat) (l2 : Int) (l3 : Int) (l4 : Int) (l5 : Int) (h2 : inI l2) (h3 : inI l3) (h4 : inI l4) (h5 : inI l5), hSim C none 0 0 6 14 [(0, vR C.1.1 l0), (1, vR C.1.1 l1), (2, vI l2), (3, vI l3), (4, vI l4), (5, vI l5)] [] 0 0 (m_X3_readTest_L14 r_readFact n l0 l1 l2 l3 l4 l5) := by
  obtain ⟨⟨hf, hlo⟩, ⟨hc1, hc2⟩, hf1, hl1⟩ := K_room K (by omega)
  have hcs : 0 ≤ C.2.2.2.2.1.cells ∧ 0 ≤ C.2.2.2.2.1.slots := ⟨Nat.zero_le _, Nat.zero_le _⟩
  intro n
  induction n with
  | zero => intros; exact s_none (fun _ => rfl)
  | succ n ih =>
    intro l0 l1 l2 l3 l4 l5 h2 h3 h4 h5
    unfold m_X3_readTest_L14
    refine s_iload (j := 4) (pc2 := 16) X dX3_readTest_14 rfl rfl ?_
    refine s_ifeq (tgt := 92) X dX3_readTest_16 (by decide) rfl h4 ?_ ?_
    · refine s_sub (lv2 := [(0, vR C.1.1 l0), (3, vI l3)]) [0, 3] rfl ?_
      exact z_X3_readTest_L92 d hd K X r_readFact hr_readFact l0 l3 h3
    · refine s_iload (j := 5) (pc2 := 21) X dX3_readTest_19 rfl rfl ?_
      refine s_sipush (n := 400) (pc2 := 24) X dX3_readTest_21 rfl rfl ?_
      refine s_icge (tgt := 92) X dX3_readTest_24 (by decide) rfl h5 (inI_c 400 rfl) ?_ ?_
      · refine s_sub (lv2 := [(0, vR C.1.1 l0), (3, vI l3)]) [0, 3] rfl ?_
        exact z_X3_readTest_L92 d hd K X r_readFact hr_readFact l0 l3 h3
      · refine s_aload_n (j := 1) (pc2 := 28) X dX3_readTest_27 rfl rfl ?_
        refine s_ldcS (j := 5) (pc2 := 30) X dX3_readTest_28 rfl rfl ?_
        refine s_callVZ (d2 := d - 1) (As := [vS C.1 5]) (st := []) (pc2 := 33) X dX3_readTest_30 rfl ml_RX3_58 im_X6_takeWord se_X6_takeWord kX6 rfl (c_X6_takeWord (d - 1) (by omega) C.1 C.2.2.1 l1 5) hy_X6_takeWord rfl rfl hf hlo (st_room (Nat.le_of_ble_eq_true rfl)) hcs (fun v1 hv1 => ?_)
        refine s_ifeq (tgt := 52) X dX3_readTest_33 (by decide) rfl hv1 ?_ ?_
        · refine s_aload_n (j := 1) (pc2 := 53) X dX3_readTest_52 rfl rfl ?_
          refine s_ldcS (j := 6) (pc2 := 55) X dX3_readTest_53 rfl rfl ?_
          refine s_callVZ (d2 := d - 1) (As := [vS C.1 6]) (st := []) (pc2 := 58) X dX3_readTest_55 rfl ml_RX3_58 im_X6_takeWord se_X6_takeWord kX6 rfl (c_X6_takeWord (d - 1) (by omega) C.1 C.2.2.1 l1 6) hy_X6_takeWord rfl rfl hf hlo (st_room (Nat.le_of_ble_eq_true rfl)) hcs (fun v2 hv2 => ?_)
          refine s_ifeq (tgt := 83) X dX3_readTest_58 (by decide) rfl hv2 ?_ ?_
          · refine s_iconst (n := 0) (pc2 := 84) X dX3_readTest_83 rfl ?_
            refine s_istore (pc2 := 86) X dX3_readTest_84 rfl (by decide) rfl rfl cat1_I (inI_c 0 rfl) (fun w3 hw3 => ?_)
            refine s_sub (lv2 := [(0, vR C.1.1 l0), (1, vR C.1.1 l1), (2, vI l2), (3, vI l3), (4, vI w3), (5, vI l5)]) [1, 2, 3, 4, 0, 5] rfl ?_
            exact z_X3_readTest_L86 d hd K X r_readFact hr_readFact (m_X3_readTest_L14 r_readFact n) ih l0 l1 l2 l3 w3 l5 h2 h3 hw3 h5
          · refine s_iload_n (j := 3) (pc2 := 62) X dX3_readTest_61 rfl rfl ?_
            refine s_ifeq (tgt := 72) X dX3_readTest_62 (by decide) rfl h3 ?_ ?_
            · refine s_sub (lv2 := [(0, vR C.1.1 l0), (1, vR C.1.1 l1), (2, vI l2), (4, vI l4), (5, vI l5)]) [0, 1, 2, 4, 5] rfl ?_
              exact z_X3_readTest_L72 d hd K X r_readFact hr_readFact (m_X3_readTest_L14 r_readFact n) ih l0 l1 l2 l4 l5 h2 h4 h5
            · refine s_aload_n (j := 0) (pc2 := 66) X dX3_readTest_65 rfl rfl ?_
              refine s_bipush (n := 124) (pc2 := 68) X dX3_readTest_66 rfl rfl ?_
              refine s_iconst (n := 0) (pc2 := 69) X dX3_readTest_68 rfl ?_
              refine s_callVV (d2 := d - 1) (As := [vI 124, vI 0]) (st := []) (pc2 := 72) X dX3_readTest_69 rfl ml_RX3_82 im_X3_emit se_X3_emit kX3 rfl (c_X3_emit (d - 1) (by omega) C.1 C.2.2.1 l0 124 0 (inI_c 124 rfl) (inI_c 0 rfl)) hy_X3_emit rfl rfl hf hlo (st_room (Nat.le_of_ble_eq_true rfl)) hcs (fun _ => ?_)
              refine s_sub (lv2 := [(0, vR C.1.1 l0), (1, vR C.1.1 l1), (2, vI l2), (4, vI l4), (5, vI l5)]) [0, 1, 2, 4, 5] rfl ?_
              exact z_X3_readTest_L72 d hd K X r_readFact hr_readFact (m_X3_readTest_L14 r_readFact n) ih l0 l1 l2 l4 l5 h2 h4 h5
        · refine s_aload_n (j := 0) (pc2 := 37) X dX3_readTest_36 rfl rfl ?_
          refine s_aload_n (j := 1) (pc2 := 38) X dX3_readTest_37 rfl rfl ?_
          refine s_iload_n (j := 2) (pc2 := 39) X dX3_readTest_38 rfl rfl ?_
          refine s_callVV (d2 := d - 1) (As := [vR C.1.1 l1, vI l2]) (st := []) (pc2 := 42) X dX3_readTest_39 rfl ml_RX3_77 im_X3_readFact se_X3_readFact kX3 rfl (hr_readFact l0 l1 l2 h2) hy_X3_readFact rfl rfl hf hlo (st_room (Nat.le_of_ble_eq_true rfl)) hcs (fun _ => ?_)
          refine s_aload_n (j := 0) (pc2 := 43) X dX3_readTest_42 rfl rfl ?_
          refine s_bipush (n := 38) (pc2 := 45) X dX3_readTest_43 rfl rfl ?_
          refine s_iconst (n := 0) (pc2 := 46) X dX3_readTest_45 rfl ?_
          refine s_callVV (d2 := d - 1) (As := [vI 38, vI 0]) (st := []) (pc2 := 49) X dX3_readTest_46 rfl ml_RX3_82 im_X3_emit se_X3_emit kX3 rfl (c_X3_emit (d - 1) (by omega) C.1 C.2.2.1 l0 38 0 (inI_c 38 rfl) (inI_c 0 rfl)) hy_X3_emit rfl rfl hf hlo (st_room (Nat.le_of_ble_eq_true rfl)) hcs (fun _ => ?_)
          refine s_goto (pc2 := 86) X dX3_readTest_49 (by decide) ?_
          exact z_X3_readTest_L86 d hd K X r_readFact hr_readFact (m_X3_readTest_L14 r_readFact n) ih l0 l1 l2 l3 l4 l5 h2 h3 h4 h5
set_option maxRecDepth 4000 in
set_option maxHeartbeats 20000000 in
theorem z_X3_readTest (d : Nat) (hd : 8 ≤ d) {C : hCx} (K : hCtx C.1 C.2.2.1 d 0 0 "readTest" C) (X : hOK C cX3_readTest RX3 6 none) (r_readFact : Nat → Nat → Int → hM) (hr_readFact : ∀ (l0 : Nat) (l1 : Nat) (l2 : Int), inI l2 → hMet C.1 C.2.2.1 yX3_readFact cX3_readFact 5 none (d - 1) 0 0 [vR C.1.1 l0, vR C.1.1 l1, vI l2] (r_readFact l0 l1 l2)) (l0 : Nat) (l1 : Nat) (l2 : Int) (h2 : inI l2) : hSim C none 0 0 6 0 [(0, vR C.1.1 l0), (1, vR C.1.1 l1), (2, vI l2)] [] 0 0 (m_X3_readTest r_readFact l0 l1 l2) := by
  obtain ⟨⟨hf, hlo⟩, ⟨hc1, hc2⟩, hf1, hl1⟩ := K_room K (by omega)
  have hcs : 0 ≤ C.2.2.2.2.1.cells ∧ 0 ≤ C.2.2.2.2.1.slots := ⟨Nat.zero_le _, Nat.zero_le _⟩
  unfold m_X3_readTest
  refine s_aload_n (j := 0) (pc2 := 1) X dX3_readTest_0 rfl rfl ?_
  refine s_aload_n (j := 1) (pc2 := 2) X dX3_readTest_1 rfl rfl ?_
  refine s_iload_n (j := 2) (pc2 := 3) X dX3_readTest_2 rfl rfl ?_
  refine s_callVV (d2 := d - 1) (As := [vR C.1.1 l1, vI l2]) (st := []) (pc2 := 6) X dX3_readTest_3 rfl ml_RX3_77 im_X3_readFact se_X3_readFact kX3 rfl (hr_readFact l0 l1 l2 h2) hy_X3_readFact rfl rfl hf hlo (st_room (Nat.le_of_ble_eq_true rfl)) hcs (fun _ => ?_)
  refine s_iconst (n := 0) (pc2 := 7) X dX3_readTest_6 rfl ?_
  refine s_istore_n (pc2 := 8) X dX3_readTest_7 rfl (by decide) rfl rfl cat1_I (inI_c 0 rfl) (fun w1 hw1 => ?_)
  refine s_iconst (n := 1) (pc2 := 9) X dX3_readTest_8 rfl ?_
  refine s_istore (pc2 := 11) X dX3_readTest_9 rfl (by decide) rfl rfl cat1_I (inI_c 1 rfl) (fun w2 hw2 => ?_)
  refine s_iconst (n := 0) (pc2 := 12) X dX3_readTest_11 rfl ?_
  refine s_istore (pc2 := 14) X dX3_readTest_12 rfl (by decide) rfl rfl cat1_I (inI_c 0 rfl) (fun w3 hw3 => ?_)
  refine s_sub (lv2 := [(0, vR C.1.1 l0), (1, vR C.1.1 l1), (2, vI l2), (3, vI w1), (4, vI w2), (5, vI w3)]) [3, 4, 5, 2, 1, 0] rfl ?_
  exact z_X3_readTest_L14 d hd K X r_readFact hr_readFact 1000000000 l0 l1 l2 w1 w2 w3 h2 hw1 hw2 hw3
theorem c_X3_readTest (d : Nat) (hd : 8 ≤ d) (G : hG) (l : Launch) (r_readFact : Nat → Nat → Int → hM) (hr_readFact : ∀ (l0 : Nat) (l1 : Nat) (l2 : Int), inI l2 → hMet G l yX3_readFact cX3_readFact 5 none (d - 1) 0 0 [vR G.1 l0, vR G.1 l1, vI l2] (r_readFact l0 l1 l2)) (l0 : Nat) (l1 : Nat) (l2 : Int) (h2 : inI l2) : hMet G l yX3_readTest cX3_readTest 6 none d 0 0 [vR G.1 l0, vR G.1 l1, vI l2] (m_X3_readTest r_readFact l0 l1 l2) := by
  refine hMet.of (lv := [(0, vR G.1 l0), (1, vR G.1 l1), (2, vI l2)]) (by decide +kernel) (by simp [lg_sl, vR_cat, vI_cat, vL_cat, vS_cat2, vT_cat2]) (by simp [lv_args, vR_cat, vI_cat, vL_cat, vS_cat2, vT_cat2]) (fun C K X => ?_)
  obtain ⟨rfl, rfl, K⟩ := K
  exact z_X3_readTest d hd ⟨rfl, rfl, K⟩ X r_readFact hr_readFact l0 l1 l2 h2
def m_X3_readSign_L113 (l2 : Int) : hM :=
  hret l2
def m_X3_readSign_L112 (s0 : Int) : hM :=
  hret s0
def m_X3_readSign_L45 (l0 : Nat) (l1 : Nat) (l2 : Int) (l3 : Int) : hM :=
  hcallV 3 l0 (m_X3_countPart l0 l1 l3) fun _ =>
  hpI 6 l1 2 ((w32 (l3 + 1))) <|
  hif (l2 = 61) (
m_X3_readSign_L113 l2) (
hgI 6 l1 2 fun v1 =>
  hgI 6 l1 1 fun v2 =>
  hif (v1 ≥ v2) (
m_X3_readSign_L113 l2) (
hgR 6 l1 0 fun v3 =>
  hgI 6 l1 2 fun v4 =>
  haI 22 v3 v4 fun v5 =>
  hif (v5 ≠ 61) (
m_X3_readSign_L113 l2) (
hgI 6 l1 2 fun v6 =>
  hpI 6 l1 2 ((w32 (v6 + 1))) <|
  hif (l2 ≠ 60) (
m_X3_readSign_L112 103) (
m_X3_readSign_L112 108))))
def m_X3_readSign (l0 : Nat) (l1 : Nat) : hM :=
  hgI 6 l1 4 fun v1 =>
  hif (v1 = 0) (
hcallV 6 l1 (m_X6_next l1) fun v2 =>
  hlet v2 fun (w3 : Int) =>
  hgI 6 l1 2 fun v4 =>
  hlet v4 fun (w5 : Int) =>
  hif (w3 = 60) (
m_X3_readSign_L45 l0 l1 w3 w5) (
hif (w3 = 61) (
m_X3_readSign_L45 l0 l1 w3 w5) (
hif (w3 = 62) (
m_X3_readSign_L45 l0 l1 w3 w5) (
hcallV 6 l1 (m_X6_fail l1 w5 0) fun _ =>
  hret ((-1)))))) (
hret ((-1)))
set_option maxRecDepth 4000 in
theorem z_X3_readSign_L113 (d : Nat) (hd : 3 ≤ d) {C : hCx} (K : hCtx C.1 C.2.2.1 d 0 0 "readSign" C) (X : hOK C cX3_readSign RX3 4 (some .int)) (l2 : Int) (h2 : inI l2) : hSim C (some .int) 0 0 4 113 [(2, vI l2)] [] 0 0 (m_X3_readSign_L113 l2) := by
  obtain ⟨⟨hf, hlo⟩, ⟨hc1, hc2⟩, hf1, hl1⟩ := K_room K (by omega)
  have hcs : 0 ≤ C.2.2.2.2.1.cells ∧ 0 ≤ C.2.2.2.2.1.slots := ⟨Nat.zero_le _, Nat.zero_le _⟩
  unfold m_X3_readSign_L113
  refine s_iload_n (j := 0) (pc2 := 114) X dX3_readSign_113 rfl rfl ?_
  exact s_iret X dX3_readSign_114 h2
set_option maxRecDepth 4000 in
theorem z_X3_readSign_L112 (d : Nat) (hd : 3 ≤ d) {C : hCx} (K : hCtx C.1 C.2.2.1 d 0 0 "readSign" C) (X : hOK C cX3_readSign RX3 4 (some .int)) (s0 : Int) (g0 : inI s0) : hSim C (some .int) 0 0 4 112 [] [vI s0] 0 0 (m_X3_readSign_L112 s0) := by
  obtain ⟨⟨hf, hlo⟩, ⟨hc1, hc2⟩, hf1, hl1⟩ := K_room K (by omega)
  have hcs : 0 ≤ C.2.2.2.2.1.cells ∧ 0 ≤ C.2.2.2.2.1.slots := ⟨Nat.zero_le _, Nat.zero_le _⟩
  unfold m_X3_readSign_L112
  exact s_iret X dX3_readSign_112 g0
set_option maxRecDepth 4000 in
theorem z_X3_readSign_L45 (d : Nat) (hd : 3 ≤ d) {C : hCx} (K : hCtx C.1 C.2.2.1 d 0 0 "readSign" C) (X : hOK C cX3_readSign RX3 4 (some .int)) (l0 : Nat) (l1 : Nat) (l2 : Int) (l3 : Int) (h2 : inI l2) (h3 : inI l3) : hSim C (some .int) 0 0 4 45 [(0, vR C.1.1 l0), (1, vR C.1.1 l1), (2, vI l2), (3, vI l3)] [] 0 0 (m_X3_readSign_L45 l0 l1 l2 l3) := by
  obtain ⟨⟨hf, hlo⟩, ⟨hc1, hc2⟩, hf1, hl1⟩ := K_room K (by omega)
  have hcs : 0 ≤ C.2.2.2.2.1.cells ∧ 0 ≤ C.2.2.2.2.1.slots := ⟨Nat.zero_le _, Nat.zero_le _⟩
  unfold m_X3_readSign_L45
  refine s_aload_n (j := 0) (pc2 := 46) X dX3_readSign_45 rfl rfl ?_
  refine s_aload_n (j := 1) (pc2 := 47) X dX3_readSign_46 rfl rfl ?_
  refine s_iload_n (j := 3) (pc2 := 48) X dX3_readSign_47 rfl rfl ?_
  refine s_callVV (d2 := d - 1) (As := [vR C.1.1 l1, vI l3]) (st := []) (pc2 := 51) X dX3_readSign_48 rfl ml_RX3_110 im_X3_countPart se_X3_countPart kX3 rfl (c_X3_countPart (d - 1) (by omega) C.1 C.2.2.1 l0 l1 l3 h3) hy_X3_countPart rfl rfl hf hlo (st_room (Nat.le_of_ble_eq_true rfl)) hcs (fun _ => ?_)
  refine s_aload_n (j := 1) (pc2 := 52) X dX3_readSign_51 rfl rfl ?_
  refine s_iload_n (j := 3) (pc2 := 53) X dX3_readSign_52 rfl rfl ?_
  refine s_iconst (n := 1) (pc2 := 54) X dX3_readSign_53 rfl ?_
  refine s_iadd (pc2 := 55) X dX3_readSign_54 rfl ?_
  refine s_putI (pc2 := 58) X dX3_readSign_55 rfl fl_RX3_99 (Or.inl rfl) rfl (w32_in _) ?_
  refine s_iload_n (j := 2) (pc2 := 59) X dX3_readSign_58 rfl rfl ?_
  refine s_bipush (n := 61) (pc2 := 61) X dX3_readSign_59 rfl rfl ?_
  refine s_iceq (tgt := 113) X dX3_readSign_61 (by decide) rfl h2 (inI_c 61 rfl) ?_ ?_
  · refine s_sub (lv2 := [(2, vI l2)]) [2] rfl ?_
    exact z_X3_readSign_L113 d hd K X l2 h2
  · refine s_aload_n (j := 1) (pc2 := 65) X dX3_readSign_64 rfl rfl ?_
    refine s_getI (pc2 := 68) X dX3_readSign_65 rfl fl_RX3_99 rfl (fun v1 hv1 => ?_)
    refine s_aload_n (j := 1) (pc2 := 69) X dX3_readSign_68 rfl rfl ?_
    refine s_getI (pc2 := 72) X dX3_readSign_69 rfl fl_RX3_113 rfl (fun v2 hv2 => ?_)
    refine s_icge (tgt := 113) X dX3_readSign_72 (by decide) rfl hv1 hv2 ?_ ?_
    · refine s_sub (lv2 := [(2, vI l2)]) [2] rfl ?_
      exact z_X3_readSign_L113 d hd K X l2 h2
    · refine s_aload_n (j := 1) (pc2 := 76) X dX3_readSign_75 rfl rfl ?_
      refine s_getR (pc2 := 79) X dX3_readSign_76 rfl fl_RX3_116 rfl (fun v3 => ?_)
      refine s_aload_n (j := 1) (pc2 := 80) X dX3_readSign_79 rfl rfl ?_
      refine s_getI (pc2 := 83) X dX3_readSign_80 rfl fl_RX3_99 rfl (fun v4 hv4 => ?_)
      refine s_bald (pc2 := 84) X dX3_readSign_83 rfl (fun v5 hv5 => ?_)
      refine s_bipush (n := 61) (pc2 := 86) X dX3_readSign_84 rfl rfl ?_
      refine s_icne (tgt := 113) X dX3_readSign_86 (by decide) rfl hv5 (inI_c 61 rfl) ?_ ?_
      · refine s_sub (lv2 := [(2, vI l2)]) [2] rfl ?_
        exact z_X3_readSign_L113 d hd K X l2 h2
      · refine s_aload_n (j := 1) (pc2 := 90) X dX3_readSign_89 rfl rfl ?_
        refine s_dup (pc2 := 91) X dX3_readSign_90 rfl (vR_cat _ _) ?_
        refine s_getI (pc2 := 94) X dX3_readSign_91 rfl fl_RX3_99 rfl (fun v6 hv6 => ?_)
        refine s_iconst (n := 1) (pc2 := 95) X dX3_readSign_94 rfl ?_
        refine s_iadd (pc2 := 96) X dX3_readSign_95 rfl ?_
        refine s_putI (pc2 := 99) X dX3_readSign_96 rfl fl_RX3_99 (Or.inl rfl) rfl (w32_in _) ?_
        refine s_iload_n (j := 2) (pc2 := 100) X dX3_readSign_99 rfl rfl ?_
        refine s_bipush (n := 60) (pc2 := 102) X dX3_readSign_100 rfl rfl ?_
        refine s_icne (tgt := 110) X dX3_readSign_102 (by decide) rfl h2 (inI_c 60 rfl) ?_ ?_
        · refine s_bipush (n := 103) (pc2 := 112) X dX3_readSign_110 rfl rfl ?_
          refine s_sub (lv2 := []) [] rfl ?_
          exact z_X3_readSign_L112 d hd K X 103 (inI_c 103 rfl)
        · refine s_bipush (n := 108) (pc2 := 107) X dX3_readSign_105 rfl rfl ?_
          refine s_goto (pc2 := 112) X dX3_readSign_107 (by decide) ?_
          refine s_sub (lv2 := []) [] rfl ?_
          exact z_X3_readSign_L112 d hd K X 108 (inI_c 108 rfl)
set_option maxRecDepth 4000 in
set_option maxHeartbeats 20000000 in
theorem z_X3_readSign (d : Nat) (hd : 3 ≤ d) {C : hCx} (K : hCtx C.1 C.2.2.1 d 0 0 "readSign" C) (X : hOK C cX3_readSign RX3 4 (some .int)) (l0 : Nat) (l1 : Nat) : hSim C (some .int) 0 0 4 0 [(0, vR C.1.1 l0), (1, vR C.1.1 l1)] [] 0 0 (m_X3_readSign l0 l1) := by
  obtain ⟨⟨hf, hlo⟩, ⟨hc1, hc2⟩, hf1, hl1⟩ := K_room K (by omega)
  have hcs : 0 ≤ C.2.2.2.2.1.cells ∧ 0 ≤ C.2.2.2.2.1.slots := ⟨Nat.zero_le _, Nat.zero_le _⟩
  unfold m_X3_readSign
  refine s_aload_n (j := 1) (pc2 := 1) X dX3_readSign_0 rfl rfl ?_
  refine s_getI (pc2 := 4) X dX3_readSign_1 rfl fl_RX3_87 rfl (fun v1 hv1 => ?_)
  refine s_ifeq (tgt := 9) X dX3_readSign_4 (by decide) rfl hv1 ?_ ?_
  · refine s_aload_n (j := 1) (pc2 := 10) X dX3_readSign_9 rfl rfl ?_
    refine s_callVI (d2 := d - 1) (As := []) (st := []) (pc2 := 13) X dX3_readSign_10 rfl ml_RX3_90 im_X6_next se_X6_next kX6 rfl (c_X6_next (d - 1) (by omega) C.1 C.2.2.1 l1) hy_X6_next rfl rfl hf hlo (st_room (Nat.le_of_ble_eq_true rfl)) hcs (fun v2 hv2 => ?_)
    refine s_istore_n (pc2 := 14) X dX3_readSign_13 rfl (by decide) rfl rfl cat1_R hv2 (fun w3 hw3 => ?_)
    refine s_aload_n (j := 2) (pc2 := 15) X dX3_readSign_14 rfl rfl ?_
    refine s_getI (pc2 := 18) X dX3_readSign_15 rfl fl_RX3_99 rfl (fun v4 hv4 => ?_)
    refine s_istore_n (pc2 := 19) X dX3_readSign_18 rfl (by decide) rfl rfl cat1_I hv4 (fun w5 hw5 => ?_)
    refine s_iload_n (j := 1) (pc2 := 20) X dX3_readSign_19 rfl rfl ?_
    refine s_bipush (n := 60) (pc2 := 22) X dX3_readSign_20 rfl rfl ?_
    refine s_iceq (tgt := 45) X dX3_readSign_22 (by decide) rfl hw3 (inI_c 60 rfl) ?_ ?_
    · refine s_sub (lv2 := [(0, vR C.1.1 l0), (1, vR C.1.1 l1), (2, vI w3), (3, vI w5)]) [2, 3, 1, 0] rfl ?_
      exact z_X3_readSign_L45 d hd K X l0 l1 w3 w5 hw3 hw5
    · refine s_iload_n (j := 1) (pc2 := 26) X dX3_readSign_25 rfl rfl ?_
      refine s_bipush (n := 61) (pc2 := 28) X dX3_readSign_26 rfl rfl ?_
      refine s_iceq (tgt := 45) X dX3_readSign_28 (by decide) rfl hw3 (inI_c 61 rfl) ?_ ?_
      · refine s_sub (lv2 := [(0, vR C.1.1 l0), (1, vR C.1.1 l1), (2, vI w3), (3, vI w5)]) [2, 3, 1, 0] rfl ?_
        exact z_X3_readSign_L45 d hd K X l0 l1 w3 w5 hw3 hw5
      · refine s_iload_n (j := 1) (pc2 := 32) X dX3_readSign_31 rfl rfl ?_
        refine s_bipush (n := 62) (pc2 := 34) X dX3_readSign_32 rfl rfl ?_
        refine s_iceq (tgt := 45) X dX3_readSign_34 (by decide) rfl hw3 (inI_c 62 rfl) ?_ ?_
        · refine s_sub (lv2 := [(0, vR C.1.1 l0), (1, vR C.1.1 l1), (2, vI w3), (3, vI w5)]) [2, 3, 1, 0] rfl ?_
          exact z_X3_readSign_L45 d hd K X l0 l1 w3 w5 hw3 hw5
        · refine s_aload_n (j := 3) (pc2 := 38) X dX3_readSign_37 rfl rfl ?_
          refine s_iload_n (j := 0) (pc2 := 39) X dX3_readSign_38 rfl rfl ?_
          refine s_iconst (n := 0) (pc2 := 40) X dX3_readSign_39 rfl ?_
          refine s_callVV (d2 := d - 1) (As := [vI w5, vI 0]) (st := []) (pc2 := 43) X dX3_readSign_40 rfl ml_RX3_69 im_X6_fail se_X6_fail kX6 rfl (c_X6_fail (d - 1) (by omega) C.1 C.2.2.1 l1 w5 0 hw5 (inI_c 0 rfl)) hy_X6_fail rfl rfl hf hlo (st_room (Nat.le_of_ble_eq_true rfl)) hcs (fun _ => ?_)
          refine s_iconst (n := (-1)) (pc2 := 44) X dX3_readSign_43 rfl ?_
          exact s_iret X dX3_readSign_44 (inI_c (-1) rfl)
  · refine s_iconst (n := (-1)) (pc2 := 8) X dX3_readSign_7 rfl ?_
    exact s_iret X dX3_readSign_8 (inI_c (-1) rfl)
theorem c_X3_readSign (d : Nat) (hd : 3 ≤ d) (G : hG) (l : Launch) (l0 : Nat) (l1 : Nat) : hMet G l yX3_readSign cX3_readSign 4 (some .int) d 0 0 [vR G.1 l0, vR G.1 l1] (m_X3_readSign l0 l1) := by
  refine hMet.of (lv := [(0, vR G.1 l0), (1, vR G.1 l1)]) (by decide +kernel) (by simp [lg_sl, vR_cat, vI_cat, vL_cat, vS_cat2, vT_cat2]) (by simp [lv_args, vR_cat, vI_cat, vL_cat, vS_cat2, vT_cat2]) (fun C K X => ?_)
  obtain ⟨rfl, rfl, K⟩ := K
  exact z_X3_readSign d hd ⟨rfl, rfl, K⟩ X l0 l1
def m_X3_readFact_L142 (r_readTest : Nat → Nat → Int → hM) (r_readFact : Nat → Nat → Int → hM) : hM :=
  hret 0
def m_X3_readFact_L54 (r_readTest : Nat → Nat → Int → hM) (r_readFact : Nat → Nat → Int → hM) (l0 : Nat) (l1 : Nat) (l2 : Int) : hM :=
  hcallV 6 l1 (m_X6_takeSign l1 91) fun v1 =>
  hif (v1 = 0) (
hcallV 6 l1 (m_X6_takeWord l1 4) fun v2 =>
  hif (v2 = 0) (
hcallV 3 l0 (m_X3_readSum l0 l1) fun _ =>
  hcallV 3 l0 (m_X3_readSign l0 l1) fun v3 =>
  hlet v3 fun (w4 : Int) =>
  hcallV 3 l0 (m_X3_readSum l0 l1) fun _ =>
  hcallV 3 l0 (m_X3_emit l0 w4 0) fun _ =>
  m_X3_readFact_L142 r_readTest r_readFact) (
hcallV 3 l0 (r_readFact l0 l1 ((w32 (l2 + 1)))) fun _ =>
  hcallV 3 l0 (m_X3_emit l0 2 0) fun _ =>
  m_X3_readFact_L142 r_readTest r_readFact)) (
hcallV 3 l0 (r_readTest l0 l1 ((w32 (l2 + 1)))) fun _ =>
  hcallV 6 l1 (m_X6_takeSign l1 93) fun v5 =>
  hif (v5 ≠ 0) (
m_X3_readFact_L142 r_readTest r_readFact) (
hgI 6 l1 2 fun v6 =>
  hcallV 6 l1 (m_X6_fail l1 v6 0) fun _ =>
  m_X3_readFact_L142 r_readTest r_readFact))
def m_X3_readFact_L36 (r_readTest : Nat → Nat → Int → hM) (r_readFact : Nat → Nat → Int → hM) (l0 : Nat) (l1 : Nat) (l2 : Int) : hM :=
  hif (l2 < 10) (
m_X3_readFact_L54 r_readTest r_readFact l0 l1 l2) (
hgI 6 l1 2 fun v1 =>
  hcallV 6 l1 (m_X6_fail l1 v1 2) fun _ =>
  m_X3_readFact_L142 r_readTest r_readFact)
def m_X3_readFact_L22 (r_readTest : Nat → Nat → Int → hM) (r_readFact : Nat → Nat → Int → hM) (l0 : Nat) (l1 : Nat) (l2 : Int) (s0 : Int) : hM :=
  hlet s0 fun (w1 : Int) =>
  hif (w1 ≠ 0) (
m_X3_readFact_L36 r_readTest r_readFact l0 l1 l2) (
hcallV 6 l1 (m_X6_seesWord l1 4) fun v2 =>
  hif (v2 = 0) (
m_X3_readFact_L54 r_readTest r_readFact l0 l1 l2) (
m_X3_readFact_L36 r_readTest r_readFact l0 l1 l2))
def m_X3_readFact (r_readTest : Nat → Nat → Int → hM) (r_readFact : Nat → Nat → Int → hM) (l0 : Nat) (l1 : Nat) (l2 : Int) : hM :=
  hgI 6 l1 4 fun v1 =>
  hif (v1 = 0) (
hcallV 6 l1 (m_X6_next l1) fun v2 =>
  hif (v2 ≠ 91) (
m_X3_readFact_L22 r_readTest r_readFact l0 l1 l2 0) (
m_X3_readFact_L22 r_readTest r_readFact l0 l1 l2 1)) (
hret 0)
set_option maxRecDepth 4000 in
theorem z_X3_readFact_L142 (d : Nat) (hd : 9 ≤ d) {C : hCx} (K : hCtx C.1 C.2.2.1 d 0 0 "readFact" C) (X : hOK C cX3_readFact RX3 5 none) (r_readTest : Nat → Nat → Int → hM) (r_readFact : Nat → Nat → Int → hM) (hr_readTest : ∀ (l0 : Nat) (l1 : Nat) (l2 : Int), inI l2 → hMet C.1 C.2.2.1 yX3_readTest cX3_readTest 6 none (d - 1) 0 0 [vR C.1.1 l0, vR C.1.1 l1, vI l2] (r_readTest l0 l1 l2)) (hr_readFact : ∀ (l0 : Nat) (l1 : Nat) (l2 : Int), inI l2 → hMet C.1 C.2.2.1 yX3_readFact cX3_readFact 5 none (d - 1) 0 0 [vR C.1.1 l0, vR C.1.1 l1, vI l2] (r_readFact l0 l1 l2)) : hSim C none 0 0 5 142 [] [] 0 0 (m_X3_readFact_L142 r_readTest r_readFact) := by
  obtain ⟨⟨hf, hlo⟩, ⟨hc1, hc2⟩, hf1, hl1⟩ := K_room K (by omega)
  have hcs : 0 ≤ C.2.2.2.2.1.cells ∧ 0 ≤ C.2.2.2.2.1.slots := ⟨Nat.zero_le _, Nat.zero_le _⟩
  unfold m_X3_readFact_L142
  exact s_ret X dX3_readFact_142
set_option maxRecDepth 4000 in
theorem z_X3_readFact_L54 (d : Nat) (hd : 9 ≤ d) {C : hCx} (K : hCtx C.1 C.2.2.1 d 0 0 "readFact" C) (X : hOK C cX3_readFact RX3 5 none) (r_readTest : Nat → Nat → Int → hM) (r_readFact : Nat → Nat → Int → hM) (hr_readTest : ∀ (l0 : Nat) (l1 : Nat) (l2 : Int), inI l2 → hMet C.1 C.2.2.1 yX3_readTest cX3_readTest 6 none (d - 1) 0 0 [vR C.1.1 l0, vR C.1.1 l1, vI l2] (r_readTest l0 l1 l2)) (hr_readFact : ∀ (l0 : Nat) (l1 : Nat) (l2 : Int), inI l2 → hMet C.1 C.2.2.1 yX3_readFact cX3_readFact 5 none (d - 1) 0 0 [vR C.1.1 l0, vR C.1.1 l1, vI l2] (r_readFact l0 l1 l2)) (l0 : Nat) (l1 : Nat) (l2 : Int) (h2 : inI l2) : hSim C none 0 0 5 54 [(0, vR C.1.1 l0), (1, vR C.1.1 l1), (2, vI l2)] [] 0 0 (m_X3_readFact_L54 r_readTest r_readFact l0 l1 l2) := by
  obtain ⟨⟨hf, hlo⟩, ⟨hc1, hc2⟩, hf1, hl1⟩ := K_room K (by omega)
  have hcs : 0 ≤ C.2.2.2.2.1.cells ∧ 0 ≤ C.2.2.2.2.1.slots := ⟨Nat.zero_le _, Nat.zero_le _⟩
  unfold m_X3_readFact_L54
  refine s_aload_n (j := 1) (pc2 := 55) X dX3_readFact_54 rfl rfl ?_
  refine s_bipush (n := 91) (pc2 := 57) X dX3_readFact_55 rfl rfl ?_
  refine s_callVZ (d2 := d - 1) (As := [vI 91]) (st := []) (pc2 := 60) X dX3_readFact_57 rfl ml_RX3_102 im_X6_takeSign se_X6_takeSign kX6 rfl (c_X6_takeSign (d - 1) (by omega) C.1 C.2.2.1 l1 91 (inI_c 91 rfl)) hy_X6_takeSign rfl rfl hf hlo (st_room (Nat.le_of_ble_eq_true rfl)) hcs (fun v1 hv1 => ?_)
  refine s_ifeq (tgt := 92) X dX3_readFact_60 (by decide) rfl hv1 ?_ ?_
  · refine s_aload_n (j := 1) (pc2 := 93) X dX3_readFact_92 rfl rfl ?_
    refine s_ldcS (j := 4) (pc2 := 95) X dX3_readFact_93 rfl rfl ?_
    refine s_callVZ (d2 := d - 1) (As := [vS C.1 4]) (st := []) (pc2 := 98) X dX3_readFact_95 rfl ml_RX3_58 im_X6_takeWord se_X6_takeWord kX6 rfl (c_X6_takeWord (d - 1) (by omega) C.1 C.2.2.1 l1 4) hy_X6_takeWord rfl rfl hf hlo (st_room (Nat.le_of_ble_eq_true rfl)) hcs (fun v2 hv2 => ?_)
    refine s_ifeq (tgt := 118) X dX3_readFact_98 (by decide) rfl hv2 ?_ ?_
    · refine s_aload_n (j := 0) (pc2 := 119) X dX3_readFact_118 rfl rfl ?_
      refine s_aload_n (j := 1) (pc2 := 120) X dX3_readFact_119 rfl rfl ?_
      refine s_callVV (d2 := d - 1) (As := [vR C.1.1 l1]) (st := []) (pc2 := 123) X dX3_readFact_120 rfl ml_RX3_52 im_X3_readSum se_X3_readSum kX3 rfl (c_X3_readSum (d - 1) (by omega) C.1 C.2.2.1 l0 l1) hy_X3_readSum rfl rfl hf hlo (st_room (Nat.le_of_ble_eq_true rfl)) hcs (fun _ => ?_)
      refine s_aload_n (j := 0) (pc2 := 124) X dX3_readFact_123 rfl rfl ?_
      refine s_aload_n (j := 1) (pc2 := 125) X dX3_readFact_124 rfl rfl ?_
      refine s_callVI (d2 := d - 1) (As := [vR C.1.1 l1]) (st := []) (pc2 := 128) X dX3_readFact_125 rfl ml_RX3_106 im_X3_readSign se_X3_readSign kX3 rfl (c_X3_readSign (d - 1) (by omega) C.1 C.2.2.1 l0 l1) hy_X3_readSign rfl rfl hf hlo (st_room (Nat.le_of_ble_eq_true rfl)) hcs (fun v3 hv3 => ?_)
      refine s_istore (pc2 := 130) X dX3_readFact_128 rfl (by decide) rfl rfl cat1_N hv3 (fun w4 hw4 => ?_)
      refine s_aload_n (j := 1) (pc2 := 131) X dX3_readFact_130 rfl rfl ?_
      refine s_aload_n (j := 2) (pc2 := 132) X dX3_readFact_131 rfl rfl ?_
      refine s_callVV (d2 := d - 1) (As := [vR C.1.1 l1]) (st := []) (pc2 := 135) X dX3_readFact_132 rfl ml_RX3_52 im_X3_readSum se_X3_readSum kX3 rfl (c_X3_readSum (d - 1) (by omega) C.1 C.2.2.1 l0 l1) hy_X3_readSum rfl rfl hf hlo (st_room (Nat.le_of_ble_eq_true rfl)) hcs (fun _ => ?_)
      refine s_aload_n (j := 1) (pc2 := 136) X dX3_readFact_135 rfl rfl ?_
      refine s_iload (j := 0) (pc2 := 138) X dX3_readFact_136 rfl rfl ?_
      refine s_iconst (n := 0) (pc2 := 139) X dX3_readFact_138 rfl ?_
      refine s_callVV (d2 := d - 1) (As := [vI w4, vI 0]) (st := []) (pc2 := 142) X dX3_readFact_139 rfl ml_RX3_82 im_X3_emit se_X3_emit kX3 rfl (c_X3_emit (d - 1) (by omega) C.1 C.2.2.1 l0 w4 0 hw4 (inI_c 0 rfl)) hy_X3_emit rfl rfl hf hlo (st_room (Nat.le_of_ble_eq_true rfl)) hcs (fun _ => ?_)
      refine s_sub (lv2 := []) [] rfl ?_
      exact z_X3_readFact_L142 d hd K X r_readTest r_readFact hr_readTest hr_readFact
    · refine s_aload_n (j := 0) (pc2 := 102) X dX3_readFact_101 rfl rfl ?_
      refine s_aload_n (j := 1) (pc2 := 103) X dX3_readFact_102 rfl rfl ?_
      refine s_iload_n (j := 2) (pc2 := 104) X dX3_readFact_103 rfl rfl ?_
      refine s_iconst (n := 1) (pc2 := 105) X dX3_readFact_104 rfl ?_
      refine s_iadd (pc2 := 106) X dX3_readFact_105 rfl ?_
      refine s_callVV (d2 := d - 1) (As := [vR C.1.1 l1, vI ((w32 (l2 + 1)))]) (st := []) (pc2 := 109) X dX3_readFact_106 rfl ml_RX3_77 im_X3_readFact se_X3_readFact kX3 rfl (hr_readFact l0 l1 ((w32 (l2 + 1))) (w32_in _)) hy_X3_readFact rfl rfl hf hlo (st_room (Nat.le_of_ble_eq_true rfl)) hcs (fun _ => ?_)
      refine s_aload_n (j := 0) (pc2 := 110) X dX3_readFact_109 rfl rfl ?_
      refine s_iconst (n := 2) (pc2 := 111) X dX3_readFact_110 rfl ?_
      refine s_iconst (n := 0) (pc2 := 112) X dX3_readFact_111 rfl ?_
      refine s_callVV (d2 := d - 1) (As := [vI 2, vI 0]) (st := []) (pc2 := 115) X dX3_readFact_112 rfl ml_RX3_82 im_X3_emit se_X3_emit kX3 rfl (c_X3_emit (d - 1) (by omega) C.1 C.2.2.1 l0 2 0 (inI_c 2 rfl) (inI_c 0 rfl)) hy_X3_emit rfl rfl hf hlo (st_room (Nat.le_of_ble_eq_true rfl)) hcs (fun _ => ?_)
      refine s_goto (pc2 := 142) X dX3_readFact_115 (by decide) ?_
      refine s_sub (lv2 := []) [] rfl ?_
      exact z_X3_readFact_L142 d hd K X r_readTest r_readFact hr_readTest hr_readFact
  · refine s_aload_n (j := 0) (pc2 := 64) X dX3_readFact_63 rfl rfl ?_
    refine s_aload_n (j := 1) (pc2 := 65) X dX3_readFact_64 rfl rfl ?_
    refine s_iload_n (j := 2) (pc2 := 66) X dX3_readFact_65 rfl rfl ?_
    refine s_iconst (n := 1) (pc2 := 67) X dX3_readFact_66 rfl ?_
    refine s_iadd (pc2 := 68) X dX3_readFact_67 rfl ?_
    refine s_callVV (d2 := d - 1) (As := [vR C.1.1 l1, vI ((w32 (l2 + 1)))]) (st := []) (pc2 := 71) X dX3_readFact_68 rfl ml_RX3_62 im_X3_readTest se_X3_readTest kX3 rfl (hr_readTest l0 l1 ((w32 (l2 + 1))) (w32_in _)) hy_X3_readTest rfl rfl hf hlo (st_room (Nat.le_of_ble_eq_true rfl)) hcs (fun _ => ?_)
    refine s_aload_n (j := 1) (pc2 := 72) X dX3_readFact_71 rfl rfl ?_
    refine s_bipush (n := 93) (pc2 := 74) X dX3_readFact_72 rfl rfl ?_
    refine s_callVZ (d2 := d - 1) (As := [vI 93]) (st := []) (pc2 := 77) X dX3_readFact_74 rfl ml_RX3_102 im_X6_takeSign se_X6_takeSign kX6 rfl (c_X6_takeSign (d - 1) (by omega) C.1 C.2.2.1 l1 93 (inI_c 93 rfl)) hy_X6_takeSign rfl rfl hf hlo (st_room (Nat.le_of_ble_eq_true rfl)) hcs (fun v5 hv5 => ?_)
    refine s_ifne (tgt := 142) X dX3_readFact_77 (by decide) rfl hv5 ?_ ?_
    · refine s_sub (lv2 := []) [] rfl ?_
      exact z_X3_readFact_L142 d hd K X r_readTest r_readFact hr_readTest hr_readFact
    · refine s_aload_n (j := 1) (pc2 := 81) X dX3_readFact_80 rfl rfl ?_
      refine s_aload_n (j := 1) (pc2 := 82) X dX3_readFact_81 rfl rfl ?_
      refine s_getI (pc2 := 85) X dX3_readFact_82 rfl fl_RX3_99 rfl (fun v6 hv6 => ?_)
      refine s_iconst (n := 0) (pc2 := 86) X dX3_readFact_85 rfl ?_
      refine s_callVV (d2 := d - 1) (As := [vI v6, vI 0]) (st := []) (pc2 := 89) X dX3_readFact_86 rfl ml_RX3_69 im_X6_fail se_X6_fail kX6 rfl (c_X6_fail (d - 1) (by omega) C.1 C.2.2.1 l1 v6 0 hv6 (inI_c 0 rfl)) hy_X6_fail rfl rfl hf hlo (st_room (Nat.le_of_ble_eq_true rfl)) hcs (fun _ => ?_)
      refine s_goto (pc2 := 142) X dX3_readFact_89 (by decide) ?_
      refine s_sub (lv2 := []) [] rfl ?_
      exact z_X3_readFact_L142 d hd K X r_readTest r_readFact hr_readTest hr_readFact
set_option maxRecDepth 4000 in
theorem z_X3_readFact_L36 (d : Nat) (hd : 9 ≤ d) {C : hCx} (K : hCtx C.1 C.2.2.1 d 0 0 "readFact" C) (X : hOK C cX3_readFact RX3 5 none) (r_readTest : Nat → Nat → Int → hM) (r_readFact : Nat → Nat → Int → hM) (hr_readTest : ∀ (l0 : Nat) (l1 : Nat) (l2 : Int), inI l2 → hMet C.1 C.2.2.1 yX3_readTest cX3_readTest 6 none (d - 1) 0 0 [vR C.1.1 l0, vR C.1.1 l1, vI l2] (r_readTest l0 l1 l2)) (hr_readFact : ∀ (l0 : Nat) (l1 : Nat) (l2 : Int), inI l2 → hMet C.1 C.2.2.1 yX3_readFact cX3_readFact 5 none (d - 1) 0 0 [vR C.1.1 l0, vR C.1.1 l1, vI l2] (r_readFact l0 l1 l2)) (l0 : Nat) (l1 : Nat) (l2 : Int) (h2 : inI l2) : hSim C none 0 0 5 36 [(0, vR C.1.1 l0), (1, vR C.1.1 l1), (2, vI l2)] [] 0 0 (m_X3_readFact_L36 r_readTest r_readFact l0 l1 l2) := by
  obtain ⟨⟨hf, hlo⟩, ⟨hc1, hc2⟩, hf1, hl1⟩ := K_room K (by omega)
  have hcs : 0 ≤ C.2.2.2.2.1.cells ∧ 0 ≤ C.2.2.2.2.1.slots := ⟨Nat.zero_le _, Nat.zero_le _⟩
  unfold m_X3_readFact_L36
  refine s_iload_n (j := 2) (pc2 := 37) X dX3_readFact_36 rfl rfl ?_
  refine s_bipush (n := 10) (pc2 := 39) X dX3_readFact_37 rfl rfl ?_
  refine s_iclt (tgt := 54) X dX3_readFact_39 (by decide) rfl h2 (inI_c 10 rfl) ?_ ?_
  · exact z_X3_readFact_L54 d hd K X r_readTest r_readFact hr_readTest hr_readFact l0 l1 l2 h2
  · refine s_aload_n (j := 1) (pc2 := 43) X dX3_readFact_42 rfl rfl ?_
    refine s_aload_n (j := 1) (pc2 := 44) X dX3_readFact_43 rfl rfl ?_
    refine s_getI (pc2 := 47) X dX3_readFact_44 rfl fl_RX3_99 rfl (fun v1 hv1 => ?_)
    refine s_iconst (n := 2) (pc2 := 48) X dX3_readFact_47 rfl ?_
    refine s_callVV (d2 := d - 1) (As := [vI v1, vI 2]) (st := []) (pc2 := 51) X dX3_readFact_48 rfl ml_RX3_69 im_X6_fail se_X6_fail kX6 rfl (c_X6_fail (d - 1) (by omega) C.1 C.2.2.1 l1 v1 2 hv1 (inI_c 2 rfl)) hy_X6_fail rfl rfl hf hlo (st_room (Nat.le_of_ble_eq_true rfl)) hcs (fun _ => ?_)
    refine s_goto (pc2 := 142) X dX3_readFact_51 (by decide) ?_
    refine s_sub (lv2 := []) [] rfl ?_
    exact z_X3_readFact_L142 d hd K X r_readTest r_readFact hr_readTest hr_readFact
set_option maxRecDepth 4000 in
theorem z_X3_readFact_L22 (d : Nat) (hd : 9 ≤ d) {C : hCx} (K : hCtx C.1 C.2.2.1 d 0 0 "readFact" C) (X : hOK C cX3_readFact RX3 5 none) (r_readTest : Nat → Nat → Int → hM) (r_readFact : Nat → Nat → Int → hM) (hr_readTest : ∀ (l0 : Nat) (l1 : Nat) (l2 : Int), inI l2 → hMet C.1 C.2.2.1 yX3_readTest cX3_readTest 6 none (d - 1) 0 0 [vR C.1.1 l0, vR C.1.1 l1, vI l2] (r_readTest l0 l1 l2)) (hr_readFact : ∀ (l0 : Nat) (l1 : Nat) (l2 : Int), inI l2 → hMet C.1 C.2.2.1 yX3_readFact cX3_readFact 5 none (d - 1) 0 0 [vR C.1.1 l0, vR C.1.1 l1, vI l2] (r_readFact l0 l1 l2)) (l0 : Nat) (l1 : Nat) (l2 : Int) (s0 : Int) (h2 : inI l2) (g0 : inI s0) : hSim C none 0 0 5 22 [(0, vR C.1.1 l0), (1, vR C.1.1 l1), (2, vI l2)] [vI s0] 0 0 (m_X3_readFact_L22 r_readTest r_readFact l0 l1 l2 s0) := by
  obtain ⟨⟨hf, hlo⟩, ⟨hc1, hc2⟩, hf1, hl1⟩ := K_room K (by omega)
  have hcs : 0 ≤ C.2.2.2.2.1.cells ∧ 0 ≤ C.2.2.2.2.1.slots := ⟨Nat.zero_le _, Nat.zero_le _⟩
  unfold m_X3_readFact_L22
  refine s_istore_n (pc2 := 23) X dX3_readFact_22 rfl (by decide) rfl rfl cat1_I g0 (fun w1 hw1 => ?_)
  refine s_iload_n (j := 0) (pc2 := 24) X dX3_readFact_23 rfl rfl ?_
  refine s_ifne (tgt := 36) X dX3_readFact_24 (by decide) rfl hw1 ?_ ?_
  · refine s_sub (lv2 := [(0, vR C.1.1 l0), (1, vR C.1.1 l1), (2, vI l2)]) [1, 2, 3] rfl ?_
    exact z_X3_readFact_L36 d hd K X r_readTest r_readFact hr_readTest hr_readFact l0 l1 l2 h2
  · refine s_aload_n (j := 2) (pc2 := 28) X dX3_readFact_27 rfl rfl ?_
    refine s_ldcS (j := 4) (pc2 := 30) X dX3_readFact_28 rfl rfl ?_
    refine s_callVZ (d2 := d - 1) (As := [vS C.1 4]) (st := []) (pc2 := 33) X dX3_readFact_30 rfl ml_RX3_96 im_X6_seesWord se_X6_seesWord kX6 rfl (c_X6_seesWord (d - 1) (by omega) C.1 C.2.2.1 l1 4) hy_X6_seesWord rfl rfl hf hlo (st_room (Nat.le_of_ble_eq_true rfl)) hcs (fun v2 hv2 => ?_)
    refine s_ifeq (tgt := 54) X dX3_readFact_33 (by decide) rfl hv2 ?_ ?_
    · refine s_sub (lv2 := [(0, vR C.1.1 l0), (1, vR C.1.1 l1), (2, vI l2)]) [1, 2, 3] rfl ?_
      exact z_X3_readFact_L54 d hd K X r_readTest r_readFact hr_readTest hr_readFact l0 l1 l2 h2
    · refine s_sub (lv2 := [(0, vR C.1.1 l0), (1, vR C.1.1 l1), (2, vI l2)]) [1, 2, 3] rfl ?_
      exact z_X3_readFact_L36 d hd K X r_readTest r_readFact hr_readTest hr_readFact l0 l1 l2 h2
set_option maxRecDepth 4000 in
set_option maxHeartbeats 20000000 in
theorem z_X3_readFact (d : Nat) (hd : 9 ≤ d) {C : hCx} (K : hCtx C.1 C.2.2.1 d 0 0 "readFact" C) (X : hOK C cX3_readFact RX3 5 none) (r_readTest : Nat → Nat → Int → hM) (r_readFact : Nat → Nat → Int → hM) (hr_readTest : ∀ (l0 : Nat) (l1 : Nat) (l2 : Int), inI l2 → hMet C.1 C.2.2.1 yX3_readTest cX3_readTest 6 none (d - 1) 0 0 [vR C.1.1 l0, vR C.1.1 l1, vI l2] (r_readTest l0 l1 l2)) (hr_readFact : ∀ (l0 : Nat) (l1 : Nat) (l2 : Int), inI l2 → hMet C.1 C.2.2.1 yX3_readFact cX3_readFact 5 none (d - 1) 0 0 [vR C.1.1 l0, vR C.1.1 l1, vI l2] (r_readFact l0 l1 l2)) (l0 : Nat) (l1 : Nat) (l2 : Int) (h2 : inI l2) : hSim C none 0 0 5 0 [(0, vR C.1.1 l0), (1, vR C.1.1 l1), (2, vI l2)] [] 0 0 (m_X3_readFact r_readTest r_readFact l0 l1 l2) := by
  obtain ⟨⟨hf, hlo⟩, ⟨hc1, hc2⟩, hf1, hl1⟩ := K_room K (by omega)
  have hcs : 0 ≤ C.2.2.2.2.1.cells ∧ 0 ≤ C.2.2.2.2.1.slots := ⟨Nat.zero_le _, Nat.zero_le _⟩
  unfold m_X3_readFact
  refine s_aload_n (j := 1) (pc2 := 1) X dX3_readFact_0 rfl rfl ?_
  refine s_getI (pc2 := 4) X dX3_readFact_1 rfl fl_RX3_87 rfl (fun v1 hv1 => ?_)
  refine s_ifeq (tgt := 8) X dX3_readFact_4 (by decide) rfl hv1 ?_ ?_
  · refine s_aload_n (j := 1) (pc2 := 9) X dX3_readFact_8 rfl rfl ?_
    refine s_callVI (d2 := d - 1) (As := []) (st := []) (pc2 := 12) X dX3_readFact_9 rfl ml_RX3_90 im_X6_next se_X6_next kX6 rfl (c_X6_next (d - 1) (by omega) C.1 C.2.2.1 l1) hy_X6_next rfl rfl hf hlo (st_room (Nat.le_of_ble_eq_true rfl)) hcs (fun v2 hv2 => ?_)
    refine s_bipush (n := 91) (pc2 := 14) X dX3_readFact_12 rfl rfl ?_
    refine s_icne (tgt := 21) X dX3_readFact_14 (by decide) rfl hv2 (inI_c 91 rfl) ?_ ?_
    · refine s_iconst (n := 0) (pc2 := 22) X dX3_readFact_21 rfl ?_
      exact z_X3_readFact_L22 d hd K X r_readTest r_readFact hr_readTest hr_readFact l0 l1 l2 0 h2 (inI_c 0 rfl)
    · refine s_iconst (n := 1) (pc2 := 18) X dX3_readFact_17 rfl ?_
      refine s_goto (pc2 := 22) X dX3_readFact_18 (by decide) ?_
      exact z_X3_readFact_L22 d hd K X r_readTest r_readFact hr_readTest hr_readFact l0 l1 l2 1 h2 (inI_c 1 rfl)
  · exact s_ret X dX3_readFact_7
theorem c_X3_readFact (d : Nat) (hd : 9 ≤ d) (G : hG) (l : Launch) (r_readTest : Nat → Nat → Int → hM) (r_readFact : Nat → Nat → Int → hM) (hr_readTest : ∀ (l0 : Nat) (l1 : Nat) (l2 : Int), inI l2 → hMet G l yX3_readTest cX3_readTest 6 none (d - 1) 0 0 [vR G.1 l0, vR G.1 l1, vI l2] (r_readTest l0 l1 l2)) (hr_readFact : ∀ (l0 : Nat) (l1 : Nat) (l2 : Int), inI l2 → hMet G l yX3_readFact cX3_readFact 5 none (d - 1) 0 0 [vR G.1 l0, vR G.1 l1, vI l2] (r_readFact l0 l1 l2)) (l0 : Nat) (l1 : Nat) (l2 : Int) (h2 : inI l2) : hMet G l yX3_readFact cX3_readFact 5 none d 0 0 [vR G.1 l0, vR G.1 l1, vI l2] (m_X3_readFact r_readTest r_readFact l0 l1 l2) := by
  refine hMet.of (lv := [(0, vR G.1 l0), (1, vR G.1 l1), (2, vI l2)]) (by decide +kernel) (by simp [lg_sl, vR_cat, vI_cat, vL_cat, vS_cat2, vT_cat2]) (by simp [lv_args, vR_cat, vI_cat, vL_cat, vS_cat2, vT_cat2]) (fun C K X => ?_)
  obtain ⟨rfl, rfl, K⟩ := K
  exact z_X3_readFact d hd ⟨rfl, rfl, K⟩ X r_readTest r_readFact hr_readTest hr_readFact l0 l1 l2 h2
def M_X3_readFact : Nat → Nat → Nat → Int → hM
  | 0 => fun _ _ _ => hfail
  | n + 1 => m_X3_readFact (fun a b c => m_X3_readTest (M_X3_readFact n) a b c) (M_X3_readFact n)
theorem C_X3_readFact : ∀ (n d : Nat), 10 + 2 * n ≤ d → ∀ (G : hG) (l : Launch) (l0 l1 : Nat) (l2 : Int), inI l2 → hMet G l yX3_readFact cX3_readFact 5 none d 0 0 [vR G.1 l0, vR G.1 l1, vI l2] (M_X3_readFact n l0 l1 l2) := by
  intro n
  induction n with
  | zero => intro d hd G l l0 l1 l2 h2 u r u2 h; cases h
  | succ n ih => intro d hd G l l0 l1 l2 h2; exact c_X3_readFact d (by omega) G l (fun a b c => m_X3_readTest (M_X3_readFact n) a b c) (M_X3_readFact n) (fun a b c hc => c_X3_readTest (d - 1) (by omega) G l (M_X3_readFact n) (fun a b c hc => ih (d - 1 - 1) (by omega) G l a b c hc) a b c hc) (fun a b c hc => ih (d - 1) (by omega) G l a b c hc) l0 l1 l2 h2
def M_X3_readTest (n : Nat) (l0 l1 : Nat) (l2 : Int) : hM := m_X3_readTest (M_X3_readFact n) l0 l1 l2
theorem C_X3_readTest (n d : Nat) (hd : 10 + 2 * n + 1 ≤ d) (G : hG) (l : Launch) (l0 l1 : Nat) (l2 : Int) (h2 : inI l2) : hMet G l yX3_readTest cX3_readTest 6 none d 0 0 [vR G.1 l0, vR G.1 l1, vI l2] (M_X3_readTest n l0 l1 l2) := c_X3_readTest d (by omega) G l (M_X3_readFact n) (fun a b c hc => C_X3_readFact n (d - 1) (by omega) G l a b c hc) l0 l1 l2 h2
def m_X3_read_L129 : hM :=
  hret 0
def m_X3_read_L118 (k23 : Nat → Nat → Int → Int → hM) (l0 : Nat) (l1 : Nat) (l3 : Int) : hM :=
  hcallV 6 l1 (m_X6_takeNextClause l1) fun v1 =>
  hlet v1 fun (w2 : Int) =>
  hlet (w32 (l3 + 1)) fun (w3 : Int) =>
  k23 l0 l1 w2 w3
def m_X3_read_L86 (k23 : Nat → Nat → Int → Int → hM) (l0 : Nat) (l1 : Nat) (l3 : Int) : hM :=
  hgR 3 l0 4 fun v1 =>
  hgI 3 l0 6 fun v2 =>
  hsI 20 v1 l3 v2 <|
  hgI 3 l0 7 fun v3 =>
  hpI 3 l0 7 ((w32 (v3 + 1))) <|
  m_X3_read_L118 k23 l0 l1 l3
def m_X3_read_L23 : Nat → Nat → Nat → Int → Int → hM
  | 0, _, _, _, _ => hfail
  | n + 1, l0, l1, l2, l3 =>
    hif (l2 = 0) (
m_X3_read_L129) (
hif (l3 > 12) (
m_X3_read_L129) (
hcallV 6 l1 (m_X6_word l1 1) fun v1 =>
  hif (l3 ≥ 12) (
hgI 6 l1 3 fun v2 =>
  hcallV 6 l1 (m_X6_fail l1 v2 4) fun _ =>
  m_X3_read_L118 (m_X3_read_L23 n) l0 l1 l3) (
hgR 3 l0 2 fun v3 =>
  hgI 3 l0 6 fun v4 =>
  hsI 20 v3 l3 v4 <|
  hcallV 3 l0 (m_X3_readSum l0 l1) fun _ =>
  hgR 3 l0 3 fun v5 =>
  hgI 3 l0 6 fun v6 =>
  hsI 20 v5 l3 v6 <|
  hcallV 6 l1 (m_X6_takeWord l1 3) fun v7 =>
  hif (v7 = 0) (
m_X3_read_L86 (m_X3_read_L23 n) l0 l1 l3) (
hcallV 3 l0 (M_X3_readTest 13 l0 l1 0) fun _ =>
  m_X3_read_L86 (m_X3_read_L23 n) l0 l1 l3))))
def m_X3_read (l0 : Nat) (l1 : Nat) : hM :=
  hcallV 6 l1 (m_X6_begin l1) fun _ =>
  hpI 3 l0 6 0 <|
  hpI 3 l0 7 0 <|
  hpI 3 l0 8 0 <|
  hlet (1 : Int) fun (w1 : Int) =>
  hlet (0 : Int) fun (w2 : Int) =>
  m_X3_read_L23 1000000000 l0 l1 w1 w2
set_option maxRecDepth 4000 in
theorem z_X3_read_L129 (d : Nat) (hd : 38 ≤ d) {C : hCx} (K : hCtx C.1 C.2.2.1 d 0 0 "read" C) (X : hOK C cX3_read RX3 4 none) : hSim C none 0 0 4 129 [] [] 0 0 (m_X3_read_L129) := by
  obtain ⟨⟨hf, hlo⟩, ⟨hc1, hc2⟩, hf1, hl1⟩ := K_room K (by omega)
  have hcs : 0 ≤ C.2.2.2.2.1.cells ∧ 0 ≤ C.2.2.2.2.1.slots := ⟨Nat.zero_le _, Nat.zero_le _⟩
  unfold m_X3_read_L129
  exact s_ret X dX3_read_129
set_option maxRecDepth 4000 in
theorem z_X3_read_L118 (d : Nat) (hd : 38 ≤ d) {C : hCx} (K : hCtx C.1 C.2.2.1 d 0 0 "read" C) (X : hOK C cX3_read RX3 4 none) (k23 : Nat → Nat → Int → Int → hM) (hk23 : ∀ (l0 : Nat) (l1 : Nat) (l2 : Int) (l3 : Int), inI l2 → inI l3 → hSim C none 0 0 4 23 [(0, vR C.1.1 l0), (1, vR C.1.1 l1), (2, vI l2), (3, vI l3)] [] 0 0 (k23 l0 l1 l2 l3)) (l0 : Nat) (l1 : Nat) (l3 : Int) (h3 : inI l3) : hSim C none 0 0 4 118 [(0, vR C.1.1 l0), (1, vR C.1.1 l1), (3, vI l3)] [] 0 0 (m_X3_read_L118 k23 l0 l1 l3) := by
  obtain ⟨⟨hf, hlo⟩, ⟨hc1, hc2⟩, hf1, hl1⟩ := K_room K (by omega)
  have hcs : 0 ≤ C.2.2.2.2.1.cells ∧ 0 ≤ C.2.2.2.2.1.slots := ⟨Nat.zero_le _, Nat.zero_le _⟩
  unfold m_X3_read_L118
  refine s_aload_n (j := 1) (pc2 := 119) X dX3_read_118 rfl rfl ?_
  refine s_callVZ (d2 := d - 1) (As := []) (st := []) (pc2 := 122) X dX3_read_119 rfl ml_RX3_73 im_X6_takeNextClause se_X6_takeNextClause kX6 rfl (c_X6_takeNextClause (d - 1) (by omega) C.1 C.2.2.1 l1) hy_X6_takeNextClause rfl rfl hf hlo (st_room (Nat.le_of_ble_eq_true rfl)) hcs (fun v1 hv1 => ?_)
  refine s_istore_n (pc2 := 123) X dX3_read_122 rfl (by decide) rfl rfl cat1_R hv1 (fun w2 hw2 => ?_)
  refine s_iinc (j := 3) (pc2 := 126) X dX3_read_123 rfl (by decide) rfl rfl rfl cat1_I (fun w3 hw3 => ?_)
  refine s_goto (pc2 := 23) X dX3_read_126 (by decide) ?_
  refine s_sub (lv2 := [(0, vR C.1.1 l0), (1, vR C.1.1 l1), (2, vI w2), (3, vI w3)]) [2, 3, 1, 0] rfl ?_
  exact hk23 l0 l1 w2 w3 hw2 hw3
set_option maxRecDepth 4000 in
theorem z_X3_read_L86 (d : Nat) (hd : 38 ≤ d) {C : hCx} (K : hCtx C.1 C.2.2.1 d 0 0 "read" C) (X : hOK C cX3_read RX3 4 none) (k23 : Nat → Nat → Int → Int → hM) (hk23 : ∀ (l0 : Nat) (l1 : Nat) (l2 : Int) (l3 : Int), inI l2 → inI l3 → hSim C none 0 0 4 23 [(0, vR C.1.1 l0), (1, vR C.1.1 l1), (2, vI l2), (3, vI l3)] [] 0 0 (k23 l0 l1 l2 l3)) (l0 : Nat) (l1 : Nat) (l3 : Int) (h3 : inI l3) : hSim C none 0 0 4 86 [(0, vR C.1.1 l0), (1, vR C.1.1 l1), (3, vI l3)] [] 0 0 (m_X3_read_L86 k23 l0 l1 l3) := by
  obtain ⟨⟨hf, hlo⟩, ⟨hc1, hc2⟩, hf1, hl1⟩ := K_room K (by omega)
  have hcs : 0 ≤ C.2.2.2.2.1.cells ∧ 0 ≤ C.2.2.2.2.1.slots := ⟨Nat.zero_le _, Nat.zero_le _⟩
  unfold m_X3_read_L86
  refine s_aload_n (j := 0) (pc2 := 87) X dX3_read_86 rfl rfl ?_
  refine s_getR (pc2 := 90) X dX3_read_87 rfl fl_RX3_26 rfl (fun v1 => ?_)
  refine s_iload_n (j := 2) (pc2 := 91) X dX3_read_90 rfl rfl ?_
  refine s_aload_n (j := 0) (pc2 := 92) X dX3_read_91 rfl rfl ?_
  refine s_getI (pc2 := 95) X dX3_read_92 rfl fl_RX3_33 rfl (fun v2 hv2 => ?_)
  refine s_iast (pc2 := 96) X dX3_read_95 rfl hv2 ?_
  refine s_aload_n (j := 0) (pc2 := 97) X dX3_read_96 rfl rfl ?_
  refine s_dup (pc2 := 98) X dX3_read_97 rfl (vR_cat _ _) ?_
  refine s_getI (pc2 := 101) X dX3_read_98 rfl fl_RX3_37 rfl (fun v3 hv3 => ?_)
  refine s_iconst (n := 1) (pc2 := 102) X dX3_read_101 rfl ?_
  refine s_iadd (pc2 := 103) X dX3_read_102 rfl ?_
  refine s_putI (pc2 := 106) X dX3_read_103 rfl fl_RX3_37 (Or.inl rfl) rfl (w32_in _) ?_
  refine s_goto (pc2 := 118) X dX3_read_106 (by decide) ?_
  exact z_X3_read_L118 d hd K X k23 hk23 l0 l1 l3 h3
set_option maxRecDepth 4000 in
theorem z_X3_read_L23 (d : Nat) (hd : 38 ≤ d) {C : hCx} (K : hCtx C.1 C.2.2.1 d 0 0 "read" C) (X : hOK C cX3_read RX3 4 none) : ∀ (n : Nat) (l0 : Nat) (l1 : Nat) (l2 : Int) (l3 : Int) (h2 : inI l2) (h3 : inI l3), hSim C none 0 0 4 23 [(0, vR C.1.1 l0), (1, vR C.1.1 l1), (2, vI l2), (3, vI l3)] [] 0 0 (m_X3_read_L23 n l0 l1 l2 l3) := by
  obtain ⟨⟨hf, hlo⟩, ⟨hc1, hc2⟩, hf1, hl1⟩ := K_room K (by omega)
  have hcs : 0 ≤ C.2.2.2.2.1.cells ∧ 0 ≤ C.2.2.2.2.1.slots := ⟨Nat.zero_le _, Nat.zero_le _⟩
  intro n
  induction n with
  | zero => intros; exact s_none (fun _ => rfl)
  | succ n ih =>
    intro l0 l1 l2 l3 h2 h3
    unfold m_X3_read_L23
    refine s_iload_n (j := 2) (pc2 := 24) X dX3_read_23 rfl rfl ?_
    refine s_ifeq (tgt := 129) X dX3_read_24 (by decide) rfl h2 ?_ ?_
    · refine s_sub (lv2 := []) [] rfl ?_
      exact z_X3_read_L129 d hd K X
    · refine s_iload_n (j := 3) (pc2 := 28) X dX3_read_27 rfl rfl ?_
      refine s_bipush (n := 12) (pc2 := 30) X dX3_read_28 rfl rfl ?_
      refine s_icgt (tgt := 129) X dX3_read_30 (by decide) rfl h3 (inI_c 12 rfl) ?_ ?_
      · refine s_sub (lv2 := []) [] rfl ?_
        exact z_X3_read_L129 d hd K X
      · refine s_aload_n (j := 1) (pc2 := 34) X dX3_read_33 rfl rfl ?_
        refine s_ldcS (j := 1) (pc2 := 36) X dX3_read_34 rfl rfl ?_
        refine s_callVI (d2 := d - 1) (As := [vS C.1 1]) (st := []) (pc2 := 39) X dX3_read_36 rfl ml_RX3_48 im_X6_word se_X6_word kX6 rfl (c_X6_word (d - 1) (by omega) C.1 C.2.2.1 l1 1) hy_X6_word rfl rfl hf hlo (st_room (Nat.le_of_ble_eq_true rfl)) hcs (fun v1 hv1 => ?_)
        refine s_pop (pc2 := 40) X dX3_read_39 rfl rfl ?_
        refine s_iload_n (j := 3) (pc2 := 41) X dX3_read_40 rfl rfl ?_
        refine s_bipush (n := 12) (pc2 := 43) X dX3_read_41 rfl rfl ?_
        refine s_icge (tgt := 109) X dX3_read_43 (by decide) rfl h3 (inI_c 12 rfl) ?_ ?_
        · refine s_aload_n (j := 1) (pc2 := 110) X dX3_read_109 rfl rfl ?_
          refine s_aload_n (j := 1) (pc2 := 111) X dX3_read_110 rfl rfl ?_
          refine s_getI (pc2 := 114) X dX3_read_111 rfl fl_RX3_66 rfl (fun v2 hv2 => ?_)
          refine s_iconst (n := 4) (pc2 := 115) X dX3_read_114 rfl ?_
          refine s_callVV (d2 := d - 1) (As := [vI v2, vI 4]) (st := []) (pc2 := 118) X dX3_read_115 rfl ml_RX3_69 im_X6_fail se_X6_fail kX6 rfl (c_X6_fail (d - 1) (by omega) C.1 C.2.2.1 l1 v2 4 hv2 (inI_c 4 rfl)) hy_X6_fail rfl rfl hf hlo (st_room (Nat.le_of_ble_eq_true rfl)) hcs (fun _ => ?_)
          refine s_sub (lv2 := [(0, vR C.1.1 l0), (1, vR C.1.1 l1), (3, vI l3)]) [0, 1, 3] rfl ?_
          exact z_X3_read_L118 d hd K X (m_X3_read_L23 n) ih l0 l1 l3 h3
        · refine s_aload_n (j := 0) (pc2 := 47) X dX3_read_46 rfl rfl ?_
          refine s_getR (pc2 := 50) X dX3_read_47 rfl fl_RX3_20 rfl (fun v3 => ?_)
          refine s_iload_n (j := 3) (pc2 := 51) X dX3_read_50 rfl rfl ?_
          refine s_aload_n (j := 0) (pc2 := 52) X dX3_read_51 rfl rfl ?_
          refine s_getI (pc2 := 55) X dX3_read_52 rfl fl_RX3_33 rfl (fun v4 hv4 => ?_)
          refine s_iast (pc2 := 56) X dX3_read_55 rfl hv4 ?_
          refine s_aload_n (j := 0) (pc2 := 57) X dX3_read_56 rfl rfl ?_
          refine s_aload_n (j := 1) (pc2 := 58) X dX3_read_57 rfl rfl ?_
          refine s_callVV (d2 := d - 1) (As := [vR C.1.1 l1]) (st := []) (pc2 := 61) X dX3_read_58 rfl ml_RX3_52 im_X3_readSum se_X3_readSum kX3 rfl (c_X3_readSum (d - 1) (by omega) C.1 C.2.2.1 l0 l1) hy_X3_readSum rfl rfl hf hlo (st_room (Nat.le_of_ble_eq_true rfl)) hcs (fun _ => ?_)
          refine s_aload_n (j := 0) (pc2 := 62) X dX3_read_61 rfl rfl ?_
          refine s_getR (pc2 := 65) X dX3_read_62 rfl fl_RX3_23 rfl (fun v5 => ?_)
          refine s_iload_n (j := 3) (pc2 := 66) X dX3_read_65 rfl rfl ?_
          refine s_aload_n (j := 0) (pc2 := 67) X dX3_read_66 rfl rfl ?_
          refine s_getI (pc2 := 70) X dX3_read_67 rfl fl_RX3_33 rfl (fun v6 hv6 => ?_)
          refine s_iast (pc2 := 71) X dX3_read_70 rfl hv6 ?_
          refine s_aload_n (j := 1) (pc2 := 72) X dX3_read_71 rfl rfl ?_
          refine s_ldcS (j := 3) (pc2 := 74) X dX3_read_72 rfl rfl ?_
          refine s_callVZ (d2 := d - 1) (As := [vS C.1 3]) (st := []) (pc2 := 77) X dX3_read_74 rfl ml_RX3_58 im_X6_takeWord se_X6_takeWord kX6 rfl (c_X6_takeWord (d - 1) (by omega) C.1 C.2.2.1 l1 3) hy_X6_takeWord rfl rfl hf hlo (st_room (Nat.le_of_ble_eq_true rfl)) hcs (fun v7 hv7 => ?_)
          refine s_ifeq (tgt := 86) X dX3_read_77 (by decide) rfl hv7 ?_ ?_
          · refine s_sub (lv2 := [(0, vR C.1.1 l0), (1, vR C.1.1 l1), (3, vI l3)]) [0, 1, 3] rfl ?_
            exact z_X3_read_L86 d hd K X (m_X3_read_L23 n) ih l0 l1 l3 h3
          · refine s_aload_n (j := 0) (pc2 := 81) X dX3_read_80 rfl rfl ?_
            refine s_aload_n (j := 1) (pc2 := 82) X dX3_read_81 rfl rfl ?_
            refine s_iconst (n := 0) (pc2 := 83) X dX3_read_82 rfl ?_
            refine s_callVV (d2 := d - 1) (As := [vR C.1.1 l1, vI 0]) (st := []) (pc2 := 86) X dX3_read_83 rfl ml_RX3_62 im_X3_readTest se_X3_readTest kX3 rfl (C_X3_readTest 13 (d - 1) (by omega) C.1 C.2.2.1 l0 l1 0 (inI_c 0 rfl)) hy_X3_readTest rfl rfl hf hlo (st_room (Nat.le_of_ble_eq_true rfl)) hcs (fun _ => ?_)
            refine s_sub (lv2 := [(0, vR C.1.1 l0), (1, vR C.1.1 l1), (3, vI l3)]) [0, 1, 3] rfl ?_
            exact z_X3_read_L86 d hd K X (m_X3_read_L23 n) ih l0 l1 l3 h3
set_option maxRecDepth 4000 in
set_option maxHeartbeats 20000000 in
theorem z_X3_read (d : Nat) (hd : 38 ≤ d) {C : hCx} (K : hCtx C.1 C.2.2.1 d 0 0 "read" C) (X : hOK C cX3_read RX3 4 none) (l0 : Nat) (l1 : Nat) : hSim C none 0 0 4 0 [(0, vR C.1.1 l0), (1, vR C.1.1 l1)] [] 0 0 (m_X3_read l0 l1) := by
  obtain ⟨⟨hf, hlo⟩, ⟨hc1, hc2⟩, hf1, hl1⟩ := K_room K (by omega)
  have hcs : 0 ≤ C.2.2.2.2.1.cells ∧ 0 ≤ C.2.2.2.2.1.slots := ⟨Nat.zero_le _, Nat.zero_le _⟩
  unfold m_X3_read
  refine s_aload_n (j := 1) (pc2 := 1) X dX3_read_0 rfl rfl ?_
  refine s_callVV (d2 := d - 1) (As := []) (st := []) (pc2 := 4) X dX3_read_1 rfl ml_RX3_43 im_X6_begin se_X6_begin kX6 rfl (c_X6_begin (d - 1) (by omega) C.1 C.2.2.1 l1) hy_X6_begin rfl rfl hf hlo (st_room (Nat.le_of_ble_eq_true rfl)) hcs (fun _ => ?_)
  refine s_aload_n (j := 0) (pc2 := 5) X dX3_read_4 rfl rfl ?_
  refine s_iconst (n := 0) (pc2 := 6) X dX3_read_5 rfl ?_
  refine s_putI (pc2 := 9) X dX3_read_6 rfl fl_RX3_33 (Or.inl rfl) rfl (inI_c 0 rfl) ?_
  refine s_aload_n (j := 0) (pc2 := 10) X dX3_read_9 rfl rfl ?_
  refine s_iconst (n := 0) (pc2 := 11) X dX3_read_10 rfl ?_
  refine s_putI (pc2 := 14) X dX3_read_11 rfl fl_RX3_37 (Or.inl rfl) rfl (inI_c 0 rfl) ?_
  refine s_aload_n (j := 0) (pc2 := 15) X dX3_read_14 rfl rfl ?_
  refine s_iconst (n := 0) (pc2 := 16) X dX3_read_15 rfl ?_
  refine s_putI (pc2 := 19) X dX3_read_16 rfl fl_RX3_40 (Or.inl rfl) rfl (inI_c 0 rfl) ?_
  refine s_iconst (n := 1) (pc2 := 20) X dX3_read_19 rfl ?_
  refine s_istore_n (pc2 := 21) X dX3_read_20 rfl (by decide) rfl rfl cat1_R (inI_c 1 rfl) (fun w1 hw1 => ?_)
  refine s_iconst (n := 0) (pc2 := 22) X dX3_read_21 rfl ?_
  refine s_istore_n (pc2 := 23) X dX3_read_22 rfl (by decide) rfl rfl cat1_I (inI_c 0 rfl) (fun w2 hw2 => ?_)
  refine s_sub (lv2 := [(0, vR C.1.1 l0), (1, vR C.1.1 l1), (2, vI w1), (3, vI w2)]) [2, 3, 1, 0] rfl ?_
  exact z_X3_read_L23 d hd K X 1000000000 l0 l1 w1 w2 hw1 hw2
theorem c_X3_read (d : Nat) (hd : 38 ≤ d) (G : hG) (l : Launch) (l0 : Nat) (l1 : Nat) : hMet G l yX3_read cX3_read 4 none d 0 0 [vR G.1 l0, vR G.1 l1] (m_X3_read l0 l1) := by
  refine hMet.of (lv := [(0, vR G.1 l0), (1, vR G.1 l1)]) (by decide +kernel) (by simp [lg_sl, vR_cat, vI_cat, vL_cat, vS_cat2, vT_cat2]) (by simp [lv_args, vR_cat, vI_cat, vL_cat, vS_cat2, vT_cat2]) (fun C K X => ?_)
  obtain ⟨rfl, rfl, K⟩ := K
  exact z_X3_read d hd ⟨rfl, rfl, K⟩ X l0 l1
def m_X3_pushed_L36 (s0 : Int) : hM :=
  hret s0
def m_X3_pushed_L35 : hM :=
  m_X3_pushed_L36 0
def m_X3_pushed (l0 : Nat) (l1 : Int) (l2 : Nat) : hM :=
  hgR 3 l0 1 fun v1 =>
  haI 20 v1 l1 fun v2 =>
  hlet v2 fun (w3 : Int) =>
  hgR 3 l0 0 fun v4 =>
  haI 20 v4 l1 fun v5 =>
  hif (v5 ≠ 0) (
hif (w3 < 0) (
m_X3_pushed_L35) (
hlen 21 l2 fun v6 =>
  hif (w3 ≥ v6) (
m_X3_pushed_L35) (
haI 21 l2 w3 fun v7 =>
  m_X3_pushed_L36 v7))) (
hret w3)
set_option maxRecDepth 4000 in
theorem z_X3_pushed_L36 (d : Nat) (hd : 1 ≤ d) {C : hCx} (K : hCtx C.1 C.2.2.1 d 0 0 "pushed" C) (X : hOK C cX3_pushed RX3 4 (some .long)) (s0 : Int) (g0 : inL s0) : hSim C (some .long) 0 0 4 36 [] [vL s0] 0 0 (m_X3_pushed_L36 s0) := by
  obtain ⟨⟨hf, hlo⟩, ⟨hc1, hc2⟩, hf1, hl1⟩ := K_room K (by omega)
  have hcs : 0 ≤ C.2.2.2.2.1.cells ∧ 0 ≤ C.2.2.2.2.1.slots := ⟨Nat.zero_le _, Nat.zero_le _⟩
  unfold m_X3_pushed_L36
  exact s_lret X dX3_pushed_36 g0
set_option maxRecDepth 4000 in
theorem z_X3_pushed_L35 (d : Nat) (hd : 1 ≤ d) {C : hCx} (K : hCtx C.1 C.2.2.1 d 0 0 "pushed" C) (X : hOK C cX3_pushed RX3 4 (some .long)) : hSim C (some .long) 0 0 4 35 [] [] 0 0 (m_X3_pushed_L35) := by
  obtain ⟨⟨hf, hlo⟩, ⟨hc1, hc2⟩, hf1, hl1⟩ := K_room K (by omega)
  have hcs : 0 ≤ C.2.2.2.2.1.cells ∧ 0 ≤ C.2.2.2.2.1.slots := ⟨Nat.zero_le _, Nat.zero_le _⟩
  unfold m_X3_pushed_L35
  refine s_lconst (z := 0) (pc2 := 36) X dX3_pushed_35 rfl rfl ?_
  exact z_X3_pushed_L36 d hd K X 0 (inL_c 0 rfl)
set_option maxRecDepth 4000 in
set_option maxHeartbeats 20000000 in
theorem z_X3_pushed (d : Nat) (hd : 1 ≤ d) {C : hCx} (K : hCtx C.1 C.2.2.1 d 0 0 "pushed" C) (X : hOK C cX3_pushed RX3 4 (some .long)) (l0 : Nat) (l1 : Int) (l2 : Nat) (h1 : inI l1) : hSim C (some .long) 0 0 4 0 [(0, vR C.1.1 l0), (1, vI l1), (2, vR C.1.1 l2)] [] 0 0 (m_X3_pushed l0 l1 l2) := by
  obtain ⟨⟨hf, hlo⟩, ⟨hc1, hc2⟩, hf1, hl1⟩ := K_room K (by omega)
  have hcs : 0 ≤ C.2.2.2.2.1.cells ∧ 0 ≤ C.2.2.2.2.1.slots := ⟨Nat.zero_le _, Nat.zero_le _⟩
  unfold m_X3_pushed
  refine s_aload_n (j := 0) (pc2 := 1) X dX3_pushed_0 rfl rfl ?_
  refine s_getR (pc2 := 4) X dX3_pushed_1 rfl fl_RX3_17 rfl (fun v1 => ?_)
  refine s_iload_n (j := 1) (pc2 := 5) X dX3_pushed_4 rfl rfl ?_
  refine s_iald (pc2 := 6) X dX3_pushed_5 rfl (fun v2 hv2 => ?_)
  refine s_istore_n (pc2 := 7) X dX3_pushed_6 rfl (by decide) rfl rfl cat1_R hv2 (fun w3 hw3 => ?_)
  refine s_aload_n (j := 1) (pc2 := 8) X dX3_pushed_7 rfl rfl ?_
  refine s_getR (pc2 := 11) X dX3_pushed_8 rfl fl_RX3_11 rfl (fun v4 => ?_)
  refine s_iload_n (j := 2) (pc2 := 12) X dX3_pushed_11 rfl rfl ?_
  refine s_iald (pc2 := 13) X dX3_pushed_12 rfl (fun v5 hv5 => ?_)
  refine s_ifne (tgt := 19) X dX3_pushed_13 (by decide) rfl hv5 ?_ ?_
  · refine s_iload_n (j := 0) (pc2 := 20) X dX3_pushed_19 rfl rfl ?_
    refine s_iflt (tgt := 35) X dX3_pushed_20 (by decide) rfl hw3 ?_ ?_
    · refine s_sub (lv2 := []) [] rfl ?_
      exact z_X3_pushed_L35 d hd K X
    · refine s_iload_n (j := 0) (pc2 := 24) X dX3_pushed_23 rfl rfl ?_
      refine s_aload_n (j := 3) (pc2 := 25) X dX3_pushed_24 rfl rfl ?_
      refine s_alen21 (pc2 := 26) X dX3_pushed_25 rfl (fun v6 hv6 => ?_)
      refine s_icge (tgt := 35) X dX3_pushed_26 (by decide) rfl hw3 hv6 ?_ ?_
      · refine s_sub (lv2 := []) [] rfl ?_
        exact z_X3_pushed_L35 d hd K X
      · refine s_aload_n (j := 3) (pc2 := 30) X dX3_pushed_29 rfl rfl ?_
        refine s_iload_n (j := 0) (pc2 := 31) X dX3_pushed_30 rfl rfl ?_
        refine s_lald (pc2 := 32) X dX3_pushed_31 rfl (fun v7 hv7 => ?_)
        refine s_goto (pc2 := 36) X dX3_pushed_32 (by decide) ?_
        refine s_sub (lv2 := []) [] rfl ?_
        exact z_X3_pushed_L36 d hd K X v7 hv7
  · refine s_iload_n (j := 0) (pc2 := 17) X dX3_pushed_16 rfl rfl ?_
    refine s_i2l (pc2 := 18) X dX3_pushed_17 rfl hw3 ?_
    exact s_lret X dX3_pushed_18 (inL_of hw3)
theorem c_X3_pushed (d : Nat) (hd : 1 ≤ d) (G : hG) (l : Launch) (l0 : Nat) (l1 : Int) (l2 : Nat) (h1 : inI l1) : hMet G l yX3_pushed cX3_pushed 4 (some .long) d 0 0 [vR G.1 l0, vI l1, vR G.1 l2] (m_X3_pushed l0 l1 l2) := by
  refine hMet.of (lv := [(0, vR G.1 l0), (1, vI l1), (2, vR G.1 l2)]) (by decide +kernel) (by simp [lg_sl, vR_cat, vI_cat, vL_cat, vS_cat2, vT_cat2]) (by simp [lv_args, vR_cat, vI_cat, vL_cat, vS_cat2, vT_cat2]) (fun C K X => ?_)
  obtain ⟨rfl, rfl, K⟩ := K
  exact z_X3_pushed d hd ⟨rfl, rfl, K⟩ X l0 l1 l2 h1
def m_X3_compares_L55 (s0 : Int) : hM :=
  hretZ s0
def m_X3_compares_L79 (s0 : Int) : hM :=
  hretZ s0
def m_X3_compares_L91 (s0 : Int) : hM :=
  hretZ s0
def m_X3_compares_L67 (s0 : Int) : hM :=
  hretZ s0
def m_X3_compares_L103 (s0 : Int) : hM :=
  hretZ s0
def m_X3_compares (l0 : Int) (l1 : Int) (l3 : Int) : hM :=
  hif (l0 = 60) (
hif (((lcmpZ l1 l3)) ≥ 0) (
m_X3_compares_L55 0) (
m_X3_compares_L55 1)) <|
  hif (l0 = 61) (
hif (((lcmpZ l1 l3)) ≠ 0) (
m_X3_compares_L79 0) (
m_X3_compares_L79 1)) <|
  hif (l0 = 103) (
hif (((lcmpZ l1 l3)) < 0) (
m_X3_compares_L91 0) (
m_X3_compares_L91 1)) <|
  hif (l0 = 108) (
hif (((lcmpZ l1 l3)) > 0) (
m_X3_compares_L67 0) (
m_X3_compares_L67 1)) <|
  hif (((lcmpZ l1 l3)) ≤ 0) (
m_X3_compares_L103 0) (
m_X3_compares_L103 1)
set_option maxRecDepth 4000 in
theorem z_X3_compares_L55 (d : Nat) (hd : 1 ≤ d) {C : hCx} (K : hCtx C.1 C.2.2.1 d 0 0 "compares" C) (X : hOK C cX3_compares RX3 5 (some .boolean)) (s0 : Int) (g0 : inI s0) : hSim C (some .boolean) 0 0 5 55 [] [vI s0] 0 0 (m_X3_compares_L55 s0) := by
  obtain ⟨⟨hf, hlo⟩, ⟨hc1, hc2⟩, hf1, hl1⟩ := K_room K (by omega)
  have hcs : 0 ≤ C.2.2.2.2.1.cells ∧ 0 ≤ C.2.2.2.2.1.slots := ⟨Nat.zero_le _, Nat.zero_le _⟩
  unfold m_X3_compares_L55
  exact s_zret X dX3_compares_55
set_option maxRecDepth 4000 in
theorem z_X3_compares_L79 (d : Nat) (hd : 1 ≤ d) {C : hCx} (K : hCtx C.1 C.2.2.1 d 0 0 "compares" C) (X : hOK C cX3_compares RX3 5 (some .boolean)) (s0 : Int) (g0 : inI s0) : hSim C (some .boolean) 0 0 5 79 [] [vI s0] 0 0 (m_X3_compares_L79 s0) := by
  obtain ⟨⟨hf, hlo⟩, ⟨hc1, hc2⟩, hf1, hl1⟩ := K_room K (by omega)
  have hcs : 0 ≤ C.2.2.2.2.1.cells ∧ 0 ≤ C.2.2.2.2.1.slots := ⟨Nat.zero_le _, Nat.zero_le _⟩
  unfold m_X3_compares_L79
  exact s_zret X dX3_compares_79
set_option maxRecDepth 4000 in
theorem z_X3_compares_L91 (d : Nat) (hd : 1 ≤ d) {C : hCx} (K : hCtx C.1 C.2.2.1 d 0 0 "compares" C) (X : hOK C cX3_compares RX3 5 (some .boolean)) (s0 : Int) (g0 : inI s0) : hSim C (some .boolean) 0 0 5 91 [] [vI s0] 0 0 (m_X3_compares_L91 s0) := by
  obtain ⟨⟨hf, hlo⟩, ⟨hc1, hc2⟩, hf1, hl1⟩ := K_room K (by omega)
  have hcs : 0 ≤ C.2.2.2.2.1.cells ∧ 0 ≤ C.2.2.2.2.1.slots := ⟨Nat.zero_le _, Nat.zero_le _⟩
  unfold m_X3_compares_L91
  exact s_zret X dX3_compares_91
set_option maxRecDepth 4000 in
theorem z_X3_compares_L67 (d : Nat) (hd : 1 ≤ d) {C : hCx} (K : hCtx C.1 C.2.2.1 d 0 0 "compares" C) (X : hOK C cX3_compares RX3 5 (some .boolean)) (s0 : Int) (g0 : inI s0) : hSim C (some .boolean) 0 0 5 67 [] [vI s0] 0 0 (m_X3_compares_L67 s0) := by
  obtain ⟨⟨hf, hlo⟩, ⟨hc1, hc2⟩, hf1, hl1⟩ := K_room K (by omega)
  have hcs : 0 ≤ C.2.2.2.2.1.cells ∧ 0 ≤ C.2.2.2.2.1.slots := ⟨Nat.zero_le _, Nat.zero_le _⟩
  unfold m_X3_compares_L67
  exact s_zret X dX3_compares_67
set_option maxRecDepth 4000 in
theorem z_X3_compares_L103 (d : Nat) (hd : 1 ≤ d) {C : hCx} (K : hCtx C.1 C.2.2.1 d 0 0 "compares" C) (X : hOK C cX3_compares RX3 5 (some .boolean)) (s0 : Int) (g0 : inI s0) : hSim C (some .boolean) 0 0 5 103 [] [vI s0] 0 0 (m_X3_compares_L103 s0) := by
  obtain ⟨⟨hf, hlo⟩, ⟨hc1, hc2⟩, hf1, hl1⟩ := K_room K (by omega)
  have hcs : 0 ≤ C.2.2.2.2.1.cells ∧ 0 ≤ C.2.2.2.2.1.slots := ⟨Nat.zero_le _, Nat.zero_le _⟩
  unfold m_X3_compares_L103
  exact s_zret X dX3_compares_103
set_option maxRecDepth 4000 in
set_option maxHeartbeats 20000000 in
theorem z_X3_compares (d : Nat) (hd : 1 ≤ d) {C : hCx} (K : hCtx C.1 C.2.2.1 d 0 0 "compares" C) (X : hOK C cX3_compares RX3 5 (some .boolean)) (l0 : Int) (l1 : Int) (l3 : Int) (h0 : inI l0) (h1 : inL l1) (h3 : inL l3) : hSim C (some .boolean) 0 0 5 0 [(0, vI l0), (1, vL l1), (3, vL l3)] [] 0 0 (m_X3_compares l0 l1 l3) := by
  obtain ⟨⟨hf, hlo⟩, ⟨hc1, hc2⟩, hf1, hl1⟩ := K_room K (by omega)
  have hcs : 0 ≤ C.2.2.2.2.1.cells ∧ 0 ≤ C.2.2.2.2.1.slots := ⟨Nat.zero_le _, Nat.zero_le _⟩
  unfold m_X3_compares
  refine s_iload_n (j := 0) (pc2 := 1) X dX3_compares_0 rfl rfl ?_
  refine s_split (fun e1_0 => ?_) (fun e1_0 => ?_)
  · refine s_lsw (tgt := 44) X dX3_compares_1 h0 rfl (lsw_hit e1_0) (by decide) ?_
    refine s_lload_n (j := 1) (pc2 := 45) X dX3_compares_44 rfl rfl ?_
    refine s_lload_n (j := 2) (pc2 := 46) X dX3_compares_45 rfl rfl ?_
    refine s_lcmp (pc2 := 47) X dX3_compares_46 rfl h1 h3 ?_
    refine s_ifge (tgt := 54) X dX3_compares_47 (by decide) rfl (lcmpZ_in _ _) ?_ ?_
    · refine s_iconst (n := 0) (pc2 := 55) X dX3_compares_54 rfl ?_
      refine s_sub (lv2 := []) [] rfl ?_
      exact z_X3_compares_L55 d hd K X 0 (inI_c 0 rfl)
    · refine s_iconst (n := 1) (pc2 := 51) X dX3_compares_50 rfl ?_
      refine s_goto (pc2 := 55) X dX3_compares_51 (by decide) ?_
      refine s_sub (lv2 := []) [] rfl ?_
      exact z_X3_compares_L55 d hd K X 1 (inI_c 1 rfl)
  refine s_split (fun e1_1 => ?_) (fun e1_1 => ?_)
  · refine s_lsw (tgt := 68) X dX3_compares_1 h0 rfl (lsw_miss e1_0 (lsw_hit e1_1)) (by decide) ?_
    refine s_lload_n (j := 1) (pc2 := 69) X dX3_compares_68 rfl rfl ?_
    refine s_lload_n (j := 2) (pc2 := 70) X dX3_compares_69 rfl rfl ?_
    refine s_lcmp (pc2 := 71) X dX3_compares_70 rfl h1 h3 ?_
    refine s_ifne (tgt := 78) X dX3_compares_71 (by decide) rfl (lcmpZ_in _ _) ?_ ?_
    · refine s_iconst (n := 0) (pc2 := 79) X dX3_compares_78 rfl ?_
      refine s_sub (lv2 := []) [] rfl ?_
      exact z_X3_compares_L79 d hd K X 0 (inI_c 0 rfl)
    · refine s_iconst (n := 1) (pc2 := 75) X dX3_compares_74 rfl ?_
      refine s_goto (pc2 := 79) X dX3_compares_75 (by decide) ?_
      refine s_sub (lv2 := []) [] rfl ?_
      exact z_X3_compares_L79 d hd K X 1 (inI_c 1 rfl)
  refine s_split (fun e1_2 => ?_) (fun e1_2 => ?_)
  · refine s_lsw (tgt := 80) X dX3_compares_1 h0 rfl (lsw_miss e1_0 (lsw_miss e1_1 (lsw_hit e1_2))) (by decide) ?_
    refine s_lload_n (j := 1) (pc2 := 81) X dX3_compares_80 rfl rfl ?_
    refine s_lload_n (j := 2) (pc2 := 82) X dX3_compares_81 rfl rfl ?_
    refine s_lcmp (pc2 := 83) X dX3_compares_82 rfl h1 h3 ?_
    refine s_iflt (tgt := 90) X dX3_compares_83 (by decide) rfl (lcmpZ_in _ _) ?_ ?_
    · refine s_iconst (n := 0) (pc2 := 91) X dX3_compares_90 rfl ?_
      refine s_sub (lv2 := []) [] rfl ?_
      exact z_X3_compares_L91 d hd K X 0 (inI_c 0 rfl)
    · refine s_iconst (n := 1) (pc2 := 87) X dX3_compares_86 rfl ?_
      refine s_goto (pc2 := 91) X dX3_compares_87 (by decide) ?_
      refine s_sub (lv2 := []) [] rfl ?_
      exact z_X3_compares_L91 d hd K X 1 (inI_c 1 rfl)
  refine s_split (fun e1_3 => ?_) (fun e1_3 => ?_)
  · refine s_lsw (tgt := 56) X dX3_compares_1 h0 rfl (lsw_miss e1_0 (lsw_miss e1_1 (lsw_miss e1_2 (lsw_hit e1_3)))) (by decide) ?_
    refine s_lload_n (j := 1) (pc2 := 57) X dX3_compares_56 rfl rfl ?_
    refine s_lload_n (j := 2) (pc2 := 58) X dX3_compares_57 rfl rfl ?_
    refine s_lcmp (pc2 := 59) X dX3_compares_58 rfl h1 h3 ?_
    refine s_ifgt (tgt := 66) X dX3_compares_59 (by decide) rfl (lcmpZ_in _ _) ?_ ?_
    · refine s_iconst (n := 0) (pc2 := 67) X dX3_compares_66 rfl ?_
      refine s_sub (lv2 := []) [] rfl ?_
      exact z_X3_compares_L67 d hd K X 0 (inI_c 0 rfl)
    · refine s_iconst (n := 1) (pc2 := 63) X dX3_compares_62 rfl ?_
      refine s_goto (pc2 := 67) X dX3_compares_63 (by decide) ?_
      refine s_sub (lv2 := []) [] rfl ?_
      exact z_X3_compares_L67 d hd K X 1 (inI_c 1 rfl)
  refine s_lsw (tgt := 92) X dX3_compares_1 h0 rfl (lsw_miss e1_0 (lsw_miss e1_1 (lsw_miss e1_2 (lsw_miss e1_3 (lsw_nil))))) (by decide) ?_
  refine s_lload_n (j := 1) (pc2 := 93) X dX3_compares_92 rfl rfl ?_
  refine s_lload_n (j := 2) (pc2 := 94) X dX3_compares_93 rfl rfl ?_
  refine s_lcmp (pc2 := 95) X dX3_compares_94 rfl h1 h3 ?_
  refine s_ifle (tgt := 102) X dX3_compares_95 (by decide) rfl (lcmpZ_in _ _) ?_ ?_
  · refine s_iconst (n := 0) (pc2 := 103) X dX3_compares_102 rfl ?_
    refine s_sub (lv2 := []) [] rfl ?_
    exact z_X3_compares_L103 d hd K X 0 (inI_c 0 rfl)
  · refine s_iconst (n := 1) (pc2 := 99) X dX3_compares_98 rfl ?_
    refine s_goto (pc2 := 103) X dX3_compares_99 (by decide) ?_
    refine s_sub (lv2 := []) [] rfl ?_
    exact z_X3_compares_L103 d hd K X 1 (inI_c 1 rfl)
theorem c_X3_compares (d : Nat) (hd : 1 ≤ d) (G : hG) (l : Launch) (l0 : Int) (l1 : Int) (l3 : Int) (h0 : inI l0) (h1 : inL l1) (h3 : inL l3) : hMet G l yX3_compares cX3_compares 5 (some .boolean) d 0 0 [vI l0, vL l1, vL l3] (m_X3_compares l0 l1 l3) := by
  refine hMet.of (lv := [(0, vI l0), (1, vL l1), (3, vL l3)]) (by decide +kernel) (by simp [lg_sl, vR_cat, vI_cat, vL_cat, vS_cat2, vT_cat2]) (by simp [lv_args, vR_cat, vI_cat, vL_cat, vS_cat2, vT_cat2]) (fun C K X => ?_)
  obtain ⟨rfl, rfl, K⟩ := K
  exact z_X3_compares d hd ⟨rfl, rfl, K⟩ X l0 l1 l3 h0 h1 h3
def m_X3_join_L107 (s0 : Int) : hM :=
  hret s0
def m_X3_join_L93 (s0 : Int) : hM :=
  hret s0
def m_X3_join_L130 (s0 : Int) : hM :=
  hret s0
def m_X3_join (l0 : Int) (l1 : Int) (l3 : Int) : hM :=
  hif (l0 = 37) (
hif (((lcmpZ l3 0)) ≠ 0) (
hnz l3 <|
  m_X3_join_L107 ((lremZ l1 l3))) (
m_X3_join_L107 0)) <|
  hif (l0 = 38) (
hret ((landZ l1 l3))) <|
  hif (l0 = 42) (
hret ((w64 (l1 * l3)))) <|
  hif (l0 = 43) (
hret ((w64 (l1 + l3)))) <|
  hif (l0 = 45) (
hret ((w64 (l1 - l3)))) <|
  hif (l0 = 47) (
hif (((lcmpZ l3 0)) ≠ 0) (
hnz l3 <|
  m_X3_join_L93 ((ldivZ l1 l3))) (
m_X3_join_L93 0)) <|
  hif (l0 = 124) (
hret ((lorZ l1 l3))) <|
  hcall (m_X3_compares l0 l1 l3) fun v1 =>
  hif (v1 = 0) (
m_X3_join_L130 0) (
m_X3_join_L130 1)
set_option maxRecDepth 4000 in
theorem z_X3_join_L107 (d : Nat) (hd : 2 ≤ d) {C : hCx} (K : hCtx C.1 C.2.2.1 d 0 0 "join" C) (X : hOK C cX3_join RX3 5 (some .long)) (s0 : Int) (g0 : inL s0) : hSim C (some .long) 0 0 5 107 [] [vL s0] 0 0 (m_X3_join_L107 s0) := by
  obtain ⟨⟨hf, hlo⟩, ⟨hc1, hc2⟩, hf1, hl1⟩ := K_room K (by omega)
  have hcs : 0 ≤ C.2.2.2.2.1.cells ∧ 0 ≤ C.2.2.2.2.1.slots := ⟨Nat.zero_le _, Nat.zero_le _⟩
  unfold m_X3_join_L107
  exact s_lret X dX3_join_107 g0
set_option maxRecDepth 4000 in
theorem z_X3_join_L93 (d : Nat) (hd : 2 ≤ d) {C : hCx} (K : hCtx C.1 C.2.2.1 d 0 0 "join" C) (X : hOK C cX3_join RX3 5 (some .long)) (s0 : Int) (g0 : inL s0) : hSim C (some .long) 0 0 5 93 [] [vL s0] 0 0 (m_X3_join_L93 s0) := by
  obtain ⟨⟨hf, hlo⟩, ⟨hc1, hc2⟩, hf1, hl1⟩ := K_room K (by omega)
  have hcs : 0 ≤ C.2.2.2.2.1.cells ∧ 0 ≤ C.2.2.2.2.1.slots := ⟨Nat.zero_le _, Nat.zero_le _⟩
  unfold m_X3_join_L93
  exact s_lret X dX3_join_93 g0
set_option maxRecDepth 4000 in
theorem z_X3_join_L130 (d : Nat) (hd : 2 ≤ d) {C : hCx} (K : hCtx C.1 C.2.2.1 d 0 0 "join" C) (X : hOK C cX3_join RX3 5 (some .long)) (s0 : Int) (g0 : inL s0) : hSim C (some .long) 0 0 5 130 [] [vL s0] 0 0 (m_X3_join_L130 s0) := by
  obtain ⟨⟨hf, hlo⟩, ⟨hc1, hc2⟩, hf1, hl1⟩ := K_room K (by omega)
  have hcs : 0 ≤ C.2.2.2.2.1.cells ∧ 0 ≤ C.2.2.2.2.1.slots := ⟨Nat.zero_le _, Nat.zero_le _⟩
  unfold m_X3_join_L130
  exact s_lret X dX3_join_130 g0
set_option maxRecDepth 4000 in
set_option maxHeartbeats 20000000 in
theorem z_X3_join (d : Nat) (hd : 2 ≤ d) {C : hCx} (K : hCtx C.1 C.2.2.1 d 0 0 "join" C) (X : hOK C cX3_join RX3 5 (some .long)) (l0 : Int) (l1 : Int) (l3 : Int) (h0 : inI l0) (h1 : inL l1) (h3 : inL l3) : hSim C (some .long) 0 0 5 0 [(0, vI l0), (1, vL l1), (3, vL l3)] [] 0 0 (m_X3_join l0 l1 l3) := by
  obtain ⟨⟨hf, hlo⟩, ⟨hc1, hc2⟩, hf1, hl1⟩ := K_room K (by omega)
  have hcs : 0 ≤ C.2.2.2.2.1.cells ∧ 0 ≤ C.2.2.2.2.1.slots := ⟨Nat.zero_le _, Nat.zero_le _⟩
  unfold m_X3_join
  refine s_iload_n (j := 0) (pc2 := 1) X dX3_join_0 rfl rfl ?_
  refine s_split (fun e1_0 => ?_) (fun e1_0 => ?_)
  · refine s_lsw (tgt := 94) X dX3_join_1 h0 rfl (lsw_hit e1_0) (by decide) ?_
    refine s_lload_n (j := 2) (pc2 := 95) X dX3_join_94 rfl rfl ?_
    refine s_lconst (z := 0) (pc2 := 96) X dX3_join_95 rfl rfl ?_
    refine s_lcmp (pc2 := 97) X dX3_join_96 rfl h3 (inL_c 0 rfl) ?_
    refine s_ifne (tgt := 104) X dX3_join_97 (by decide) rfl (lcmpZ_in _ _) ?_ ?_
    · refine s_lload_n (j := 1) (pc2 := 105) X dX3_join_104 rfl rfl ?_
      refine s_lload_n (j := 2) (pc2 := 106) X dX3_join_105 rfl rfl ?_
      refine s_lrem (pc2 := 107) X dX3_join_106 rfl h1 h3 ?_
      refine s_sub (lv2 := []) [] rfl ?_
      exact z_X3_join_L107 d hd K X ((lremZ l1 l3)) (lremZ_in h1 h3)
    · refine s_lconst (z := 0) (pc2 := 101) X dX3_join_100 rfl rfl ?_
      refine s_goto (pc2 := 107) X dX3_join_101 (by decide) ?_
      refine s_sub (lv2 := []) [] rfl ?_
      exact z_X3_join_L107 d hd K X 0 (inL_c 0 rfl)
  refine s_split (fun e1_1 => ?_) (fun e1_1 => ?_)
  · refine s_lsw (tgt := 108) X dX3_join_1 h0 rfl (lsw_miss e1_0 (lsw_hit e1_1)) (by decide) ?_
    refine s_lload_n (j := 1) (pc2 := 109) X dX3_join_108 rfl rfl ?_
    refine s_lload_n (j := 2) (pc2 := 110) X dX3_join_109 rfl rfl ?_
    refine s_land (pc2 := 111) X dX3_join_110 rfl ?_
    exact s_lret X dX3_join_111 (landZ_in _ _)
  refine s_split (fun e1_2 => ?_) (fun e1_2 => ?_)
  · refine s_lsw (tgt := 76) X dX3_join_1 h0 rfl (lsw_miss e1_0 (lsw_miss e1_1 (lsw_hit e1_2))) (by decide) ?_
    refine s_lload_n (j := 1) (pc2 := 77) X dX3_join_76 rfl rfl ?_
    refine s_lload_n (j := 2) (pc2 := 78) X dX3_join_77 rfl rfl ?_
    refine s_lmul (pc2 := 79) X dX3_join_78 rfl ?_
    exact s_lret X dX3_join_79 (w64_in _)
  refine s_split (fun e1_3 => ?_) (fun e1_3 => ?_)
  · refine s_lsw (tgt := 68) X dX3_join_1 h0 rfl (lsw_miss e1_0 (lsw_miss e1_1 (lsw_miss e1_2 (lsw_hit e1_3)))) (by decide) ?_
    refine s_lload_n (j := 1) (pc2 := 69) X dX3_join_68 rfl rfl ?_
    refine s_lload_n (j := 2) (pc2 := 70) X dX3_join_69 rfl rfl ?_
    refine s_ladd (pc2 := 71) X dX3_join_70 rfl ?_
    exact s_lret X dX3_join_71 (w64_in _)
  refine s_split (fun e1_4 => ?_) (fun e1_4 => ?_)
  · refine s_lsw (tgt := 72) X dX3_join_1 h0 rfl (lsw_miss e1_0 (lsw_miss e1_1 (lsw_miss e1_2 (lsw_miss e1_3 (lsw_hit e1_4))))) (by decide) ?_
    refine s_lload_n (j := 1) (pc2 := 73) X dX3_join_72 rfl rfl ?_
    refine s_lload_n (j := 2) (pc2 := 74) X dX3_join_73 rfl rfl ?_
    refine s_lsub (pc2 := 75) X dX3_join_74 rfl ?_
    exact s_lret X dX3_join_75 (w64_in _)
  refine s_split (fun e1_5 => ?_) (fun e1_5 => ?_)
  · refine s_lsw (tgt := 80) X dX3_join_1 h0 rfl (lsw_miss e1_0 (lsw_miss e1_1 (lsw_miss e1_2 (lsw_miss e1_3 (lsw_miss e1_4 (lsw_hit e1_5)))))) (by decide) ?_
    refine s_lload_n (j := 2) (pc2 := 81) X dX3_join_80 rfl rfl ?_
    refine s_lconst (z := 0) (pc2 := 82) X dX3_join_81 rfl rfl ?_
    refine s_lcmp (pc2 := 83) X dX3_join_82 rfl h3 (inL_c 0 rfl) ?_
    refine s_ifne (tgt := 90) X dX3_join_83 (by decide) rfl (lcmpZ_in _ _) ?_ ?_
    · refine s_lload_n (j := 1) (pc2 := 91) X dX3_join_90 rfl rfl ?_
      refine s_lload_n (j := 2) (pc2 := 92) X dX3_join_91 rfl rfl ?_
      refine s_ldiv (pc2 := 93) X dX3_join_92 rfl h1 h3 ?_
      refine s_sub (lv2 := []) [] rfl ?_
      exact z_X3_join_L93 d hd K X ((ldivZ l1 l3)) (ldivZ_in _ _)
    · refine s_lconst (z := 0) (pc2 := 87) X dX3_join_86 rfl rfl ?_
      refine s_goto (pc2 := 93) X dX3_join_87 (by decide) ?_
      refine s_sub (lv2 := []) [] rfl ?_
      exact z_X3_join_L93 d hd K X 0 (inL_c 0 rfl)
  refine s_split (fun e1_6 => ?_) (fun e1_6 => ?_)
  · refine s_lsw (tgt := 112) X dX3_join_1 h0 rfl (lsw_miss e1_0 (lsw_miss e1_1 (lsw_miss e1_2 (lsw_miss e1_3 (lsw_miss e1_4 (lsw_miss e1_5 (lsw_hit e1_6))))))) (by decide) ?_
    refine s_lload_n (j := 1) (pc2 := 113) X dX3_join_112 rfl rfl ?_
    refine s_lload_n (j := 2) (pc2 := 114) X dX3_join_113 rfl rfl ?_
    refine s_lor (pc2 := 115) X dX3_join_114 rfl ?_
    exact s_lret X dX3_join_115 (lorZ_in _ _)
  refine s_lsw (tgt := 116) X dX3_join_1 h0 rfl (lsw_miss e1_0 (lsw_miss e1_1 (lsw_miss e1_2 (lsw_miss e1_3 (lsw_miss e1_4 (lsw_miss e1_5 (lsw_miss e1_6 (lsw_nil)))))))) (by decide) ?_
  refine s_iload_n (j := 0) (pc2 := 117) X dX3_join_116 rfl rfl ?_
  refine s_lload_n (j := 1) (pc2 := 118) X dX3_join_117 rfl rfl ?_
  refine s_lload_n (j := 2) (pc2 := 119) X dX3_join_118 rfl rfl ?_
  refine s_callSZ (d2 := d - 1) (As := [vI l0, vL l1, vL l3]) (st := []) (pc2 := 122) X dX3_join_119 rfl ml_RX3_146 sm_X3_compares (c_X3_compares (d - 1) (by omega) C.1 C.2.2.1 l0 l1 l3 h0 h1 h3) hy_X3_compares rfl rfl hf hlo (st_room (Nat.le_of_ble_eq_true rfl)) hcs (fun v1 hv1 => ?_)
  refine s_ifeq (tgt := 129) X dX3_join_122 (by decide) rfl hv1 ?_ ?_
  · refine s_lconst (z := 0) (pc2 := 130) X dX3_join_129 rfl rfl ?_
    refine s_sub (lv2 := []) [] rfl ?_
    exact z_X3_join_L130 d hd K X 0 (inL_c 0 rfl)
  · refine s_lconst (z := 1) (pc2 := 126) X dX3_join_125 rfl rfl ?_
    refine s_goto (pc2 := 130) X dX3_join_126 (by decide) ?_
    refine s_sub (lv2 := []) [] rfl ?_
    exact z_X3_join_L130 d hd K X 1 (inL_c 1 rfl)
theorem c_X3_join (d : Nat) (hd : 2 ≤ d) (G : hG) (l : Launch) (l0 : Int) (l1 : Int) (l3 : Int) (h0 : inI l0) (h1 : inL l1) (h3 : inL l3) : hMet G l yX3_join cX3_join 5 (some .long) d 0 0 [vI l0, vL l1, vL l3] (m_X3_join l0 l1 l3) := by
  refine hMet.of (lv := [(0, vI l0), (1, vL l1), (3, vL l3)]) (by decide +kernel) (by simp [lg_sl, vR_cat, vI_cat, vL_cat, vS_cat2, vT_cat2]) (by simp [lv_args, vR_cat, vI_cat, vL_cat, vS_cat2, vT_cat2]) (fun C K X => ?_)
  obtain ⟨rfl, rfl, K⟩ := K
  exact z_X3_join d hd ⟨rfl, rfl, K⟩ X l0 l1 l3 h0 h1 h3
def m_X3_reckon_L164 (s0 : Int) : hM :=
  hret s0
def m_X3_reckon_L143 (k6 : Nat → Int → Nat → Int → Int → hM) (l0 : Nat) (l2 : Int) (l3 : Nat) (l4 : Int) (l5 : Int) : hM :=
  hlet (w32 (l5 + 1)) fun (w1 : Int) =>
  k6 l0 l2 l3 l4 w1
def m_X3_reckon_L32 (k6 : Nat → Int → Nat → Int → Int → hM) (l0 : Nat) (l2 : Int) (l3 : Nat) (l4 : Int) (l5 : Int) : hM :=
  hgR 3 l0 5 fun v1 =>
  hlen 21 v1 fun v2 =>
  hif (l4 ≥ v2) (
m_X3_reckon_L143 k6 l0 l2 l3 l4 l5) (
hgR 3 l0 5 fun v3 =>
  hcallV 3 l0 (m_X3_pushed l0 l5 l3) fun v4 =>
  hsI 21 v3 l4 v4 <|
  hlet (w32 (l4 + 1)) fun (w5 : Int) =>
  m_X3_reckon_L143 k6 l0 l2 l3 w5 l5)
def m_X3_reckon_L104 (k6 : Nat → Int → Nat → Int → Int → hM) (l0 : Nat) (l2 : Int) (l3 : Nat) (l4 : Int) (l5 : Int) (l6 : Int) : hM :=
  hif (l4 ≤ 1) (
m_X3_reckon_L143 k6 l0 l2 l3 l4 l5) (
hlet (w32 (l4 + (-1))) fun (w1 : Int) =>
  hgR 3 l0 5 fun v2 =>
  hgR 3 l0 5 fun v3 =>
  haI 21 v3 ((w32 (w1 - 1))) fun v4 =>
  hgR 3 l0 5 fun v5 =>
  haI 21 v5 w1 fun v6 =>
  hcall (m_X3_join l6 v4 v6) fun v7 =>
  hsI 21 v2 ((w32 (w1 - 1))) v7 <|
  m_X3_reckon_L143 k6 l0 l2 l3 w1 l5)
def m_X3_reckon_L100 (k6 : Nat → Int → Nat → Int → Int → hM) (l0 : Nat) (l2 : Int) (l3 : Nat) (l4 : Int) (l5 : Int) (s0 : Nat) (s1 : Int) (s2 : Int) : hM :=
  hsI 21 s0 s1 s2 <|
  m_X3_reckon_L143 k6 l0 l2 l3 l4 l5
def m_X3_reckon_L6 : Nat → Nat → Int → Nat → Int → Int → hM
  | 0, _, _, _, _, _ => hfail
  | n + 1, l0, l2, l3, l4, l5 =>
    hif (l5 ≥ l2) (
hif (l4 ≤ 0) (
m_X3_reckon_L164 0) (
hgR 3 l0 5 fun v1 =>
  haI 21 v1 0 fun v2 =>
  m_X3_reckon_L164 v2)) (
hgR 3 l0 0 fun v3 =>
  haI 20 v3 l5 fun v4 =>
  hlet v4 fun (w5 : Int) =>
  hif (w5 = 0) (
m_X3_reckon_L32 (m_X3_reckon_L6 n) l0 l2 l3 l4 l5) (
hif (w5 ≠ 1) (
hif (w5 ≠ 2) (
m_X3_reckon_L104 (m_X3_reckon_L6 n) l0 l2 l3 l4 l5 w5) (
hif (l4 ≤ 0) (
m_X3_reckon_L104 (m_X3_reckon_L6 n) l0 l2 l3 l4 l5 w5) (
hgR 3 l0 5 fun v6 =>
  hgR 3 l0 5 fun v7 =>
  haI 21 v7 ((w32 (l4 - 1))) fun v8 =>
  hif (((lcmpZ v8 0)) ≠ 0) (
m_X3_reckon_L100 (m_X3_reckon_L6 n) l0 l2 l3 l4 l5 v6 ((w32 (l4 - 1))) 0) (
m_X3_reckon_L100 (m_X3_reckon_L6 n) l0 l2 l3 l4 l5 v6 ((w32 (l4 - 1))) 1)))) (
m_X3_reckon_L32 (m_X3_reckon_L6 n) l0 l2 l3 l4 l5)))
def m_X3_reckon (l0 : Nat) (l1 : Int) (l2 : Int) (l3 : Nat) : hM :=
  hlet (0 : Int) fun (w1 : Int) =>
  hlet l1 fun (w2 : Int) =>
  m_X3_reckon_L6 1000000000 l0 l2 l3 w1 w2
set_option maxRecDepth 4000 in
theorem z_X3_reckon_L164 (d : Nat) (hd : 3 ≤ d) {C : hCx} (K : hCtx C.1 C.2.2.1 d 0 0 "reckon" C) (X : hOK C cX3_reckon RX3 7 (some .long)) (s0 : Int) (g0 : inL s0) : hSim C (some .long) 0 0 7 164 [] [vL s0] 0 0 (m_X3_reckon_L164 s0) := by
  obtain ⟨⟨hf, hlo⟩, ⟨hc1, hc2⟩, hf1, hl1⟩ := K_room K (by omega)
  have hcs : 0 ≤ C.2.2.2.2.1.cells ∧ 0 ≤ C.2.2.2.2.1.slots := ⟨Nat.zero_le _, Nat.zero_le _⟩
  unfold m_X3_reckon_L164
  exact s_lret X dX3_reckon_164 g0
set_option maxRecDepth 4000 in
theorem z_X3_reckon_L143 (d : Nat) (hd : 3 ≤ d) {C : hCx} (K : hCtx C.1 C.2.2.1 d 0 0 "reckon" C) (X : hOK C cX3_reckon RX3 7 (some .long)) (k6 : Nat → Int → Nat → Int → Int → hM) (hk6 : ∀ (l0 : Nat) (l2 : Int) (l3 : Nat) (l4 : Int) (l5 : Int), inI l2 → inI l4 → inI l5 → hSim C (some .long) 0 0 7 6 [(0, vR C.1.1 l0), (2, vI l2), (3, vR C.1.1 l3), (4, vI l4), (5, vI l5)] [] 0 0 (k6 l0 l2 l3 l4 l5)) (l0 : Nat) (l2 : Int) (l3 : Nat) (l4 : Int) (l5 : Int) (h2 : inI l2) (h4 : inI l4) (h5 : inI l5) : hSim C (some .long) 0 0 7 143 [(0, vR C.1.1 l0), (2, vI l2), (3, vR C.1.1 l3), (4, vI l4), (5, vI l5)] [] 0 0 (m_X3_reckon_L143 k6 l0 l2 l3 l4 l5) := by
  obtain ⟨⟨hf, hlo⟩, ⟨hc1, hc2⟩, hf1, hl1⟩ := K_room K (by omega)
  have hcs : 0 ≤ C.2.2.2.2.1.cells ∧ 0 ≤ C.2.2.2.2.1.slots := ⟨Nat.zero_le _, Nat.zero_le _⟩
  unfold m_X3_reckon_L143
  refine s_iinc (j := 4) (pc2 := 146) X dX3_reckon_143 rfl (by decide) rfl rfl rfl cat1_I (fun w1 hw1 => ?_)
  refine s_goto (pc2 := 6) X dX3_reckon_146 (by decide) ?_
  refine s_sub (lv2 := [(0, vR C.1.1 l0), (2, vI l2), (3, vR C.1.1 l3), (4, vI l4), (5, vI w1)]) [1, 2, 3, 4, 0] rfl ?_
  exact hk6 l0 l2 l3 l4 w1 h2 h4 hw1
set_option maxRecDepth 4000 in
theorem z_X3_reckon_L32 (d : Nat) (hd : 3 ≤ d) {C : hCx} (K : hCtx C.1 C.2.2.1 d 0 0 "reckon" C) (X : hOK C cX3_reckon RX3 7 (some .long)) (k6 : Nat → Int → Nat → Int → Int → hM) (hk6 : ∀ (l0 : Nat) (l2 : Int) (l3 : Nat) (l4 : Int) (l5 : Int), inI l2 → inI l4 → inI l5 → hSim C (some .long) 0 0 7 6 [(0, vR C.1.1 l0), (2, vI l2), (3, vR C.1.1 l3), (4, vI l4), (5, vI l5)] [] 0 0 (k6 l0 l2 l3 l4 l5)) (l0 : Nat) (l2 : Int) (l3 : Nat) (l4 : Int) (l5 : Int) (h2 : inI l2) (h4 : inI l4) (h5 : inI l5) : hSim C (some .long) 0 0 7 32 [(0, vR C.1.1 l0), (2, vI l2), (3, vR C.1.1 l3), (4, vI l4), (5, vI l5)] [] 0 0 (m_X3_reckon_L32 k6 l0 l2 l3 l4 l5) := by
  obtain ⟨⟨hf, hlo⟩, ⟨hc1, hc2⟩, hf1, hl1⟩ := K_room K (by omega)
  have hcs : 0 ≤ C.2.2.2.2.1.cells ∧ 0 ≤ C.2.2.2.2.1.slots := ⟨Nat.zero_le _, Nat.zero_le _⟩
  unfold m_X3_reckon_L32
  refine s_iload (j := 3) (pc2 := 34) X dX3_reckon_32 rfl rfl ?_
  refine s_aload_n (j := 0) (pc2 := 35) X dX3_reckon_34 rfl rfl ?_
  refine s_getR (pc2 := 38) X dX3_reckon_35 rfl fl_RX3_29 rfl (fun v1 => ?_)
  refine s_alen21 (pc2 := 39) X dX3_reckon_38 rfl (fun v2 hv2 => ?_)
  refine s_icge (tgt := 143) X dX3_reckon_39 (by decide) rfl h4 hv2 ?_ ?_
  · exact z_X3_reckon_L143 d hd K X k6 hk6 l0 l2 l3 l4 l5 h2 h4 h5
  · refine s_aload_n (j := 0) (pc2 := 43) X dX3_reckon_42 rfl rfl ?_
    refine s_getR (pc2 := 46) X dX3_reckon_43 rfl fl_RX3_29 rfl (fun v3 => ?_)
    refine s_iload (j := 3) (pc2 := 48) X dX3_reckon_46 rfl rfl ?_
    refine s_aload_n (j := 0) (pc2 := 49) X dX3_reckon_48 rfl rfl ?_
    refine s_iload (j := 4) (pc2 := 51) X dX3_reckon_49 rfl rfl ?_
    refine s_aload_n (j := 2) (pc2 := 52) X dX3_reckon_51 rfl rfl ?_
    refine s_callVL (d2 := d - 1) (As := [vI l5, vR C.1.1 l3]) (st := [vI l4, vR C.1.1 v3]) (pc2 := 55) X dX3_reckon_52 rfl ml_RX3_138 im_X3_pushed se_X3_pushed kX3 rfl (c_X3_pushed (d - 1) (by omega) C.1 C.2.2.1 l0 l5 l3 h5) hy_X3_pushed rfl rfl hf hlo (st_room (Nat.le_of_ble_eq_true rfl)) hcs (fun v4 hv4 => ?_)
    refine s_last (pc2 := 56) X dX3_reckon_55 rfl hv4 ?_
    refine s_iinc (j := 3) (pc2 := 59) X dX3_reckon_56 rfl (by decide) rfl rfl rfl cat1_R (fun w5 hw5 => ?_)
    refine s_goto (pc2 := 143) X dX3_reckon_59 (by decide) ?_
    refine s_sub (lv2 := [(0, vR C.1.1 l0), (2, vI l2), (3, vR C.1.1 l3), (4, vI w5), (5, vI l5)]) [1, 2, 3, 0, 4] rfl ?_
    exact z_X3_reckon_L143 d hd K X k6 hk6 l0 l2 l3 w5 l5 h2 hw5 h5
set_option maxRecDepth 4000 in
theorem z_X3_reckon_L104 (d : Nat) (hd : 3 ≤ d) {C : hCx} (K : hCtx C.1 C.2.2.1 d 0 0 "reckon" C) (X : hOK C cX3_reckon RX3 7 (some .long)) (k6 : Nat → Int → Nat → Int → Int → hM) (hk6 : ∀ (l0 : Nat) (l2 : Int) (l3 : Nat) (l4 : Int) (l5 : Int), inI l2 → inI l4 → inI l5 → hSim C (some .long) 0 0 7 6 [(0, vR C.1.1 l0), (2, vI l2), (3, vR C.1.1 l3), (4, vI l4), (5, vI l5)] [] 0 0 (k6 l0 l2 l3 l4 l5)) (l0 : Nat) (l2 : Int) (l3 : Nat) (l4 : Int) (l5 : Int) (l6 : Int) (h2 : inI l2) (h4 : inI l4) (h5 : inI l5) (h6 : inI l6) : hSim C (some .long) 0 0 7 104 [(0, vR C.1.1 l0), (2, vI l2), (3, vR C.1.1 l3), (4, vI l4), (5, vI l5), (6, vI l6)] [] 0 0 (m_X3_reckon_L104 k6 l0 l2 l3 l4 l5 l6) := by
  obtain ⟨⟨hf, hlo⟩, ⟨hc1, hc2⟩, hf1, hl1⟩ := K_room K (by omega)
  have hcs : 0 ≤ C.2.2.2.2.1.cells ∧ 0 ≤ C.2.2.2.2.1.slots := ⟨Nat.zero_le _, Nat.zero_le _⟩
  unfold m_X3_reckon_L104
  refine s_iload (j := 3) (pc2 := 106) X dX3_reckon_104 rfl rfl ?_
  refine s_iconst (n := 1) (pc2 := 107) X dX3_reckon_106 rfl ?_
  refine s_icle (tgt := 143) X dX3_reckon_107 (by decide) rfl h4 (inI_c 1 rfl) ?_ ?_
  · refine s_sub (lv2 := [(0, vR C.1.1 l0), (2, vI l2), (3, vR C.1.1 l3), (4, vI l4), (5, vI l5)]) [0, 1, 2, 3, 4] rfl ?_
    exact z_X3_reckon_L143 d hd K X k6 hk6 l0 l2 l3 l4 l5 h2 h4 h5
  · refine s_iinc (j := 3) (pc2 := 113) X dX3_reckon_110 rfl (by decide) rfl rfl rfl cat1_R (fun w1 hw1 => ?_)
    refine s_aload_n (j := 1) (pc2 := 114) X dX3_reckon_113 rfl rfl ?_
    refine s_getR (pc2 := 117) X dX3_reckon_114 rfl fl_RX3_29 rfl (fun v2 => ?_)
    refine s_iload (j := 0) (pc2 := 119) X dX3_reckon_117 rfl rfl ?_
    refine s_iconst (n := 1) (pc2 := 120) X dX3_reckon_119 rfl ?_
    refine s_isub (pc2 := 121) X dX3_reckon_120 rfl ?_
    refine s_iload (j := 5) (pc2 := 123) X dX3_reckon_121 rfl rfl ?_
    refine s_aload_n (j := 1) (pc2 := 124) X dX3_reckon_123 rfl rfl ?_
    refine s_getR (pc2 := 127) X dX3_reckon_124 rfl fl_RX3_29 rfl (fun v3 => ?_)
    refine s_iload (j := 0) (pc2 := 129) X dX3_reckon_127 rfl rfl ?_
    refine s_iconst (n := 1) (pc2 := 130) X dX3_reckon_129 rfl ?_
    refine s_isub (pc2 := 131) X dX3_reckon_130 rfl ?_
    refine s_lald (pc2 := 132) X dX3_reckon_131 rfl (fun v4 hv4 => ?_)
    refine s_aload_n (j := 1) (pc2 := 133) X dX3_reckon_132 rfl rfl ?_
    refine s_getR (pc2 := 136) X dX3_reckon_133 rfl fl_RX3_29 rfl (fun v5 => ?_)
    refine s_iload (j := 0) (pc2 := 138) X dX3_reckon_136 rfl rfl ?_
    refine s_lald (pc2 := 139) X dX3_reckon_138 rfl (fun v6 hv6 => ?_)
    refine s_callSL (d2 := d - 1) (As := [vI l6, vL v4, vL v6]) (st := [vI ((w32 (w1 - 1))), vR C.1.1 v2]) (pc2 := 142) X dX3_reckon_139 rfl ml_RX3_142 sm_X3_join (c_X3_join (d - 1) (by omega) C.1 C.2.2.1 l6 v4 v6 h6 hv4 hv6) hy_X3_join rfl rfl hf hlo (st_room (Nat.le_of_ble_eq_true rfl)) hcs (fun v7 hv7 => ?_)
    refine s_last (pc2 := 143) X dX3_reckon_142 rfl hv7 ?_
    refine s_sub (lv2 := [(0, vR C.1.1 l0), (2, vI l2), (3, vR C.1.1 l3), (4, vI w1), (5, vI l5)]) [1, 2, 3, 0, 4] rfl ?_
    exact z_X3_reckon_L143 d hd K X k6 hk6 l0 l2 l3 w1 l5 h2 hw1 h5
set_option maxRecDepth 4000 in
theorem z_X3_reckon_L100 (d : Nat) (hd : 3 ≤ d) {C : hCx} (K : hCtx C.1 C.2.2.1 d 0 0 "reckon" C) (X : hOK C cX3_reckon RX3 7 (some .long)) (k6 : Nat → Int → Nat → Int → Int → hM) (hk6 : ∀ (l0 : Nat) (l2 : Int) (l3 : Nat) (l4 : Int) (l5 : Int), inI l2 → inI l4 → inI l5 → hSim C (some .long) 0 0 7 6 [(0, vR C.1.1 l0), (2, vI l2), (3, vR C.1.1 l3), (4, vI l4), (5, vI l5)] [] 0 0 (k6 l0 l2 l3 l4 l5)) (l0 : Nat) (l2 : Int) (l3 : Nat) (l4 : Int) (l5 : Int) (s0 : Nat) (s1 : Int) (s2 : Int) (h2 : inI l2) (h4 : inI l4) (h5 : inI l5) (g1 : inI s1) (g2 : inL s2) : hSim C (some .long) 0 0 7 100 [(0, vR C.1.1 l0), (2, vI l2), (3, vR C.1.1 l3), (4, vI l4), (5, vI l5)] [vL s2, vI s1, vR C.1.1 s0] 0 0 (m_X3_reckon_L100 k6 l0 l2 l3 l4 l5 s0 s1 s2) := by
  obtain ⟨⟨hf, hlo⟩, ⟨hc1, hc2⟩, hf1, hl1⟩ := K_room K (by omega)
  have hcs : 0 ≤ C.2.2.2.2.1.cells ∧ 0 ≤ C.2.2.2.2.1.slots := ⟨Nat.zero_le _, Nat.zero_le _⟩
  unfold m_X3_reckon_L100
  refine s_last (pc2 := 101) X dX3_reckon_100 rfl g2 ?_
  refine s_goto (pc2 := 143) X dX3_reckon_101 (by decide) ?_
  exact z_X3_reckon_L143 d hd K X k6 hk6 l0 l2 l3 l4 l5 h2 h4 h5
set_option maxRecDepth 4000 in
theorem z_X3_reckon_L6 (d : Nat) (hd : 3 ≤ d) {C : hCx} (K : hCtx C.1 C.2.2.1 d 0 0 "reckon" C) (X : hOK C cX3_reckon RX3 7 (some .long)) : ∀ (n : Nat) (l0 : Nat) (l2 : Int) (l3 : Nat) (l4 : Int) (l5 : Int) (h2 : inI l2) (h4 : inI l4) (h5 : inI l5), hSim C (some .long) 0 0 7 6 [(0, vR C.1.1 l0), (2, vI l2), (3, vR C.1.1 l3), (4, vI l4), (5, vI l5)] [] 0 0 (m_X3_reckon_L6 n l0 l2 l3 l4 l5) := by
  obtain ⟨⟨hf, hlo⟩, ⟨hc1, hc2⟩, hf1, hl1⟩ := K_room K (by omega)
  have hcs : 0 ≤ C.2.2.2.2.1.cells ∧ 0 ≤ C.2.2.2.2.1.slots := ⟨Nat.zero_le _, Nat.zero_le _⟩
  intro n
  induction n with
  | zero => intros; exact s_none (fun _ => rfl)
  | succ n ih =>
    intro l0 l2 l3 l4 l5 h2 h4 h5
    unfold m_X3_reckon_L6
    refine s_iload (j := 4) (pc2 := 8) X dX3_reckon_6 rfl rfl ?_
    refine s_iload_n (j := 1) (pc2 := 9) X dX3_reckon_8 rfl rfl ?_
    refine s_icge (tgt := 149) X dX3_reckon_9 (by decide) rfl h5 h2 ?_ ?_
    · refine s_iload (j := 3) (pc2 := 151) X dX3_reckon_149 rfl rfl ?_
      refine s_ifle (tgt := 163) X dX3_reckon_151 (by decide) rfl h4 ?_ ?_
      · refine s_lconst (z := 0) (pc2 := 164) X dX3_reckon_163 rfl rfl ?_
        refine s_sub (lv2 := []) [] rfl ?_
        exact z_X3_reckon_L164 d hd K X 0 (inL_c 0 rfl)
      · refine s_aload_n (j := 0) (pc2 := 155) X dX3_reckon_154 rfl rfl ?_
        refine s_getR (pc2 := 158) X dX3_reckon_155 rfl fl_RX3_29 rfl (fun v1 => ?_)
        refine s_iconst (n := 0) (pc2 := 159) X dX3_reckon_158 rfl ?_
        refine s_lald (pc2 := 160) X dX3_reckon_159 rfl (fun v2 hv2 => ?_)
        refine s_goto (pc2 := 164) X dX3_reckon_160 (by decide) ?_
        refine s_sub (lv2 := []) [] rfl ?_
        exact z_X3_reckon_L164 d hd K X v2 hv2
    · refine s_aload_n (j := 0) (pc2 := 13) X dX3_reckon_12 rfl rfl ?_
      refine s_getR (pc2 := 16) X dX3_reckon_13 rfl fl_RX3_11 rfl (fun v3 => ?_)
      refine s_iload (j := 4) (pc2 := 18) X dX3_reckon_16 rfl rfl ?_
      refine s_iald (pc2 := 19) X dX3_reckon_18 rfl (fun v4 hv4 => ?_)
      refine s_istore (pc2 := 21) X dX3_reckon_19 rfl (by decide) rfl rfl cat1_I hv4 (fun w5 hw5 => ?_)
      refine s_iload (j := 0) (pc2 := 23) X dX3_reckon_21 rfl rfl ?_
      refine s_ifeq (tgt := 32) X dX3_reckon_23 (by decide) rfl hw5 ?_ ?_
      · refine s_sub (lv2 := [(0, vR C.1.1 l0), (2, vI l2), (3, vR C.1.1 l3), (4, vI l4), (5, vI l5)]) [1, 2, 3, 4, 5] rfl ?_
        exact z_X3_reckon_L32 d hd K X (m_X3_reckon_L6 n) ih l0 l2 l3 l4 l5 h2 h4 h5
      · refine s_iload (j := 0) (pc2 := 28) X dX3_reckon_26 rfl rfl ?_
        refine s_iconst (n := 1) (pc2 := 29) X dX3_reckon_28 rfl ?_
        refine s_icne (tgt := 62) X dX3_reckon_29 (by decide) rfl hw5 (inI_c 1 rfl) ?_ ?_
        · refine s_iload (j := 0) (pc2 := 64) X dX3_reckon_62 rfl rfl ?_
          refine s_iconst (n := 2) (pc2 := 65) X dX3_reckon_64 rfl ?_
          refine s_icne (tgt := 104) X dX3_reckon_65 (by decide) rfl hw5 (inI_c 2 rfl) ?_ ?_
          · refine s_sub (lv2 := [(0, vR C.1.1 l0), (2, vI l2), (3, vR C.1.1 l3), (4, vI l4), (5, vI l5), (6, vI w5)]) [1, 2, 3, 4, 5, 0] rfl ?_
            exact z_X3_reckon_L104 d hd K X (m_X3_reckon_L6 n) ih l0 l2 l3 l4 l5 w5 h2 h4 h5 hw5
          · refine s_iload (j := 4) (pc2 := 70) X dX3_reckon_68 rfl rfl ?_
            refine s_ifle (tgt := 104) X dX3_reckon_70 (by decide) rfl h4 ?_ ?_
            · refine s_sub (lv2 := [(0, vR C.1.1 l0), (2, vI l2), (3, vR C.1.1 l3), (4, vI l4), (5, vI l5), (6, vI w5)]) [1, 2, 3, 4, 5, 0] rfl ?_
              exact z_X3_reckon_L104 d hd K X (m_X3_reckon_L6 n) ih l0 l2 l3 l4 l5 w5 h2 h4 h5 hw5
            · refine s_aload_n (j := 1) (pc2 := 74) X dX3_reckon_73 rfl rfl ?_
              refine s_getR (pc2 := 77) X dX3_reckon_74 rfl fl_RX3_29 rfl (fun v6 => ?_)
              refine s_iload (j := 4) (pc2 := 79) X dX3_reckon_77 rfl rfl ?_
              refine s_iconst (n := 1) (pc2 := 80) X dX3_reckon_79 rfl ?_
              refine s_isub (pc2 := 81) X dX3_reckon_80 rfl ?_
              refine s_aload_n (j := 1) (pc2 := 82) X dX3_reckon_81 rfl rfl ?_
              refine s_getR (pc2 := 85) X dX3_reckon_82 rfl fl_RX3_29 rfl (fun v7 => ?_)
              refine s_iload (j := 4) (pc2 := 87) X dX3_reckon_85 rfl rfl ?_
              refine s_iconst (n := 1) (pc2 := 88) X dX3_reckon_87 rfl ?_
              refine s_isub (pc2 := 89) X dX3_reckon_88 rfl ?_
              refine s_lald (pc2 := 90) X dX3_reckon_89 rfl (fun v8 hv8 => ?_)
              refine s_lconst (z := 0) (pc2 := 91) X dX3_reckon_90 rfl rfl ?_
              refine s_lcmp (pc2 := 92) X dX3_reckon_91 rfl hv8 (inL_c 0 rfl) ?_
              refine s_ifne (tgt := 99) X dX3_reckon_92 (by decide) rfl (lcmpZ_in _ _) ?_ ?_
              · refine s_lconst (z := 0) (pc2 := 100) X dX3_reckon_99 rfl rfl ?_
                refine s_sub (lv2 := [(0, vR C.1.1 l0), (2, vI l2), (3, vR C.1.1 l3), (4, vI l4), (5, vI l5)]) [1, 2, 3, 4, 5] rfl ?_
                exact z_X3_reckon_L100 d hd K X (m_X3_reckon_L6 n) ih l0 l2 l3 l4 l5 v6 ((w32 (l4 - 1))) 0 h2 h4 h5 (w32_in _) (inL_c 0 rfl)
              · refine s_lconst (z := 1) (pc2 := 96) X dX3_reckon_95 rfl rfl ?_
                refine s_goto (pc2 := 100) X dX3_reckon_96 (by decide) ?_
                refine s_sub (lv2 := [(0, vR C.1.1 l0), (2, vI l2), (3, vR C.1.1 l3), (4, vI l4), (5, vI l5)]) [1, 2, 3, 4, 5] rfl ?_
                exact z_X3_reckon_L100 d hd K X (m_X3_reckon_L6 n) ih l0 l2 l3 l4 l5 v6 ((w32 (l4 - 1))) 1 h2 h4 h5 (w32_in _) (inL_c 1 rfl)
        · refine s_sub (lv2 := [(0, vR C.1.1 l0), (2, vI l2), (3, vR C.1.1 l3), (4, vI l4), (5, vI l5)]) [1, 2, 3, 4, 5] rfl ?_
          exact z_X3_reckon_L32 d hd K X (m_X3_reckon_L6 n) ih l0 l2 l3 l4 l5 h2 h4 h5
set_option maxRecDepth 4000 in
set_option maxHeartbeats 20000000 in
theorem z_X3_reckon (d : Nat) (hd : 3 ≤ d) {C : hCx} (K : hCtx C.1 C.2.2.1 d 0 0 "reckon" C) (X : hOK C cX3_reckon RX3 7 (some .long)) (l0 : Nat) (l1 : Int) (l2 : Int) (l3 : Nat) (h1 : inI l1) (h2 : inI l2) : hSim C (some .long) 0 0 7 0 [(0, vR C.1.1 l0), (1, vI l1), (2, vI l2), (3, vR C.1.1 l3)] [] 0 0 (m_X3_reckon l0 l1 l2 l3) := by
  obtain ⟨⟨hf, hlo⟩, ⟨hc1, hc2⟩, hf1, hl1⟩ := K_room K (by omega)
  have hcs : 0 ≤ C.2.2.2.2.1.cells ∧ 0 ≤ C.2.2.2.2.1.slots := ⟨Nat.zero_le _, Nat.zero_le _⟩
  unfold m_X3_reckon
  refine s_iconst (n := 0) (pc2 := 1) X dX3_reckon_0 rfl ?_
  refine s_istore (pc2 := 3) X dX3_reckon_1 rfl (by decide) rfl rfl cat1_R (inI_c 0 rfl) (fun w1 hw1 => ?_)
  refine s_iload_n (j := 2) (pc2 := 4) X dX3_reckon_3 rfl rfl ?_
  refine s_istore (pc2 := 6) X dX3_reckon_4 rfl (by decide) rfl rfl cat1_I h1 (fun w2 hw2 => ?_)
  refine s_sub (lv2 := [(0, vR C.1.1 l0), (2, vI l2), (3, vR C.1.1 l3), (4, vI w1), (5, vI w2)]) [2, 4, 5, 1, 0] rfl ?_
  exact z_X3_reckon_L6 d hd K X 1000000000 l0 l2 l3 w1 w2 h2 hw1 hw2
theorem c_X3_reckon (d : Nat) (hd : 3 ≤ d) (G : hG) (l : Launch) (l0 : Nat) (l1 : Int) (l2 : Int) (l3 : Nat) (h1 : inI l1) (h2 : inI l2) : hMet G l yX3_reckon cX3_reckon 7 (some .long) d 0 0 [vR G.1 l0, vI l1, vI l2, vR G.1 l3] (m_X3_reckon l0 l1 l2 l3) := by
  refine hMet.of (lv := [(0, vR G.1 l0), (1, vI l1), (2, vI l2), (3, vR G.1 l3)]) (by decide +kernel) (by simp [lg_sl, vR_cat, vI_cat, vL_cat, vS_cat2, vT_cat2]) (by simp [lv_args, vR_cat, vI_cat, vL_cat, vS_cat2, vT_cat2]) (fun C K X => ?_)
  obtain ⟨rfl, rfl, K⟩ := K
  exact z_X3_reckon d hd ⟨rfl, rfl, K⟩ X l0 l1 l2 l3 h1 h2
def m_X3_valueFor_L44 (l0 : Nat) (l1 : Nat) (l2 : Int) (l3 : Int) : hM :=
  hgR 3 l0 2 fun v1 =>
  haI 20 v1 l2 fun v2 =>
  hcallV 3 l0 (m_X3_reckon l0 v2 l3 l1) fun v3 =>
  hret v3
def m_X3_valueFor_L2 : Nat → Nat → Nat → Int → hM
  | 0, _, _, _ => hfail
  | n + 1, l0, l1, l2 =>
    hgI 3 l0 7 fun v1 =>
  hif (l2 ≥ v1) (
hret 0) (
hgR 3 l0 3 fun v2 =>
  haI 20 v2 l2 fun v3 =>
  hlet v3 fun (w4 : Int) =>
  hgR 3 l0 4 fun v5 =>
  haI 20 v5 l2 fun v6 =>
  hlet v6 fun (w7 : Int) =>
  hif (w4 = w7) (
m_X3_valueFor_L44 l0 l1 l2 w4) (
hcallV 3 l0 (m_X3_reckon l0 w4 w7 l1) fun v8 =>
  hif (((lcmpZ v8 0)) = 0) (
hlet (w32 (l2 + 1)) fun (w9 : Int) =>
  m_X3_valueFor_L2 n l0 l1 w9) (
m_X3_valueFor_L44 l0 l1 l2 w4)))
def m_X3_valueFor (l0 : Nat) (l1 : Nat) : hM :=
  hlet (0 : Int) fun (w1 : Int) =>
  m_X3_valueFor_L2 1000000000 l0 l1 w1
set_option maxRecDepth 4000 in
theorem z_X3_valueFor_L44 (d : Nat) (hd : 4 ≤ d) {C : hCx} (K : hCtx C.1 C.2.2.1 d 0 0 "valueFor" C) (X : hOK C cX3_valueFor RX3 5 (some .long)) (l0 : Nat) (l1 : Nat) (l2 : Int) (l3 : Int) (h2 : inI l2) (h3 : inI l3) : hSim C (some .long) 0 0 5 44 [(0, vR C.1.1 l0), (1, vR C.1.1 l1), (2, vI l2), (3, vI l3)] [] 0 0 (m_X3_valueFor_L44 l0 l1 l2 l3) := by
  obtain ⟨⟨hf, hlo⟩, ⟨hc1, hc2⟩, hf1, hl1⟩ := K_room K (by omega)
  have hcs : 0 ≤ C.2.2.2.2.1.cells ∧ 0 ≤ C.2.2.2.2.1.slots := ⟨Nat.zero_le _, Nat.zero_le _⟩
  unfold m_X3_valueFor_L44
  refine s_aload_n (j := 0) (pc2 := 45) X dX3_valueFor_44 rfl rfl ?_
  refine s_aload_n (j := 0) (pc2 := 46) X dX3_valueFor_45 rfl rfl ?_
  refine s_getR (pc2 := 49) X dX3_valueFor_46 rfl fl_RX3_20 rfl (fun v1 => ?_)
  refine s_iload_n (j := 2) (pc2 := 50) X dX3_valueFor_49 rfl rfl ?_
  refine s_iald (pc2 := 51) X dX3_valueFor_50 rfl (fun v2 hv2 => ?_)
  refine s_iload_n (j := 3) (pc2 := 52) X dX3_valueFor_51 rfl rfl ?_
  refine s_aload_n (j := 1) (pc2 := 53) X dX3_valueFor_52 rfl rfl ?_
  refine s_callVL (d2 := d - 1) (As := [vI v2, vI l3, vR C.1.1 l1]) (st := []) (pc2 := 56) X dX3_valueFor_53 rfl ml_RX3_134 im_X3_reckon se_X3_reckon kX3 rfl (c_X3_reckon (d - 1) (by omega) C.1 C.2.2.1 l0 v2 l3 l1 hv2 h3) hy_X3_reckon rfl rfl hf hlo (st_room (Nat.le_of_ble_eq_true rfl)) hcs (fun v3 hv3 => ?_)
  exact s_lret X dX3_valueFor_56 hv3
set_option maxRecDepth 4000 in
theorem z_X3_valueFor_L2 (d : Nat) (hd : 4 ≤ d) {C : hCx} (K : hCtx C.1 C.2.2.1 d 0 0 "valueFor" C) (X : hOK C cX3_valueFor RX3 5 (some .long)) : ∀ (n : Nat) (l0 : Nat) (l1 : Nat) (l2 : Int) (h2 : inI l2), hSim C (some .long) 0 0 5 2 [(0, vR C.1.1 l0), (1, vR C.1.1 l1), (2, vI l2)] [] 0 0 (m_X3_valueFor_L2 n l0 l1 l2) := by
  obtain ⟨⟨hf, hlo⟩, ⟨hc1, hc2⟩, hf1, hl1⟩ := K_room K (by omega)
  have hcs : 0 ≤ C.2.2.2.2.1.cells ∧ 0 ≤ C.2.2.2.2.1.slots := ⟨Nat.zero_le _, Nat.zero_le _⟩
  intro n
  induction n with
  | zero => intros; exact s_none (fun _ => rfl)
  | succ n ih =>
    intro l0 l1 l2 h2
    unfold m_X3_valueFor_L2
    refine s_iload_n (j := 2) (pc2 := 3) X dX3_valueFor_2 rfl rfl ?_
    refine s_aload_n (j := 0) (pc2 := 4) X dX3_valueFor_3 rfl rfl ?_
    refine s_getI (pc2 := 7) X dX3_valueFor_4 rfl fl_RX3_37 rfl (fun v1 hv1 => ?_)
    refine s_icge (tgt := 63) X dX3_valueFor_7 (by decide) rfl h2 hv1 ?_ ?_
    · refine s_lconst (z := 0) (pc2 := 64) X dX3_valueFor_63 rfl rfl ?_
      exact s_lret X dX3_valueFor_64 (inL_c 0 rfl)
    · refine s_aload_n (j := 0) (pc2 := 11) X dX3_valueFor_10 rfl rfl ?_
      refine s_getR (pc2 := 14) X dX3_valueFor_11 rfl fl_RX3_23 rfl (fun v2 => ?_)
      refine s_iload_n (j := 2) (pc2 := 15) X dX3_valueFor_14 rfl rfl ?_
      refine s_iald (pc2 := 16) X dX3_valueFor_15 rfl (fun v3 hv3 => ?_)
      refine s_istore_n (pc2 := 17) X dX3_valueFor_16 rfl (by decide) rfl rfl cat1_I hv3 (fun w4 hw4 => ?_)
      refine s_aload_n (j := 1) (pc2 := 18) X dX3_valueFor_17 rfl rfl ?_
      refine s_getR (pc2 := 21) X dX3_valueFor_18 rfl fl_RX3_26 rfl (fun v5 => ?_)
      refine s_iload_n (j := 3) (pc2 := 22) X dX3_valueFor_21 rfl rfl ?_
      refine s_iald (pc2 := 23) X dX3_valueFor_22 rfl (fun v6 hv6 => ?_)
      refine s_istore (pc2 := 25) X dX3_valueFor_23 rfl (by decide) rfl rfl cat1_I hv6 (fun w7 hw7 => ?_)
      refine s_iload_n (j := 1) (pc2 := 26) X dX3_valueFor_25 rfl rfl ?_
      refine s_iload (j := 0) (pc2 := 28) X dX3_valueFor_26 rfl rfl ?_
      refine s_iceq (tgt := 44) X dX3_valueFor_28 (by decide) rfl hw4 hw7 ?_ ?_
      · refine s_sub (lv2 := [(0, vR C.1.1 l0), (1, vR C.1.1 l1), (2, vI l2), (3, vI w4)]) [2, 3, 4, 1] rfl ?_
        exact z_X3_valueFor_L44 d hd K X l0 l1 l2 w4 h2 hw4
      · refine s_aload_n (j := 2) (pc2 := 32) X dX3_valueFor_31 rfl rfl ?_
        refine s_iload_n (j := 1) (pc2 := 33) X dX3_valueFor_32 rfl rfl ?_
        refine s_iload (j := 0) (pc2 := 35) X dX3_valueFor_33 rfl rfl ?_
        refine s_aload_n (j := 3) (pc2 := 36) X dX3_valueFor_35 rfl rfl ?_
        refine s_callVL (d2 := d - 1) (As := [vI w4, vI w7, vR C.1.1 l1]) (st := []) (pc2 := 39) X dX3_valueFor_36 rfl ml_RX3_134 im_X3_reckon se_X3_reckon kX3 rfl (c_X3_reckon (d - 1) (by omega) C.1 C.2.2.1 l0 w4 w7 l1 hw4 hw7) hy_X3_reckon rfl rfl hf hlo (st_room (Nat.le_of_ble_eq_true rfl)) hcs (fun v8 hv8 => ?_)
        refine s_lconst (z := 0) (pc2 := 40) X dX3_valueFor_39 rfl rfl ?_
        refine s_lcmp (pc2 := 41) X dX3_valueFor_40 rfl hv8 (inL_c 0 rfl) ?_
        refine s_ifeq (tgt := 57) X dX3_valueFor_41 (by decide) rfl (lcmpZ_in _ _) ?_ ?_
        · refine s_iinc (j := 4) (pc2 := 60) X dX3_valueFor_57 rfl (by decide) rfl rfl rfl cat1_R (fun w9 hw9 => ?_)
          refine s_goto (pc2 := 2) X dX3_valueFor_60 (by decide) ?_
          refine s_sub (lv2 := [(0, vR C.1.1 l0), (1, vR C.1.1 l1), (2, vI w9)]) [3, 4, 0] rfl ?_
          exact ih l0 l1 w9 hw9
        · refine s_sub (lv2 := [(0, vR C.1.1 l0), (1, vR C.1.1 l1), (2, vI l2), (3, vI w4)]) [2, 3, 4, 1] rfl ?_
          exact z_X3_valueFor_L44 d hd K X l0 l1 l2 w4 h2 hw4
set_option maxRecDepth 4000 in
set_option maxHeartbeats 20000000 in
theorem z_X3_valueFor (d : Nat) (hd : 4 ≤ d) {C : hCx} (K : hCtx C.1 C.2.2.1 d 0 0 "valueFor" C) (X : hOK C cX3_valueFor RX3 5 (some .long)) (l0 : Nat) (l1 : Nat) : hSim C (some .long) 0 0 5 0 [(0, vR C.1.1 l0), (1, vR C.1.1 l1)] [] 0 0 (m_X3_valueFor l0 l1) := by
  obtain ⟨⟨hf, hlo⟩, ⟨hc1, hc2⟩, hf1, hl1⟩ := K_room K (by omega)
  have hcs : 0 ≤ C.2.2.2.2.1.cells ∧ 0 ≤ C.2.2.2.2.1.slots := ⟨Nat.zero_le _, Nat.zero_le _⟩
  unfold m_X3_valueFor
  refine s_iconst (n := 0) (pc2 := 1) X dX3_valueFor_0 rfl ?_
  refine s_istore_n (pc2 := 2) X dX3_valueFor_1 rfl (by decide) rfl rfl cat1_R (inI_c 0 rfl) (fun w1 hw1 => ?_)
  refine s_sub (lv2 := [(0, vR C.1.1 l0), (1, vR C.1.1 l1), (2, vI w1)]) [1, 2, 0] rfl ?_
  exact z_X3_valueFor_L2 d hd K X 1000000000 l0 l1 w1 hw1
theorem c_X3_valueFor (d : Nat) (hd : 4 ≤ d) (G : hG) (l : Launch) (l0 : Nat) (l1 : Nat) : hMet G l yX3_valueFor cX3_valueFor 5 (some .long) d 0 0 [vR G.1 l0, vR G.1 l1] (m_X3_valueFor l0 l1) := by
  refine hMet.of (lv := [(0, vR G.1 l0), (1, vR G.1 l1)]) (by decide +kernel) (by simp [lg_sl, vR_cat, vI_cat, vL_cat, vS_cat2, vT_cat2]) (by simp [lv_args, vR_cat, vI_cat, vL_cat, vS_cat2, vT_cat2]) (fun C K X => ?_)
  obtain ⟨rfl, rfl, K⟩ := K
  exact z_X3_valueFor d hd ⟨rfl, rfl, K⟩ X l0 l1
