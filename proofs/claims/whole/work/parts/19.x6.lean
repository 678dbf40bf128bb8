def m_X6_init (l0 : Nat) : hM :=
  hnewA 22 400 fun v1 =>
  hpR 6 l0 0 v1 <|
  hpI 6 l0 1 0 <|
  hpI 6 l0 2 0 <|
  hpI 6 l0 3 0 <|
  hpI 6 l0 4 0 <|
  hret 0
set_option maxRecDepth 4000 in
set_option maxHeartbeats 20000000 in
theorem z_X6_init (d : Nat) (hd : 1 ≤ d) {C : hCx} (K : hCtx C.1 C.2.2.1 d 1 400 "<init>" C) (X : hOK C cX6_init RX6 1 none) (l0 : Nat) (p0 : 0 < l0) : hSim C none 1 400 1 0 [(0, vR C.1.1 l0)] [] 0 0 (m_X6_init l0) := by
  obtain ⟨⟨hf, hlo⟩, ⟨hc1, hc2⟩, hf1, hl1⟩ := K_room K (by omega)
  have hcs : 0 ≤ C.2.2.2.2.1.cells ∧ 0 ≤ C.2.2.2.2.1.slots := ⟨Nat.zero_le _, Nat.zero_le _⟩
  unfold m_X6_init
  refine s_aload_n (j := 0) (pc2 := 1) X dX6_init_0 rfl rfl ?_
  refine s_objI (pc2 := 4) X dX6_init_1 rfl ml_RX6_3 im_objectInit co_objectInit p0 hf1 hl1 (st_room (Nat.le_of_ble_eq_true rfl)) ?_
  refine s_aload_n (j := 0) (pc2 := 5) X dX6_init_4 rfl rfl ?_
  refine s_sipush (n := 400) (pc2 := 8) X dX6_init_5 rfl rfl ?_
  refine s_newa22 (N := 400) (pc2 := 10) X dX6_init_8 rfl rfl (by decide) ac_byte (by rw [hc1]; exact Nat.le_of_ble_eq_true rfl) (by rw [hc2]; exact Nat.le_of_ble_eq_true rfl) (fun v1 => ?_)
  refine s_cs 1 400 rfl rfl ?_
  refine s_putR (pc2 := 13) X dX6_init_10 rfl fl_RX6_11 (Or.inr ⟨K.2.2.2, _, rfl, rfl⟩) rfl ?_
  refine s_aload_n (j := 0) (pc2 := 14) X dX6_init_13 rfl rfl ?_
  refine s_iconst (n := 0) (pc2 := 15) X dX6_init_14 rfl ?_
  refine s_putI (pc2 := 18) X dX6_init_15 rfl fl_RX6_15 (Or.inl rfl) rfl (inI_c 0 rfl) ?_
  refine s_aload_n (j := 0) (pc2 := 19) X dX6_init_18 rfl rfl ?_
  refine s_iconst (n := 0) (pc2 := 20) X dX6_init_19 rfl ?_
  refine s_putI (pc2 := 23) X dX6_init_20 rfl fl_RX6_19 (Or.inl rfl) rfl (inI_c 0 rfl) ?_
  refine s_aload_n (j := 0) (pc2 := 24) X dX6_init_23 rfl rfl ?_
  refine s_iconst (n := 0) (pc2 := 25) X dX6_init_24 rfl ?_
  refine s_putI (pc2 := 28) X dX6_init_25 rfl fl_RX6_22 (Or.inl rfl) rfl (inI_c 0 rfl) ?_
  refine s_aload_n (j := 0) (pc2 := 29) X dX6_init_28 rfl rfl ?_
  refine s_iconst (n := 0) (pc2 := 30) X dX6_init_29 rfl ?_
  refine s_putI (pc2 := 33) X dX6_init_30 rfl fl_RX6_25 (Or.inl rfl) rfl (inI_c 0 rfl) ?_
  exact s_ret X dX6_init_33
theorem c_X6_init (d : Nat) (hd : 1 ≤ d) (G : hG) (l : Launch) (l0 : Nat) (p0 : 0 < l0) : hMet G l yX6_init cX6_init 1 none d 1 400 [vR G.1 l0] (m_X6_init l0) := by
  refine hMet.of (lv := [(0, vR G.1 l0)]) (by decide +kernel) (by simp [lg_sl, vR_cat, vI_cat, vL_cat, vS_cat2, vT_cat2]) (by simp [lv_args, vR_cat, vI_cat, vL_cat, vS_cat2, vT_cat2]) (fun C K X => ?_)
  obtain ⟨rfl, rfl, K⟩ := K
  exact z_X6_init d hd ⟨rfl, rfl, K⟩ X l0 p0
def m_X6_put_L46 : hM :=
  hret 0
def m_X6_put_L3 : Nat → Nat → Int → Int → hM
  | 0, _, _, _ => hfail
  | n + 1, l0, l1, l2 =>
    hif (l2 < 0) (
m_X6_put_L46) (
hgI 6 l0 1 fun v1 =>
  hif (v1 ≥ 400) (
m_X6_put_L46) (
hgR 6 l0 0 fun v2 =>
  hgI 6 l0 1 fun v3 =>
  hsI 22 v2 v3 (i2bZ ((i2bZ ((ishrZ l1 l2))))) <|
  hgI 6 l0 1 fun v4 =>
  hpI 6 l0 1 ((w32 (v4 + 1))) <|
  hlet (w32 (l2 + (-8))) fun (w5 : Int) =>
  m_X6_put_L3 n l0 l1 w5))
def m_X6_put (l0 : Nat) (l1 : Int) : hM :=
  hlet (24 : Int) fun (w1 : Int) =>
  m_X6_put_L3 1000000000 l0 l1 w1
set_option maxRecDepth 4000 in
theorem z_X6_put_L46 (d : Nat) (hd : 1 ≤ d) {C : hCx} (K : hCtx C.1 C.2.2.1 d 0 0 "put" C) (X : hOK C cX6_put RX6 3 none) : hSim C none 0 0 3 46 [] [] 0 0 (m_X6_put_L46) := by
  obtain ⟨⟨hf, hlo⟩, ⟨hc1, hc2⟩, hf1, hl1⟩ := K_room K (by omega)
  have hcs : 0 ≤ C.2.2.2.2.1.cells ∧ 0 ≤ C.2.2.2.2.1.slots := ⟨Nat.zero_le _, Nat.zero_le _⟩
  unfold m_X6_put_L46
  exact s_ret X dX6_put_46
set_option maxRecDepth 4000 in
theorem z_X6_put_L3 (d : Nat) (hd : 1 ≤ d) {C : hCx} (K : hCtx C.1 C.2.2.1 d 0 0 "put" C) (X : hOK C cX6_put RX6 3 none) : ∀ (n : Nat) (l0 : Nat) (l1 : Int) (l2 : Int) (h1 : inI l1) (h2 : inI l2), hSim C none 0 0 3 3 [(0, vR C.1.1 l0), (1, vI l1), (2, vI l2)] [] 0 0 (m_X6_put_L3 n l0 l1 l2) := by
  obtain ⟨⟨hf, hlo⟩, ⟨hc1, hc2⟩, hf1, hl1⟩ := K_room K (by omega)
  have hcs : 0 ≤ C.2.2.2.2.1.cells ∧ 0 ≤ C.2.2.2.2.1.slots := ⟨Nat.zero_le _, Nat.zero_le _⟩
  intro n
  induction n with
  | zero => intros; exact s_none (fun _ => rfl)
  | succ n ih =>
    intro l0 l1 l2 h1 h2
    unfold m_X6_put_L3
    refine s_iload_n (j := 2) (pc2 := 4) X dX6_put_3 rfl rfl ?_
    refine s_iflt (tgt := 46) X dX6_put_4 (by decide) rfl h2 ?_ ?_
    · refine s_sub (lv2 := []) [] rfl ?_
      exact z_X6_put_L46 d hd K X
    · refine s_aload_n (j := 0) (pc2 := 8) X dX6_put_7 rfl rfl ?_
      refine s_getI (pc2 := 11) X dX6_put_8 rfl fl_RX6_15 rfl (fun v1 hv1 => ?_)
      refine s_sipush (n := 400) (pc2 := 14) X dX6_put_11 rfl rfl ?_
      refine s_icge (tgt := 46) X dX6_put_14 (by decide) rfl hv1 (inI_c 400 rfl) ?_ ?_
      · refine s_sub (lv2 := []) [] rfl ?_
        exact z_X6_put_L46 d hd K X
      · refine s_aload_n (j := 0) (pc2 := 18) X dX6_put_17 rfl rfl ?_
        refine s_getR (pc2 := 21) X dX6_put_18 rfl fl_RX6_11 rfl (fun v2 => ?_)
        refine s_aload_n (j := 0) (pc2 := 22) X dX6_put_21 rfl rfl ?_
        refine s_getI (pc2 := 25) X dX6_put_22 rfl fl_RX6_15 rfl (fun v3 hv3 => ?_)
        refine s_iload_n (j := 1) (pc2 := 26) X dX6_put_25 rfl rfl ?_
        refine s_iload_n (j := 2) (pc2 := 27) X dX6_put_26 rfl rfl ?_
        refine s_ishr (pc2 := 28) X dX6_put_27 rfl ?_
        refine s_i2b (pc2 := 29) X dX6_put_28 rfl ?_
        refine s_bast (pc2 := 30) X dX6_put_29 rfl ?_
        refine s_aload_n (j := 0) (pc2 := 31) X dX6_put_30 rfl rfl ?_
        refine s_dup (pc2 := 32) X dX6_put_31 rfl (vR_cat _ _) ?_
        refine s_getI (pc2 := 35) X dX6_put_32 rfl fl_RX6_15 rfl (fun v4 hv4 => ?_)
        refine s_iconst (n := 1) (pc2 := 36) X dX6_put_35 rfl ?_
        refine s_iadd (pc2 := 37) X dX6_put_36 rfl ?_
        refine s_putI (pc2 := 40) X dX6_put_37 rfl fl_RX6_15 (Or.inl rfl) rfl (w32_in _) ?_
        refine s_iinc (j := 2) (pc2 := 43) X dX6_put_40 rfl (by decide) rfl rfl rfl cat1_I (fun w5 hw5 => ?_)
        refine s_goto (pc2 := 3) X dX6_put_43 (by decide) ?_
        refine s_sub (lv2 := [(0, vR C.1.1 l0), (1, vI l1), (2, vI w5)]) [1, 2, 0] rfl ?_
        exact ih l0 l1 w5 h1 hw5
set_option maxRecDepth 4000 in
set_option maxHeartbeats 20000000 in
theorem z_X6_put (d : Nat) (hd : 1 ≤ d) {C : hCx} (K : hCtx C.1 C.2.2.1 d 0 0 "put" C) (X : hOK C cX6_put RX6 3 none) (l0 : Nat) (l1 : Int) (h1 : inI l1) : hSim C none 0 0 3 0 [(0, vR C.1.1 l0), (1, vI l1)] [] 0 0 (m_X6_put l0 l1) := by
  obtain ⟨⟨hf, hlo⟩, ⟨hc1, hc2⟩, hf1, hl1⟩ := K_room K (by omega)
  have hcs : 0 ≤ C.2.2.2.2.1.cells ∧ 0 ≤ C.2.2.2.2.1.slots := ⟨Nat.zero_le _, Nat.zero_le _⟩
  unfold m_X6_put
  refine s_bipush (n := 24) (pc2 := 2) X dX6_put_0 rfl rfl ?_
  refine s_istore_n (pc2 := 3) X dX6_put_2 rfl (by decide) rfl rfl cat1_I (inI_c 24 rfl) (fun w1 hw1 => ?_)
  refine s_sub (lv2 := [(0, vR C.1.1 l0), (1, vI l1), (2, vI w1)]) [1, 2, 0] rfl ?_
  exact z_X6_put_L3 d hd K X 1000000000 l0 l1 w1 h1 hw1
theorem c_X6_put (d : Nat) (hd : 1 ≤ d) (G : hG) (l : Launch) (l0 : Nat) (l1 : Int) (h1 : inI l1) : hMet G l yX6_put cX6_put 3 none d 0 0 [vR G.1 l0, vI l1] (m_X6_put l0 l1) := by
  refine hMet.of (lv := [(0, vR G.1 l0), (1, vI l1)]) (by decide +kernel) (by simp [lg_sl, vR_cat, vI_cat, vL_cat, vS_cat2, vT_cat2]) (by simp [lv_args, vR_cat, vI_cat, vL_cat, vS_cat2, vT_cat2]) (fun C K X => ?_)
  obtain ⟨rfl, rfl, K⟩ := K
  exact z_X6_put d hd ⟨rfl, rfl, K⟩ X l0 l1 h1
def m_X6_begin (l0 : Nat) : hM :=
  hpI 6 l0 2 0 <|
  hpI 6 l0 3 0 <|
  hpI 6 l0 4 0 <|
  hret 0
set_option maxRecDepth 4000 in
set_option maxHeartbeats 20000000 in
theorem z_X6_begin (d : Nat) (hd : 1 ≤ d) {C : hCx} (K : hCtx C.1 C.2.2.1 d 0 0 "begin" C) (X : hOK C cX6_begin RX6 1 none) (l0 : Nat) : hSim C none 0 0 1 0 [(0, vR C.1.1 l0)] [] 0 0 (m_X6_begin l0) := by
  obtain ⟨⟨hf, hlo⟩, ⟨hc1, hc2⟩, hf1, hl1⟩ := K_room K (by omega)
  have hcs : 0 ≤ C.2.2.2.2.1.cells ∧ 0 ≤ C.2.2.2.2.1.slots := ⟨Nat.zero_le _, Nat.zero_le _⟩
  unfold m_X6_begin
  refine s_aload_n (j := 0) (pc2 := 1) X dX6_begin_0 rfl rfl ?_
  refine s_iconst (n := 0) (pc2 := 2) X dX6_begin_1 rfl ?_
  refine s_putI (pc2 := 5) X dX6_begin_2 rfl fl_RX6_19 (Or.inl rfl) rfl (inI_c 0 rfl) ?_
  refine s_aload_n (j := 0) (pc2 := 6) X dX6_begin_5 rfl rfl ?_
  refine s_iconst (n := 0) (pc2 := 7) X dX6_begin_6 rfl ?_
  refine s_putI (pc2 := 10) X dX6_begin_7 rfl fl_RX6_22 (Or.inl rfl) rfl (inI_c 0 rfl) ?_
  refine s_aload_n (j := 0) (pc2 := 11) X dX6_begin_10 rfl rfl ?_
  refine s_iconst (n := 0) (pc2 := 12) X dX6_begin_11 rfl ?_
  refine s_putI (pc2 := 15) X dX6_begin_12 rfl fl_RX6_25 (Or.inl rfl) rfl (inI_c 0 rfl) ?_
  exact s_ret X dX6_begin_15
theorem c_X6_begin (d : Nat) (hd : 1 ≤ d) (G : hG) (l : Launch) (l0 : Nat) : hMet G l yX6_begin cX6_begin 1 none d 0 0 [vR G.1 l0] (m_X6_begin l0) := by
  refine hMet.of (lv := [(0, vR G.1 l0)]) (by decide +kernel) (by simp [lg_sl, vR_cat, vI_cat, vL_cat, vS_cat2, vT_cat2]) (by simp [lv_args, vR_cat, vI_cat, vL_cat, vS_cat2, vT_cat2]) (fun C K X => ?_)
  obtain ⟨rfl, rfl, K⟩ := K
  exact z_X6_begin d hd ⟨rfl, rfl, K⟩ X l0
def m_X6_fail_L19 : hM :=
  hret 0
def m_X6_fail (l0 : Nat) (l1 : Int) (l2 : Int) : hM :=
  hgI 6 l0 4 fun v1 =>
  hif (v1 ≠ 0) (
m_X6_fail_L19) (
hpI 6 l0 4 ((w32 (((w32 (1 + ((w32 (8 * l1)))))) + l2))) <|
  m_X6_fail_L19)
set_option maxRecDepth 4000 in
theorem z_X6_fail_L19 (d : Nat) (hd : 1 ≤ d) {C : hCx} (K : hCtx C.1 C.2.2.1 d 0 0 "fail" C) (X : hOK C cX6_fail RX6 3 none) : hSim C none 0 0 3 19 [] [] 0 0 (m_X6_fail_L19) := by
  obtain ⟨⟨hf, hlo⟩, ⟨hc1, hc2⟩, hf1, hl1⟩ := K_room K (by omega)
  have hcs : 0 ≤ C.2.2.2.2.1.cells ∧ 0 ≤ C.2.2.2.2.1.slots := ⟨Nat.zero_le _, Nat.zero_le _⟩
  unfold m_X6_fail_L19
  exact s_ret X dX6_fail_19
set_option maxRecDepth 4000 in
set_option maxHeartbeats 20000000 in
theorem z_X6_fail (d : Nat) (hd : 1 ≤ d) {C : hCx} (K : hCtx C.1 C.2.2.1 d 0 0 "fail" C) (X : hOK C cX6_fail RX6 3 none) (l0 : Nat) (l1 : Int) (l2 : Int) (h1 : inI l1) (h2 : inI l2) : hSim C none 0 0 3 0 [(0, vR C.1.1 l0), (1, vI l1), (2, vI l2)] [] 0 0 (m_X6_fail l0 l1 l2) := by
  obtain ⟨⟨hf, hlo⟩, ⟨hc1, hc2⟩, hf1, hl1⟩ := K_room K (by omega)
  have hcs : 0 ≤ C.2.2.2.2.1.cells ∧ 0 ≤ C.2.2.2.2.1.slots := ⟨Nat.zero_le _, Nat.zero_le _⟩
  unfold m_X6_fail
  refine s_aload_n (j := 0) (pc2 := 1) X dX6_fail_0 rfl rfl ?_
  refine s_getI (pc2 := 4) X dX6_fail_1 rfl fl_RX6_25 rfl (fun v1 hv1 => ?_)
  refine s_ifne (tgt := 19) X dX6_fail_4 (by decide) rfl hv1 ?_ ?_
  · refine s_sub (lv2 := []) [] rfl ?_
    exact z_X6_fail_L19 d hd K X
  · refine s_aload_n (j := 0) (pc2 := 8) X dX6_fail_7 rfl rfl ?_
    refine s_iconst (n := 1) (pc2 := 9) X dX6_fail_8 rfl ?_
    refine s_bipush (n := 8) (pc2 := 11) X dX6_fail_9 rfl rfl ?_
    refine s_iload_n (j := 1) (pc2 := 12) X dX6_fail_11 rfl rfl ?_
    refine s_imul (pc2 := 13) X dX6_fail_12 rfl ?_
    refine s_iadd (pc2 := 14) X dX6_fail_13 rfl ?_
    refine s_iload_n (j := 2) (pc2 := 15) X dX6_fail_14 rfl rfl ?_
    refine s_iadd (pc2 := 16) X dX6_fail_15 rfl ?_
    refine s_putI (pc2 := 19) X dX6_fail_16 rfl fl_RX6_25 (Or.inl rfl) rfl (w32_in _) ?_
    refine s_sub (lv2 := []) [] rfl ?_
    exact z_X6_fail_L19 d hd K X
theorem c_X6_fail (d : Nat) (hd : 1 ≤ d) (G : hG) (l : Launch) (l0 : Nat) (l1 : Int) (l2 : Int) (h1 : inI l1) (h2 : inI l2) : hMet G l yX6_fail cX6_fail 3 none d 0 0 [vR G.1 l0, vI l1, vI l2] (m_X6_fail l0 l1 l2) := by
  refine hMet.of (lv := [(0, vR G.1 l0), (1, vI l1), (2, vI l2)]) (by decide +kernel) (by simp [lg_sl, vR_cat, vI_cat, vL_cat, vS_cat2, vT_cat2]) (by simp [lv_args, vR_cat, vI_cat, vL_cat, vS_cat2, vT_cat2]) (fun C K X => ?_)
  obtain ⟨rfl, rfl, K⟩ := K
  exact z_X6_fail d hd ⟨rfl, rfl, K⟩ X l0 l1 l2 h1 h2
def m_X6_next_L66 (s0 : Int) : hM :=
  hret s0
def m_X6_next_L38 (l0 : Nat) : hM :=
  hgI 6 l0 2 fun v1 =>
  hgI 6 l0 1 fun v2 =>
  hif (v1 ≥ v2) (
m_X6_next_L66 ((-1))) (
hgR 6 l0 0 fun v3 =>
  hgI 6 l0 2 fun v4 =>
  haI 22 v3 v4 fun v5 =>
  m_X6_next_L66 ((iandZ v5 255)))
def m_X6_next_L0 : Nat → Nat → hM
  | 0, _ => hfail
  | n + 1, l0 =>
    hgI 6 l0 2 fun v1 =>
  hgI 6 l0 1 fun v2 =>
  hif (v1 ≥ v2) (
m_X6_next_L38 l0) (
hgR 6 l0 0 fun v3 =>
  hgI 6 l0 2 fun v4 =>
  haI 22 v3 v4 fun v5 =>
  hif (v5 ≠ 32) (
m_X6_next_L38 l0) (
hgI 6 l0 2 fun v6 =>
  hpI 6 l0 2 ((w32 (v6 + 1))) <|
  m_X6_next_L0 n l0))
def m_X6_next (l0 : Nat) : hM :=
  m_X6_next_L0 1000000000 l0
set_option maxRecDepth 4000 in
theorem z_X6_next_L66 (d : Nat) (hd : 1 ≤ d) {C : hCx} (K : hCtx C.1 C.2.2.1 d 0 0 "next" C) (X : hOK C cX6_next RX6 1 (some .int)) (s0 : Int) (g0 : inI s0) : hSim C (some .int) 0 0 1 66 [] [vI s0] 0 0 (m_X6_next_L66 s0) := by
  obtain ⟨⟨hf, hlo⟩, ⟨hc1, hc2⟩, hf1, hl1⟩ := K_room K (by omega)
  have hcs : 0 ≤ C.2.2.2.2.1.cells ∧ 0 ≤ C.2.2.2.2.1.slots := ⟨Nat.zero_le _, Nat.zero_le _⟩
  unfold m_X6_next_L66
  exact s_iret X dX6_next_66 g0
set_option maxRecDepth 4000 in
theorem z_X6_next_L38 (d : Nat) (hd : 1 ≤ d) {C : hCx} (K : hCtx C.1 C.2.2.1 d 0 0 "next" C) (X : hOK C cX6_next RX6 1 (some .int)) (l0 : Nat) : hSim C (some .int) 0 0 1 38 [(0, vR C.1.1 l0)] [] 0 0 (m_X6_next_L38 l0) := by
  obtain ⟨⟨hf, hlo⟩, ⟨hc1, hc2⟩, hf1, hl1⟩ := K_room K (by omega)
  have hcs : 0 ≤ C.2.2.2.2.1.cells ∧ 0 ≤ C.2.2.2.2.1.slots := ⟨Nat.zero_le _, Nat.zero_le _⟩
  unfold m_X6_next_L38
  refine s_aload_n (j := 0) (pc2 := 39) X dX6_next_38 rfl rfl ?_
  refine s_getI (pc2 := 42) X dX6_next_39 rfl fl_RX6_19 rfl (fun v1 hv1 => ?_)
  refine s_aload_n (j := 0) (pc2 := 43) X dX6_next_42 rfl rfl ?_
  refine s_getI (pc2 := 46) X dX6_next_43 rfl fl_RX6_15 rfl (fun v2 hv2 => ?_)
  refine s_icge (tgt := 65) X dX6_next_46 (by decide) rfl hv1 hv2 ?_ ?_
  · refine s_iconst (n := (-1)) (pc2 := 66) X dX6_next_65 rfl ?_
    refine s_sub (lv2 := []) [] rfl ?_
    exact z_X6_next_L66 d hd K X ((-1)) (inI_c (-1) rfl)
  · refine s_aload_n (j := 0) (pc2 := 50) X dX6_next_49 rfl rfl ?_
    refine s_getR (pc2 := 53) X dX6_next_50 rfl fl_RX6_11 rfl (fun v3 => ?_)
    refine s_aload_n (j := 0) (pc2 := 54) X dX6_next_53 rfl rfl ?_
    refine s_getI (pc2 := 57) X dX6_next_54 rfl fl_RX6_19 rfl (fun v4 hv4 => ?_)
    refine s_bald (pc2 := 58) X dX6_next_57 rfl (fun v5 hv5 => ?_)
    refine s_sipush (n := 255) (pc2 := 61) X dX6_next_58 rfl rfl ?_
    refine s_iand (pc2 := 62) X dX6_next_61 rfl ?_
    refine s_goto (pc2 := 66) X dX6_next_62 (by decide) ?_
    refine s_sub (lv2 := []) [] rfl ?_
    exact z_X6_next_L66 d hd K X ((iandZ v5 255)) (iandZ_in _ _)
set_option maxRecDepth 4000 in
theorem z_X6_next_L0 (d : Nat) (hd : 1 ≤ d) {C : hCx} (K : hCtx C.1 C.2.2.1 d 0 0 "next" C) (X : hOK C cX6_next RX6 1 (some .int)) : ∀ (n : Nat) (l0 : Nat), hSim C (some .int) 0 0 1 0 [(0, vR C.1.1 l0)] [] 0 0 (m_X6_next_L0 n l0) := by
  obtain ⟨⟨hf, hlo⟩, ⟨hc1, hc2⟩, hf1, hl1⟩ := K_room K (by omega)
  have hcs : 0 ≤ C.2.2.2.2.1.cells ∧ 0 ≤ C.2.2.2.2.1.slots := ⟨Nat.zero_le _, Nat.zero_le _⟩
  intro n
  induction n with
  | zero => intros; exact s_none (fun _ => rfl)
  | succ n ih =>
    intro l0
    unfold m_X6_next_L0
    refine s_aload_n (j := 0) (pc2 := 1) X dX6_next_0 rfl rfl ?_
    refine s_getI (pc2 := 4) X dX6_next_1 rfl fl_RX6_19 rfl (fun v1 hv1 => ?_)
    refine s_aload_n (j := 0) (pc2 := 5) X dX6_next_4 rfl rfl ?_
    refine s_getI (pc2 := 8) X dX6_next_5 rfl fl_RX6_15 rfl (fun v2 hv2 => ?_)
    refine s_icge (tgt := 38) X dX6_next_8 (by decide) rfl hv1 hv2 ?_ ?_
    · exact z_X6_next_L38 d hd K X l0
    · refine s_aload_n (j := 0) (pc2 := 12) X dX6_next_11 rfl rfl ?_
      refine s_getR (pc2 := 15) X dX6_next_12 rfl fl_RX6_11 rfl (fun v3 => ?_)
      refine s_aload_n (j := 0) (pc2 := 16) X dX6_next_15 rfl rfl ?_
      refine s_getI (pc2 := 19) X dX6_next_16 rfl fl_RX6_19 rfl (fun v4 hv4 => ?_)
      refine s_bald (pc2 := 20) X dX6_next_19 rfl (fun v5 hv5 => ?_)
      refine s_bipush (n := 32) (pc2 := 22) X dX6_next_20 rfl rfl ?_
      refine s_icne (tgt := 38) X dX6_next_22 (by decide) rfl hv5 (inI_c 32 rfl) ?_ ?_
      · exact z_X6_next_L38 d hd K X l0
      · refine s_aload_n (j := 0) (pc2 := 26) X dX6_next_25 rfl rfl ?_
        refine s_dup (pc2 := 27) X dX6_next_26 rfl (vR_cat _ _) ?_
        refine s_getI (pc2 := 30) X dX6_next_27 rfl fl_RX6_19 rfl (fun v6 hv6 => ?_)
        refine s_iconst (n := 1) (pc2 := 31) X dX6_next_30 rfl ?_
        refine s_iadd (pc2 := 32) X dX6_next_31 rfl ?_
        refine s_putI (pc2 := 35) X dX6_next_32 rfl fl_RX6_19 (Or.inl rfl) rfl (w32_in _) ?_
        refine s_goto (pc2 := 0) X dX6_next_35 (by decide) ?_
        exact ih l0
set_option maxRecDepth 4000 in
set_option maxHeartbeats 20000000 in
theorem z_X6_next (d : Nat) (hd : 1 ≤ d) {C : hCx} (K : hCtx C.1 C.2.2.1 d 0 0 "next" C) (X : hOK C cX6_next RX6 1 (some .int)) (l0 : Nat) : hSim C (some .int) 0 0 1 0 [(0, vR C.1.1 l0)] [] 0 0 (m_X6_next l0) := by
  obtain ⟨⟨hf, hlo⟩, ⟨hc1, hc2⟩, hf1, hl1⟩ := K_room K (by omega)
  have hcs : 0 ≤ C.2.2.2.2.1.cells ∧ 0 ≤ C.2.2.2.2.1.slots := ⟨Nat.zero_le _, Nat.zero_le _⟩
  unfold m_X6_next
  exact z_X6_next_L0 d hd K X 1000000000 l0
theorem c_X6_next (d : Nat) (hd : 1 ≤ d) (G : hG) (l : Launch) (l0 : Nat) : hMet G l yX6_next cX6_next 1 (some .int) d 0 0 [vR G.1 l0] (m_X6_next l0) := by
  refine hMet.of (lv := [(0, vR G.1 l0)]) (by decide +kernel) (by simp [lg_sl, vR_cat, vI_cat, vL_cat, vS_cat2, vT_cat2]) (by simp [lv_args, vR_cat, vI_cat, vL_cat, vS_cat2, vT_cat2]) (fun C K X => ?_)
  obtain ⟨rfl, rfl, K⟩ := K
  exact z_X6_next d hd ⟨rfl, rfl, K⟩ X l0
def m_X6_takeSign_L15 : hM :=
  hretZ 0
def m_X6_takeSign (l0 : Nat) (l1 : Int) : hM :=
  hgI 6 l0 4 fun v1 =>
  hif (v1 ≠ 0) (
m_X6_takeSign_L15) (
hcallV 6 l0 (m_X6_next l0) fun v2 =>
  hif (v2 = l1) (
hgI 6 l0 2 fun v3 =>
  hpI 6 l0 2 ((w32 (v3 + 1))) <|
  hretZ 1) (
m_X6_takeSign_L15))
set_option maxRecDepth 4000 in
theorem z_X6_takeSign_L15 (d : Nat) (hd : 2 ≤ d) {C : hCx} (K : hCtx C.1 C.2.2.1 d 0 0 "takeSign" C) (X : hOK C cX6_takeSign RX6 2 (some .boolean)) : hSim C (some .boolean) 0 0 2 15 [] [] 0 0 (m_X6_takeSign_L15) := by
  obtain ⟨⟨hf, hlo⟩, ⟨hc1, hc2⟩, hf1, hl1⟩ := K_room K (by omega)
  have hcs : 0 ≤ C.2.2.2.2.1.cells ∧ 0 ≤ C.2.2.2.2.1.slots := ⟨Nat.zero_le _, Nat.zero_le _⟩
  unfold m_X6_takeSign_L15
  refine s_iconst (n := 0) (pc2 := 16) X dX6_takeSign_15 rfl ?_
  exact s_zret X dX6_takeSign_16
set_option maxRecDepth 4000 in
set_option maxHeartbeats 20000000 in
theorem z_X6_takeSign (d : Nat) (hd : 2 ≤ d) {C : hCx} (K : hCtx C.1 C.2.2.1 d 0 0 "takeSign" C) (X : hOK C cX6_takeSign RX6 2 (some .boolean)) (l0 : Nat) (l1 : Int) (h1 : inI l1) : hSim C (some .boolean) 0 0 2 0 [(0, vR C.1.1 l0), (1, vI l1)] [] 0 0 (m_X6_takeSign l0 l1) := by
  obtain ⟨⟨hf, hlo⟩, ⟨hc1, hc2⟩, hf1, hl1⟩ := K_room K (by omega)
  have hcs : 0 ≤ C.2.2.2.2.1.cells ∧ 0 ≤ C.2.2.2.2.1.slots := ⟨Nat.zero_le _, Nat.zero_le _⟩
  unfold m_X6_takeSign
  refine s_aload_n (j := 0) (pc2 := 1) X dX6_takeSign_0 rfl rfl ?_
  refine s_getI (pc2 := 4) X dX6_takeSign_1 rfl fl_RX6_25 rfl (fun v1 hv1 => ?_)
  refine s_ifne (tgt := 15) X dX6_takeSign_4 (by decide) rfl hv1 ?_ ?_
  · refine s_sub (lv2 := []) [] rfl ?_
    exact z_X6_takeSign_L15 d hd K X
  · refine s_aload_n (j := 0) (pc2 := 8) X dX6_takeSign_7 rfl rfl ?_
    refine s_callVI (d2 := d - 1) (As := []) (st := []) (pc2 := 11) X dX6_takeSign_8 rfl ml_RX6_28 im_X6_next se_X6_next kX6 rfl (c_X6_next (d - 1) (by omega) C.1 C.2.2.1 l0) hy_X6_next rfl rfl hf hlo (st_room (Nat.le_of_ble_eq_true rfl)) hcs (fun v2 hv2 => ?_)
    refine s_iload_n (j := 1) (pc2 := 12) X dX6_takeSign_11 rfl rfl ?_
    refine s_iceq (tgt := 17) X dX6_takeSign_12 (by decide) rfl hv2 h1 ?_ ?_
    · refine s_aload_n (j := 0) (pc2 := 18) X dX6_takeSign_17 rfl rfl ?_
      refine s_dup (pc2 := 19) X dX6_takeSign_18 rfl (vR_cat _ _) ?_
      refine s_getI (pc2 := 22) X dX6_takeSign_19 rfl fl_RX6_19 rfl (fun v3 hv3 => ?_)
      refine s_iconst (n := 1) (pc2 := 23) X dX6_takeSign_22 rfl ?_
      refine s_iadd (pc2 := 24) X dX6_takeSign_23 rfl ?_
      refine s_putI (pc2 := 27) X dX6_takeSign_24 rfl fl_RX6_19 (Or.inl rfl) rfl (w32_in _) ?_
      refine s_iconst (n := 1) (pc2 := 28) X dX6_takeSign_27 rfl ?_
      exact s_zret X dX6_takeSign_28
    · refine s_sub (lv2 := []) [] rfl ?_
      exact z_X6_takeSign_L15 d hd K X
theorem c_X6_takeSign (d : Nat) (hd : 2 ≤ d) (G : hG) (l : Launch) (l0 : Nat) (l1 : Int) (h1 : inI l1) : hMet G l yX6_takeSign cX6_takeSign 2 (some .boolean) d 0 0 [vR G.1 l0, vI l1] (m_X6_takeSign l0 l1) := by
  refine hMet.of (lv := [(0, vR G.1 l0), (1, vI l1)]) (by decide +kernel) (by simp [lg_sl, vR_cat, vI_cat, vL_cat, vS_cat2, vT_cat2]) (by simp [lv_args, vR_cat, vI_cat, vL_cat, vS_cat2, vT_cat2]) (fun C K X => ?_)
  obtain ⟨rfl, rfl, K⟩ := K
  exact z_X6_takeSign d hd ⟨rfl, rfl, K⟩ X l0 l1 h1
def m_X6_wordEnd_L41 (l1 : Int) : hM :=
  hret l1
def m_X6_wordEnd_L5 : Nat → Nat → Int → hM
  | 0, _, _ => hfail
  | n + 1, l0, l1 =>
    hgI 6 l0 1 fun v1 =>
  hif (l1 ≥ v1) (
m_X6_wordEnd_L41 l1) (
hgR 6 l0 0 fun v2 =>
  haI 22 v2 l1 fun v3 =>
  hif (v3 < 97) (
m_X6_wordEnd_L41 l1) (
hgR 6 l0 0 fun v4 =>
  haI 22 v4 l1 fun v5 =>
  hif (v5 > 122) (
m_X6_wordEnd_L41 l1) (
hlet (w32 (l1 + 1)) fun (w6 : Int) =>
  m_X6_wordEnd_L5 n l0 w6)))
def m_X6_wordEnd (l0 : Nat) : hM :=
  hgI 6 l0 2 fun v1 =>
  hlet v1 fun (w2 : Int) =>
  m_X6_wordEnd_L5 1000000000 l0 w2
set_option maxRecDepth 4000 in
theorem z_X6_wordEnd_L41 (d : Nat) (hd : 1 ≤ d) {C : hCx} (K : hCtx C.1 C.2.2.1 d 0 0 "wordEnd" C) (X : hOK C cX6_wordEnd RX6 2 (some .int)) (l1 : Int) (h1 : inI l1) : hSim C (some .int) 0 0 2 41 [(1, vI l1)] [] 0 0 (m_X6_wordEnd_L41 l1) := by
  obtain ⟨⟨hf, hlo⟩, ⟨hc1, hc2⟩, hf1, hl1⟩ := K_room K (by omega)
  have hcs : 0 ≤ C.2.2.2.2.1.cells ∧ 0 ≤ C.2.2.2.2.1.slots := ⟨Nat.zero_le _, Nat.zero_le _⟩
  unfold m_X6_wordEnd_L41
  refine s_iload_n (j := 0) (pc2 := 42) X dX6_wordEnd_41 rfl rfl ?_
  exact s_iret X dX6_wordEnd_42 h1
set_option maxRecDepth 4000 in
theorem z_X6_wordEnd_L5 (d : Nat) (hd : 1 ≤ d) {C : hCx} (K : hCtx C.1 C.2.2.1 d 0 0 "wordEnd" C) (X : hOK C cX6_wordEnd RX6 2 (some .int)) : ∀ (n : Nat) (l0 : Nat) (l1 : Int) (h1 : inI l1), hSim C (some .int) 0 0 2 5 [(0, vR C.1.1 l0), (1, vI l1)] [] 0 0 (m_X6_wordEnd_L5 n l0 l1) := by
  obtain ⟨⟨hf, hlo⟩, ⟨hc1, hc2⟩, hf1, hl1⟩ := K_room K (by omega)
  have hcs : 0 ≤ C.2.2.2.2.1.cells ∧ 0 ≤ C.2.2.2.2.1.slots := ⟨Nat.zero_le _, Nat.zero_le _⟩
  intro n
  induction n with
  | zero => intros; exact s_none (fun _ => rfl)
  | succ n ih =>
    intro l0 l1 h1
    unfold m_X6_wordEnd_L5
    refine s_iload_n (j := 1) (pc2 := 6) X dX6_wordEnd_5 rfl rfl ?_
    refine s_aload_n (j := 0) (pc2 := 7) X dX6_wordEnd_6 rfl rfl ?_
    refine s_getI (pc2 := 10) X dX6_wordEnd_7 rfl fl_RX6_15 rfl (fun v1 hv1 => ?_)
    refine s_icge (tgt := 41) X dX6_wordEnd_10 (by decide) rfl h1 hv1 ?_ ?_
    · refine s_sub (lv2 := [(1, vI l1)]) [1] rfl ?_
      exact z_X6_wordEnd_L41 d hd K X l1 h1
    · refine s_aload_n (j := 0) (pc2 := 14) X dX6_wordEnd_13 rfl rfl ?_
      refine s_getR (pc2 := 17) X dX6_wordEnd_14 rfl fl_RX6_11 rfl (fun v2 => ?_)
      refine s_iload_n (j := 1) (pc2 := 18) X dX6_wordEnd_17 rfl rfl ?_
      refine s_bald (pc2 := 19) X dX6_wordEnd_18 rfl (fun v3 hv3 => ?_)
      refine s_bipush (n := 97) (pc2 := 21) X dX6_wordEnd_19 rfl rfl ?_
      refine s_iclt (tgt := 41) X dX6_wordEnd_21 (by decide) rfl hv3 (inI_c 97 rfl) ?_ ?_
      · refine s_sub (lv2 := [(1, vI l1)]) [1] rfl ?_
        exact z_X6_wordEnd_L41 d hd K X l1 h1
      · refine s_aload_n (j := 0) (pc2 := 25) X dX6_wordEnd_24 rfl rfl ?_
        refine s_getR (pc2 := 28) X dX6_wordEnd_25 rfl fl_RX6_11 rfl (fun v4 => ?_)
        refine s_iload_n (j := 1) (pc2 := 29) X dX6_wordEnd_28 rfl rfl ?_
        refine s_bald (pc2 := 30) X dX6_wordEnd_29 rfl (fun v5 hv5 => ?_)
        refine s_bipush (n := 122) (pc2 := 32) X dX6_wordEnd_30 rfl rfl ?_
        refine s_icgt (tgt := 41) X dX6_wordEnd_32 (by decide) rfl hv5 (inI_c 122 rfl) ?_ ?_
        · refine s_sub (lv2 := [(1, vI l1)]) [1] rfl ?_
          exact z_X6_wordEnd_L41 d hd K X l1 h1
        · refine s_iinc (j := 1) (pc2 := 38) X dX6_wordEnd_35 rfl (by decide) rfl rfl rfl cat1_R (fun w6 hw6 => ?_)
          refine s_goto (pc2 := 5) X dX6_wordEnd_38 (by decide) ?_
          refine s_sub (lv2 := [(0, vR C.1.1 l0), (1, vI w6)]) [1, 0] rfl ?_
          exact ih l0 w6 hw6
set_option maxRecDepth 4000 in
set_option maxHeartbeats 20000000 in
theorem z_X6_wordEnd (d : Nat) (hd : 1 ≤ d) {C : hCx} (K : hCtx C.1 C.2.2.1 d 0 0 "wordEnd" C) (X : hOK C cX6_wordEnd RX6 2 (some .int)) (l0 : Nat) : hSim C (some .int) 0 0 2 0 [(0, vR C.1.1 l0)] [] 0 0 (m_X6_wordEnd l0) := by
  obtain ⟨⟨hf, hlo⟩, ⟨hc1, hc2⟩, hf1, hl1⟩ := K_room K (by omega)
  have hcs : 0 ≤ C.2.2.2.2.1.cells ∧ 0 ≤ C.2.2.2.2.1.slots := ⟨Nat.zero_le _, Nat.zero_le _⟩
  unfold m_X6_wordEnd
  refine s_aload_n (j := 0) (pc2 := 1) X dX6_wordEnd_0 rfl rfl ?_
  refine s_getI (pc2 := 4) X dX6_wordEnd_1 rfl fl_RX6_19 rfl (fun v1 hv1 => ?_)
  refine s_istore_n (pc2 := 5) X dX6_wordEnd_4 rfl (by decide) rfl rfl cat1_R hv1 (fun w2 hw2 => ?_)
  refine s_sub (lv2 := [(0, vR C.1.1 l0), (1, vI w2)]) [1, 0] rfl ?_
  exact z_X6_wordEnd_L5 d hd K X 1000000000 l0 w2 hw2
theorem c_X6_wordEnd (d : Nat) (hd : 1 ≤ d) (G : hG) (l : Launch) (l0 : Nat) : hMet G l yX6_wordEnd cX6_wordEnd 2 (some .int) d 0 0 [vR G.1 l0] (m_X6_wordEnd l0) := by
  refine hMet.of (lv := [(0, vR G.1 l0)]) (by decide +kernel) (by simp [lg_sl, vR_cat, vI_cat, vL_cat, vS_cat2, vT_cat2]) (by simp [lv_args, vR_cat, vI_cat, vL_cat, vS_cat2, vT_cat2]) (fun C K X => ?_)
  obtain ⟨rfl, rfl, K⟩ := K
  exact z_X6_wordEnd d hd ⟨rfl, rfl, K⟩ X l0
def m_X6_isSame_L18 : Nat → Nat → Nat → Int → Int → Int → hM
  | 0, _, _, _, _, _ => hfail
  | n + 1, l0, l1, l2, l3, l5 =>
    hif (l5 ≥ l3) (
hretZ 1) (
hgd7 l1 <| hcall (m_J0_charAt_5068e l1 l5) fun v1 =>
  hgR 6 l0 0 fun v2 =>
  hgI 6 l0 2 fun v3 =>
  haI 22 v2 ((w32 (((w32 (v3 + l5))) - l2))) fun v4 =>
  hif (v1 = v4) (
hlet (w32 (l5 + 1)) fun (w5 : Int) =>
  m_X6_isSame_L18 n l0 l1 l2 l3 w5) (
hretZ 0))
def m_X6_isSame (l0 : Nat) (l1 : Nat) (l2 : Int) (l3 : Int) (l4 : Int) : hM :=
  hgI 6 l0 2 fun v1 =>
  hif (((w32 (l3 - l2))) = ((w32 (l4 - v1)))) (
hlet l2 fun (w2 : Int) =>
  m_X6_isSame_L18 1000000000 l0 l1 l2 l3 w2) (
hretZ 0)
set_option maxRecDepth 4000 in
theorem z_X6_isSame_L18 (d : Nat) (hd : 5 ≤ d) {C : hCx} (K : hCtx C.1 C.2.2.1 d 0 0 "isSame" C) (X : hOK C cX6_isSame RX6 6 (some .boolean)) : ∀ (n : Nat) (l0 : Nat) (l1 : Nat) (l2 : Int) (l3 : Int) (l5 : Int) (h2 : inI l2) (h3 : inI l3) (h5 : inI l5), hSim C (some .boolean) 0 0 6 18 [(0, vR C.1.1 l0), (1, vS C.1 l1), (2, vI l2), (3, vI l3), (5, vI l5)] [] 0 0 (m_X6_isSame_L18 n l0 l1 l2 l3 l5) := by
  obtain ⟨⟨hf, hlo⟩, ⟨hc1, hc2⟩, hf1, hl1⟩ := K_room K (by omega)
  have hcs : 0 ≤ C.2.2.2.2.1.cells ∧ 0 ≤ C.2.2.2.2.1.slots := ⟨Nat.zero_le _, Nat.zero_le _⟩
  intro n
  induction n with
  | zero => intros; exact s_none (fun _ => rfl)
  | succ n ih =>
    intro l0 l1 l2 l3 l5 h2 h3 h5
    unfold m_X6_isSame_L18
    refine s_iload (j := 4) (pc2 := 20) X dX6_isSame_18 rfl rfl ?_
    refine s_iload_n (j := 3) (pc2 := 21) X dX6_isSame_20 rfl rfl ?_
    refine s_icge (tgt := 55) X dX6_isSame_21 (by decide) rfl h5 h3 ?_ ?_
    · refine s_iconst (n := 1) (pc2 := 56) X dX6_isSame_55 rfl ?_
      exact s_zret X dX6_isSame_56
    · refine s_sload_n2 (j := 1) (pc2 := 25) X dX6_isSame_24 rfl rfl ?_
      refine s_iload (j := 4) (pc2 := 27) X dX6_isSame_25 rfl rfl ?_
      refine s_callTC (d2 := d - 1) (As := [vI l5]) (st := []) (pc2 := 30) X dX6_isSame_27 rfl ml_RX6_47 im_J0_charAt_5068e se_J0_charAt_5068e rfl (c_J0_charAt_5068e (d - 1) (by omega) C.1 C.2.2.1 l1 l5 h5) hy_J0_charAt_5068e rfl rfl hf hlo (st_room (Nat.le_of_ble_eq_true rfl)) hcs (fun v1 hv1 => ?_)
      refine s_aload_n (j := 0) (pc2 := 31) X dX6_isSame_30 rfl rfl ?_
      refine s_getR (pc2 := 34) X dX6_isSame_31 rfl fl_RX6_11 rfl (fun v2 => ?_)
      refine s_aload_n (j := 0) (pc2 := 35) X dX6_isSame_34 rfl rfl ?_
      refine s_getI (pc2 := 38) X dX6_isSame_35 rfl fl_RX6_19 rfl (fun v3 hv3 => ?_)
      refine s_iload (j := 4) (pc2 := 40) X dX6_isSame_38 rfl rfl ?_
      refine s_iadd (pc2 := 41) X dX6_isSame_40 rfl ?_
      refine s_iload_n (j := 2) (pc2 := 42) X dX6_isSame_41 rfl rfl ?_
      refine s_isub (pc2 := 43) X dX6_isSame_42 rfl ?_
      refine s_bald (pc2 := 44) X dX6_isSame_43 rfl (fun v4 hv4 => ?_)
      refine s_iceq (tgt := 49) X dX6_isSame_44 (by decide) rfl hv1 hv4 ?_ ?_
      · refine s_iinc (j := 4) (pc2 := 52) X dX6_isSame_49 rfl (by decide) rfl rfl rfl cat1_N (fun w5 hw5 => ?_)
        refine s_goto (pc2 := 18) X dX6_isSame_52 (by decide) ?_
        refine s_sub (lv2 := [(0, vR C.1.1 l0), (1, vS C.1 l1), (2, vI l2), (3, vI l3), (5, vI w5)]) [1, 2, 3, 4, 0] rfl ?_
        exact ih l0 l1 l2 l3 w5 h2 h3 hw5
      · refine s_iconst (n := 0) (pc2 := 48) X dX6_isSame_47 rfl ?_
        exact s_zret X dX6_isSame_48
set_option maxRecDepth 4000 in
set_option maxHeartbeats 20000000 in
theorem z_X6_isSame (d : Nat) (hd : 5 ≤ d) {C : hCx} (K : hCtx C.1 C.2.2.1 d 0 0 "isSame" C) (X : hOK C cX6_isSame RX6 6 (some .boolean)) (l0 : Nat) (l1 : Nat) (l2 : Int) (l3 : Int) (l4 : Int) (h2 : inI l2) (h3 : inI l3) (h4 : inI l4) : hSim C (some .boolean) 0 0 6 0 [(0, vR C.1.1 l0), (1, vS C.1 l1), (2, vI l2), (3, vI l3), (4, vI l4)] [] 0 0 (m_X6_isSame l0 l1 l2 l3 l4) := by
  obtain ⟨⟨hf, hlo⟩, ⟨hc1, hc2⟩, hf1, hl1⟩ := K_room K (by omega)
  have hcs : 0 ≤ C.2.2.2.2.1.cells ∧ 0 ≤ C.2.2.2.2.1.slots := ⟨Nat.zero_le _, Nat.zero_le _⟩
  unfold m_X6_isSame
  refine s_iload_n (j := 3) (pc2 := 1) X dX6_isSame_0 rfl rfl ?_
  refine s_iload_n (j := 2) (pc2 := 2) X dX6_isSame_1 rfl rfl ?_
  refine s_isub (pc2 := 3) X dX6_isSame_2 rfl ?_
  refine s_iload (j := 4) (pc2 := 5) X dX6_isSame_3 rfl rfl ?_
  refine s_aload_n (j := 0) (pc2 := 6) X dX6_isSame_5 rfl rfl ?_
  refine s_getI (pc2 := 9) X dX6_isSame_6 rfl fl_RX6_19 rfl (fun v1 hv1 => ?_)
  refine s_isub (pc2 := 10) X dX6_isSame_9 rfl ?_
  refine s_iceq (tgt := 15) X dX6_isSame_10 (by decide) rfl (w32_in _) (w32_in _) ?_ ?_
  · refine s_iload_n (j := 2) (pc2 := 16) X dX6_isSame_15 rfl rfl ?_
    refine s_istore (pc2 := 18) X dX6_isSame_16 rfl (by decide) rfl rfl cat1_I h2 (fun w2 hw2 => ?_)
    refine s_sub (lv2 := [(0, vR C.1.1 l0), (1, vS C.1 l1), (2, vI l2), (3, vI l3), (5, vI w2)]) [1, 2, 3, 4, 0] rfl ?_
    exact z_X6_isSame_L18 d hd K X 1000000000 l0 l1 l2 l3 w2 h2 h3 hw2
  · refine s_iconst (n := 0) (pc2 := 14) X dX6_isSame_13 rfl ?_
    exact s_zret X dX6_isSame_14
theorem c_X6_isSame (d : Nat) (hd : 5 ≤ d) (G : hG) (l : Launch) (l0 : Nat) (l1 : Nat) (l2 : Int) (l3 : Int) (l4 : Int) (h2 : inI l2) (h3 : inI l3) (h4 : inI l4) : hMet G l yX6_isSame cX6_isSame 6 (some .boolean) d 0 0 [vR G.1 l0, vS G l1, vI l2, vI l3, vI l4] (m_X6_isSame l0 l1 l2 l3 l4) := by
  refine hMet.of (lv := [(0, vR G.1 l0), (1, vS G l1), (2, vI l2), (3, vI l3), (4, vI l4)]) (by decide +kernel) (by simp [lg_sl, vR_cat, vI_cat, vL_cat, vS_cat2, vT_cat2]) (by simp [lv_args, vR_cat, vI_cat, vL_cat, vS_cat2, vT_cat2]) (fun C K X => ?_)
  obtain ⟨rfl, rfl, K⟩ := K
  exact z_X6_isSame d hd ⟨rfl, rfl, K⟩ X l0 l1 l2 l3 l4 h2 h3 h4
def m_X6_seesWord (l0 : Nat) (l1 : Nat) : hM :=
  hcallV 6 l0 (m_X6_next l0) fun v1 =>
  hgd7 l1 <| hcall (m_J0_length_8abf5 l1) fun v2 =>
  hcallV 6 l0 (m_X6_wordEnd l0) fun v3 =>
  hcallV 6 l0 (m_X6_isSame l0 l1 0 v2 v3) fun v4 =>
  hretZ v4
set_option maxRecDepth 4000 in
set_option maxHeartbeats 20000000 in
theorem z_X6_seesWord (d : Nat) (hd : 6 ≤ d) {C : hCx} (K : hCtx C.1 C.2.2.1 d 0 0 "seesWord" C) (X : hOK C cX6_seesWord RX6 2 (some .boolean)) (l0 : Nat) (l1 : Nat) : hSim C (some .boolean) 0 0 2 0 [(0, vR C.1.1 l0), (1, vS C.1 l1)] [] 0 0 (m_X6_seesWord l0 l1) := by
  obtain ⟨⟨hf, hlo⟩, ⟨hc1, hc2⟩, hf1, hl1⟩ := K_room K (by omega)
  have hcs : 0 ≤ C.2.2.2.2.1.cells ∧ 0 ≤ C.2.2.2.2.1.slots := ⟨Nat.zero_le _, Nat.zero_le _⟩
  unfold m_X6_seesWord
  refine s_aload_n (j := 0) (pc2 := 1) X dX6_seesWord_0 rfl rfl ?_
  refine s_callVI (d2 := d - 1) (As := []) (st := []) (pc2 := 4) X dX6_seesWord_1 rfl ml_RX6_28 im_X6_next se_X6_next kX6 rfl (c_X6_next (d - 1) (by omega) C.1 C.2.2.1 l0) hy_X6_next rfl rfl hf hlo (st_room (Nat.le_of_ble_eq_true rfl)) hcs (fun v1 hv1 => ?_)
  refine s_pop (pc2 := 5) X dX6_seesWord_4 rfl rfl ?_
  refine s_aload_n (j := 0) (pc2 := 6) X dX6_seesWord_5 rfl rfl ?_
  refine s_sload_n2 (j := 1) (pc2 := 7) X dX6_seesWord_6 rfl rfl ?_
  refine s_iconst (n := 0) (pc2 := 8) X dX6_seesWord_7 rfl ?_
  refine s_sload_n2 (j := 1) (pc2 := 9) X dX6_seesWord_8 rfl rfl ?_
  refine s_callTI (d2 := d - 1) (As := []) (st := [vI 0, vS C.1 l1, vR C.1.1 l0]) (pc2 := 12) X dX6_seesWord_9 rfl ml_RX6_36 im_J0_length_8abf5 se_J0_length_8abf5 rfl (c_J0_length_8abf5 (d - 1) (by omega) C.1 C.2.2.1 l1) hy_J0_length_8abf5 rfl rfl hf hlo (st_room (Nat.le_of_ble_eq_true rfl)) hcs (fun v2 hv2 => ?_)
  refine s_aload_n (j := 0) (pc2 := 13) X dX6_seesWord_12 rfl rfl ?_
  refine s_callVI (d2 := d - 1) (As := []) (st := [vI v2, vI 0, vS C.1 l1, vR C.1.1 l0]) (pc2 := 16) X dX6_seesWord_13 rfl ml_RX6_40 im_X6_wordEnd se_X6_wordEnd kX6 rfl (c_X6_wordEnd (d - 1) (by omega) C.1 C.2.2.1 l0) hy_X6_wordEnd rfl rfl hf hlo (st_room (Nat.le_of_ble_eq_true rfl)) hcs (fun v3 hv3 => ?_)
  refine s_callVZ (d2 := d - 1) (As := [vS C.1 l1, vI 0, vI v2, vI v3]) (st := []) (pc2 := 19) X dX6_seesWord_16 rfl ml_RX6_43 im_X6_isSame se_X6_isSame kX6 rfl (c_X6_isSame (d - 1) (by omega) C.1 C.2.2.1 l0 l1 0 v2 v3 (inI_c 0 rfl) hv2 hv3) hy_X6_isSame rfl rfl hf hlo (st_room (Nat.le_of_ble_eq_true rfl)) hcs (fun v4 hv4 => ?_)
  exact s_zret X dX6_seesWord_19
theorem c_X6_seesWord (d : Nat) (hd : 6 ≤ d) (G : hG) (l : Launch) (l0 : Nat) (l1 : Nat) : hMet G l yX6_seesWord cX6_seesWord 2 (some .boolean) d 0 0 [vR G.1 l0, vS G l1] (m_X6_seesWord l0 l1) := by
  refine hMet.of (lv := [(0, vR G.1 l0), (1, vS G l1)]) (by decide +kernel) (by simp [lg_sl, vR_cat, vI_cat, vL_cat, vS_cat2, vT_cat2]) (by simp [lv_args, vR_cat, vI_cat, vL_cat, vS_cat2, vT_cat2]) (fun C K X => ?_)
  obtain ⟨rfl, rfl, K⟩ := K
  exact z_X6_seesWord d hd ⟨rfl, rfl, K⟩ X l0 l1
def m_X6_takeWord_L15 : hM :=
  hretZ 0
def m_X6_takeWord (l0 : Nat) (l1 : Nat) : hM :=
  hgI 6 l0 4 fun v1 =>
  hif (v1 ≠ 0) (
m_X6_takeWord_L15) (
hcallV 6 l0 (m_X6_seesWord l0 l1) fun v2 =>
  hif (v2 ≠ 0) (
hgI 6 l0 2 fun v3 =>
  hpI 6 l0 3 v3 <|
  hgI 6 l0 2 fun v4 =>
  hgd7 l1 <| hcall (m_J0_length_8abf5 l1) fun v5 =>
  hpI 6 l0 2 ((w32 (v4 + v5))) <|
  hretZ 1) (
m_X6_takeWord_L15))
set_option maxRecDepth 4000 in
theorem z_X6_takeWord_L15 (d : Nat) (hd : 7 ≤ d) {C : hCx} (K : hCtx C.1 C.2.2.1 d 0 0 "takeWord" C) (X : hOK C cX6_takeWord RX6 2 (some .boolean)) : hSim C (some .boolean) 0 0 2 15 [] [] 0 0 (m_X6_takeWord_L15) := by
  obtain ⟨⟨hf, hlo⟩, ⟨hc1, hc2⟩, hf1, hl1⟩ := K_room K (by omega)
  have hcs : 0 ≤ C.2.2.2.2.1.cells ∧ 0 ≤ C.2.2.2.2.1.slots := ⟨Nat.zero_le _, Nat.zero_le _⟩
  unfold m_X6_takeWord_L15
  refine s_iconst (n := 0) (pc2 := 16) X dX6_takeWord_15 rfl ?_
  exact s_zret X dX6_takeWord_16
set_option maxRecDepth 4000 in
set_option maxHeartbeats 20000000 in
theorem z_X6_takeWord (d : Nat) (hd : 7 ≤ d) {C : hCx} (K : hCtx C.1 C.2.2.1 d 0 0 "takeWord" C) (X : hOK C cX6_takeWord RX6 2 (some .boolean)) (l0 : Nat) (l1 : Nat) : hSim C (some .boolean) 0 0 2 0 [(0, vR C.1.1 l0), (1, vS C.1 l1)] [] 0 0 (m_X6_takeWord l0 l1) := by
  obtain ⟨⟨hf, hlo⟩, ⟨hc1, hc2⟩, hf1, hl1⟩ := K_room K (by omega)
  have hcs : 0 ≤ C.2.2.2.2.1.cells ∧ 0 ≤ C.2.2.2.2.1.slots := ⟨Nat.zero_le _, Nat.zero_le _⟩
  unfold m_X6_takeWord
  refine s_aload_n (j := 0) (pc2 := 1) X dX6_takeWord_0 rfl rfl ?_
  refine s_getI (pc2 := 4) X dX6_takeWord_1 rfl fl_RX6_25 rfl (fun v1 hv1 => ?_)
  refine s_ifne (tgt := 15) X dX6_takeWord_4 (by decide) rfl hv1 ?_ ?_
  · refine s_sub (lv2 := []) [] rfl ?_
    exact z_X6_takeWord_L15 d hd K X
  · refine s_aload_n (j := 0) (pc2 := 8) X dX6_takeWord_7 rfl rfl ?_
    refine s_sload_n2 (j := 1) (pc2 := 9) X dX6_takeWord_8 rfl rfl ?_
    refine s_callVZ (d2 := d - 1) (As := [vS C.1 l1]) (st := []) (pc2 := 12) X dX6_takeWord_9 rfl ml_RX6_32 im_X6_seesWord se_X6_seesWord kX6 rfl (c_X6_seesWord (d - 1) (by omega) C.1 C.2.2.1 l0 l1) hy_X6_seesWord rfl rfl hf hlo (st_room (Nat.le_of_ble_eq_true rfl)) hcs (fun v2 hv2 => ?_)
    refine s_ifne (tgt := 17) X dX6_takeWord_12 (by decide) rfl hv2 ?_ ?_
    · refine s_aload_n (j := 0) (pc2 := 18) X dX6_takeWord_17 rfl rfl ?_
      refine s_aload_n (j := 0) (pc2 := 19) X dX6_takeWord_18 rfl rfl ?_
      refine s_getI (pc2 := 22) X dX6_takeWord_19 rfl fl_RX6_19 rfl (fun v3 hv3 => ?_)
      refine s_putI (pc2 := 25) X dX6_takeWord_22 rfl fl_RX6_22 (Or.inl rfl) rfl hv3 ?_
      refine s_aload_n (j := 0) (pc2 := 26) X dX6_takeWord_25 rfl rfl ?_
      refine s_dup (pc2 := 27) X dX6_takeWord_26 rfl (vR_cat _ _) ?_
      refine s_getI (pc2 := 30) X dX6_takeWord_27 rfl fl_RX6_19 rfl (fun v4 hv4 => ?_)
      refine s_sload_n2 (j := 1) (pc2 := 31) X dX6_takeWord_30 rfl rfl ?_
      refine s_callTI (d2 := d - 1) (As := []) (st := [vI v4, vR C.1.1 l0]) (pc2 := 34) X dX6_takeWord_31 rfl ml_RX6_36 im_J0_length_8abf5 se_J0_length_8abf5 rfl (c_J0_length_8abf5 (d - 1) (by omega) C.1 C.2.2.1 l1) hy_J0_length_8abf5 rfl rfl hf hlo (st_room (Nat.le_of_ble_eq_true rfl)) hcs (fun v5 hv5 => ?_)
      refine s_iadd (pc2 := 35) X dX6_takeWord_34 rfl ?_
      refine s_putI (pc2 := 38) X dX6_takeWord_35 rfl fl_RX6_19 (Or.inl rfl) rfl (w32_in _) ?_
      refine s_iconst (n := 1) (pc2 := 39) X dX6_takeWord_38 rfl ?_
      exact s_zret X dX6_takeWord_39
    · refine s_sub (lv2 := []) [] rfl ?_
      exact z_X6_takeWord_L15 d hd K X
theorem c_X6_takeWord (d : Nat) (hd : 7 ≤ d) (G : hG) (l : Launch) (l0 : Nat) (l1 : Nat) : hMet G l yX6_takeWord cX6_takeWord 2 (some .boolean) d 0 0 [vR G.1 l0, vS G l1] (m_X6_takeWord l0 l1) := by
  refine hMet.of (lv := [(0, vR G.1 l0), (1, vS G l1)]) (by decide +kernel) (by simp [lg_sl, vR_cat, vI_cat, vL_cat, vS_cat2, vT_cat2]) (by simp [lv_args, vR_cat, vI_cat, vL_cat, vS_cat2, vT_cat2]) (fun C K X => ?_)
  obtain ⟨rfl, rfl, K⟩ := K
  exact z_X6_takeWord d hd ⟨rfl, rfl, K⟩ X l0 l1
def m_X6_word_L71 (k32 : Nat → Nat → Int → Int → Int → hM) (l0 : Nat) (l1 : Nat) (l2 : Int) (l3 : Int) (l4 : Int) (l5 : Int) : hM :=
  hcallV 6 l0 (m_X6_isSame l0 l1 l4 l5 l2) fun v1 =>
  hif (v1 = 0) (
hlet (w32 (l3 + 1)) fun (w2 : Int) =>
  hlet ((w32 (l5 + 1))) fun (w3 : Int) =>
  k32 l0 l1 l2 w2 w3) (
hpI 6 l0 2 l2 <|
  hret l3)
def m_X6_word_L45 (k32 : Nat → Nat → Int → Int → Int → hM) : Nat → Nat → Nat → Int → Int → Int → Int → hM
  | 0, _, _, _, _, _, _ => hfail
  | n + 1, l0, l1, l2, l3, l4, l5 =>
    hgd7 l1 <| hcall (m_J0_length_8abf5 l1) fun v1 =>
  hif (l5 ≥ v1) (
m_X6_word_L71 k32 l0 l1 l2 l3 l4 l5) (
hgd7 l1 <| hcall (m_J0_charAt_5068e l1 l5) fun v2 =>
  hif (v2 = 32) (
m_X6_word_L71 k32 l0 l1 l2 l3 l4 l5) (
hlet (w32 (l5 + 1)) fun (w3 : Int) =>
  m_X6_word_L45 k32 n l0 l1 l2 l3 l4 w3))
def m_X6_word_L32 : Nat → Nat → Nat → Int → Int → Int → hM
  | 0, _, _, _, _, _ => hfail
  | n + 1, l0, l1, l2, l3, l4 =>
    hgd7 l1 <| hcall (m_J0_length_8abf5 l1) fun v1 =>
  hif (l4 ≥ v1) (
hgI 6 l0 3 fun v2 =>
  hcallV 6 l0 (m_X6_fail l0 v2 0) fun _ =>
  hret ((-1))) (
hlet l4 fun (w3 : Int) =>
  m_X6_word_L45 (m_X6_word_L32 n) 1000000000 l0 l1 l2 l3 l4 w3)
def m_X6_word (l0 : Nat) (l1 : Nat) : hM :=
  hgI 6 l0 4 fun v1 =>
  hif (v1 = 0) (
hcallV 6 l0 (m_X6_next l0) fun v2 =>
  hgI 6 l0 2 fun v3 =>
  hpI 6 l0 3 v3 <|
  hcallV 6 l0 (m_X6_wordEnd l0) fun v4 =>
  hlet v4 fun (w5 : Int) =>
  hlet (0 : Int) fun (w6 : Int) =>
  hlet (0 : Int) fun (w7 : Int) =>
  m_X6_word_L32 1000000000 l0 l1 w5 w6 w7) (
hret ((-1)))
set_option maxRecDepth 4000 in
theorem z_X6_word_L71 (d : Nat) (hd : 6 ≤ d) {C : hCx} (K : hCtx C.1 C.2.2.1 d 0 0 "word" C) (X : hOK C cX6_word RX6 6 (some .int)) (k32 : Nat → Nat → Int → Int → Int → hM) (hk32 : ∀ (l0 : Nat) (l1 : Nat) (l2 : Int) (l3 : Int) (l4 : Int), inI l2 → inI l3 → inI l4 → hSim C (some .int) 0 0 6 32 [(0, vR C.1.1 l0), (1, vS C.1 l1), (2, vI l2), (3, vI l3), (4, vI l4)] [] 0 0 (k32 l0 l1 l2 l3 l4)) (l0 : Nat) (l1 : Nat) (l2 : Int) (l3 : Int) (l4 : Int) (l5 : Int) (h2 : inI l2) (h3 : inI l3) (h4 : inI l4) (h5 : inI l5) : hSim C (some .int) 0 0 6 71 [(0, vR C.1.1 l0), (1, vS C.1 l1), (2, vI l2), (3, vI l3), (4, vI l4), (5, vI l5)] [] 0 0 (m_X6_word_L71 k32 l0 l1 l2 l3 l4 l5) := by
  obtain ⟨⟨hf, hlo⟩, ⟨hc1, hc2⟩, hf1, hl1⟩ := K_room K (by omega)
  have hcs : 0 ≤ C.2.2.2.2.1.cells ∧ 0 ≤ C.2.2.2.2.1.slots := ⟨Nat.zero_le _, Nat.zero_le _⟩
  unfold m_X6_word_L71
  refine s_aload_n (j := 0) (pc2 := 72) X dX6_word_71 rfl rfl ?_
  refine s_sload_n2 (j := 1) (pc2 := 73) X dX6_word_72 rfl rfl ?_
  refine s_iload (j := 4) (pc2 := 75) X dX6_word_73 rfl rfl ?_
  refine s_iload (j := 5) (pc2 := 77) X dX6_word_75 rfl rfl ?_
  refine s_iload_n (j := 2) (pc2 := 78) X dX6_word_77 rfl rfl ?_
  refine s_callVZ (d2 := d - 1) (As := [vS C.1 l1, vI l4, vI l5, vI l2]) (st := []) (pc2 := 81) X dX6_word_78 rfl ml_RX6_43 im_X6_isSame se_X6_isSame kX6 rfl (c_X6_isSame (d - 1) (by omega) C.1 C.2.2.1 l0 l1 l4 l5 l2 h4 h5 h2) hy_X6_isSame rfl rfl hf hlo (st_room (Nat.le_of_ble_eq_true rfl)) hcs (fun v1 hv1 => ?_)
  refine s_ifeq (tgt := 91) X dX6_word_81 (by decide) rfl hv1 ?_ ?_
  · refine s_iinc (j := 3) (pc2 := 94) X dX6_word_91 rfl (by decide) rfl rfl rfl cat1_I (fun w2 hw2 => ?_)
    refine s_iload (j := 5) (pc2 := 96) X dX6_word_94 rfl rfl ?_
    refine s_iconst (n := 1) (pc2 := 97) X dX6_word_96 rfl ?_
    refine s_iadd (pc2 := 98) X dX6_word_97 rfl ?_
    refine s_istore (pc2 := 100) X dX6_word_98 rfl (by decide) rfl rfl cat1_I (w32_in _) (fun w3 hw3 => ?_)
    refine s_goto (pc2 := 32) X dX6_word_100 (by decide) ?_
    refine s_sub (lv2 := [(0, vR C.1.1 l0), (1, vS C.1 l1), (2, vI l2), (3, vI w2), (4, vI w3)]) [2, 3, 4, 1, 0] rfl ?_
    exact hk32 l0 l1 l2 w2 w3 h2 hw2 hw3
  · refine s_aload_n (j := 0) (pc2 := 85) X dX6_word_84 rfl rfl ?_
    refine s_iload_n (j := 2) (pc2 := 86) X dX6_word_85 rfl rfl ?_
    refine s_putI (pc2 := 89) X dX6_word_86 rfl fl_RX6_19 (Or.inl rfl) rfl h2 ?_
    refine s_iload_n (j := 3) (pc2 := 90) X dX6_word_89 rfl rfl ?_
    exact s_iret X dX6_word_90 h3
set_option maxRecDepth 4000 in
theorem z_X6_word_L45 (d : Nat) (hd : 6 ≤ d) {C : hCx} (K : hCtx C.1 C.2.2.1 d 0 0 "word" C) (X : hOK C cX6_word RX6 6 (some .int)) (k32 : Nat → Nat → Int → Int → Int → hM) (hk32 : ∀ (l0 : Nat) (l1 : Nat) (l2 : Int) (l3 : Int) (l4 : Int), inI l2 → inI l3 → inI l4 → hSim C (some .int) 0 0 6 32 [(0, vR C.1.1 l0), (1, vS C.1 l1), (2, vI l2), (3, vI l3), (4, vI l4)] [] 0 0 (k32 l0 l1 l2 l3 l4)) : ∀ (n : Nat) (l0 : Nat) (l1 : Nat) (l2 : Int) (l3 : Int) (l4 : Int) (l5 : Int) (h2 : inI l2) (h3 : inI l3) (h4 : inI l4) (h5 : inI l5), hSim C (some .int) 0 0 6 45 [(0, vR C.1.1 l0), (1, vS C.1 l1), (2, vI l2), (3, vI l3), (4, vI l4), (5, vI l5)] [] 0 0 (m_X6_word_L45 k32 n l0 l1 l2 l3 l4 l5) := by
  obtain ⟨⟨hf, hlo⟩, ⟨hc1, hc2⟩, hf1, hl1⟩ := K_room K (by omega)
  have hcs : 0 ≤ C.2.2.2.2.1.cells ∧ 0 ≤ C.2.2.2.2.1.slots := ⟨Nat.zero_le _, Nat.zero_le _⟩
  intro n
  induction n with
  | zero => intros; exact s_none (fun _ => rfl)
  | succ n ih =>
    intro l0 l1 l2 l3 l4 l5 h2 h3 h4 h5
    unfold m_X6_word_L45
    refine s_iload (j := 5) (pc2 := 47) X dX6_word_45 rfl rfl ?_
    refine s_sload_n2 (j := 1) (pc2 := 48) X dX6_word_47 rfl rfl ?_
    refine s_callTI (d2 := d - 1) (As := []) (st := [vI l5]) (pc2 := 51) X dX6_word_48 rfl ml_RX6_36 im_J0_length_8abf5 se_J0_length_8abf5 rfl (c_J0_length_8abf5 (d - 1) (by omega) C.1 C.2.2.1 l1) hy_J0_length_8abf5 rfl rfl hf hlo (st_room (Nat.le_of_ble_eq_true rfl)) hcs (fun v1 hv1 => ?_)
    refine s_icge (tgt := 71) X dX6_word_51 (by decide) rfl h5 hv1 ?_ ?_
    · exact z_X6_word_L71 d hd K X k32 hk32 l0 l1 l2 l3 l4 l5 h2 h3 h4 h5
    · refine s_sload_n2 (j := 1) (pc2 := 55) X dX6_word_54 rfl rfl ?_
      refine s_iload (j := 5) (pc2 := 57) X dX6_word_55 rfl rfl ?_
      refine s_callTC (d2 := d - 1) (As := [vI l5]) (st := []) (pc2 := 60) X dX6_word_57 rfl ml_RX6_47 im_J0_charAt_5068e se_J0_charAt_5068e rfl (c_J0_charAt_5068e (d - 1) (by omega) C.1 C.2.2.1 l1 l5 h5) hy_J0_charAt_5068e rfl rfl hf hlo (st_room (Nat.le_of_ble_eq_true rfl)) hcs (fun v2 hv2 => ?_)
      refine s_bipush (n := 32) (pc2 := 62) X dX6_word_60 rfl rfl ?_
      refine s_iceq (tgt := 71) X dX6_word_62 (by decide) rfl hv2 (inI_c 32 rfl) ?_ ?_
      · exact z_X6_word_L71 d hd K X k32 hk32 l0 l1 l2 l3 l4 l5 h2 h3 h4 h5
      · refine s_iinc (j := 5) (pc2 := 68) X dX6_word_65 rfl (by decide) rfl rfl rfl cat1_I (fun w3 hw3 => ?_)
        refine s_goto (pc2 := 45) X dX6_word_68 (by decide) ?_
        refine s_sub (lv2 := [(0, vR C.1.1 l0), (1, vS C.1 l1), (2, vI l2), (3, vI l3), (4, vI l4), (5, vI w3)]) [1, 2, 3, 4, 5, 0] rfl ?_
        exact ih l0 l1 l2 l3 l4 w3 h2 h3 h4 hw3
set_option maxRecDepth 4000 in
theorem z_X6_word_L32 (d : Nat) (hd : 6 ≤ d) {C : hCx} (K : hCtx C.1 C.2.2.1 d 0 0 "word" C) (X : hOK C cX6_word RX6 6 (some .int)) : ∀ (n : Nat) (l0 : Nat) (l1 : Nat) (l2 : Int) (l3 : Int) (l4 : Int) (h2 : inI l2) (h3 : inI l3) (h4 : inI l4), hSim C (some .int) 0 0 6 32 [(0, vR C.1.1 l0), (1, vS C.1 l1), (2, vI l2), (3, vI l3), (4, vI l4)] [] 0 0 (m_X6_word_L32 n l0 l1 l2 l3 l4) := by
  obtain ⟨⟨hf, hlo⟩, ⟨hc1, hc2⟩, hf1, hl1⟩ := K_room K (by omega)
  have hcs : 0 ≤ C.2.2.2.2.1.cells ∧ 0 ≤ C.2.2.2.2.1.slots := ⟨Nat.zero_le _, Nat.zero_le _⟩
  intro n
  induction n with
  | zero => intros; exact s_none (fun _ => rfl)
  | succ n ih =>
    intro l0 l1 l2 l3 l4 h2 h3 h4
    unfold m_X6_word_L32
    refine s_iload (j := 4) (pc2 := 34) X dX6_word_32 rfl rfl ?_
    refine s_sload_n2 (j := 1) (pc2 := 35) X dX6_word_34 rfl rfl ?_
    refine s_callTI (d2 := d - 1) (As := []) (st := [vI l4]) (pc2 := 38) X dX6_word_35 rfl ml_RX6_36 im_J0_length_8abf5 se_J0_length_8abf5 rfl (c_J0_length_8abf5 (d - 1) (by omega) C.1 C.2.2.1 l1) hy_J0_length_8abf5 rfl rfl hf hlo (st_room (Nat.le_of_ble_eq_true rfl)) hcs (fun v1 hv1 => ?_)
    refine s_icge (tgt := 103) X dX6_word_38 (by decide) rfl h4 hv1 ?_ ?_
    · refine s_aload_n (j := 0) (pc2 := 104) X dX6_word_103 rfl rfl ?_
      refine s_aload_n (j := 0) (pc2 := 105) X dX6_word_104 rfl rfl ?_
      refine s_getI (pc2 := 108) X dX6_word_105 rfl fl_RX6_22 rfl (fun v2 hv2 => ?_)
      refine s_iconst (n := 0) (pc2 := 109) X dX6_word_108 rfl ?_
      refine s_callVV (d2 := d - 1) (As := [vI v2, vI 0]) (st := []) (pc2 := 112) X dX6_word_109 rfl ml_RX6_51 im_X6_fail se_X6_fail kX6 rfl (c_X6_fail (d - 1) (by omega) C.1 C.2.2.1 l0 v2 0 hv2 (inI_c 0 rfl)) hy_X6_fail rfl rfl hf hlo (st_room (Nat.le_of_ble_eq_true rfl)) hcs (fun _ => ?_)
      refine s_iconst (n := (-1)) (pc2 := 113) X dX6_word_112 rfl ?_
      exact s_iret X dX6_word_113 (inI_c (-1) rfl)
    · refine s_iload (j := 4) (pc2 := 43) X dX6_word_41 rfl rfl ?_
      refine s_istore (pc2 := 45) X dX6_word_43 rfl (by decide) rfl rfl cat1_I h4 (fun w3 hw3 => ?_)
      refine s_sub (lv2 := [(0, vR C.1.1 l0), (1, vS C.1 l1), (2, vI l2), (3, vI l3), (4, vI l4), (5, vI w3)]) [1, 2, 3, 4, 5, 0] rfl ?_
      exact z_X6_word_L45 d hd K X (m_X6_word_L32 n) ih 1000000000 l0 l1 l2 l3 l4 w3 h2 h3 h4 hw3
set_option maxRecDepth 4000 in
set_option maxHeartbeats 20000000 in
theorem z_X6_word (d : Nat) (hd : 6 ≤ d) {C : hCx} (K : hCtx C.1 C.2.2.1 d 0 0 "word" C) (X : hOK C cX6_word RX6 6 (some .int)) (l0 : Nat) (l1 : Nat) : hSim C (some .int) 0 0 6 0 [(0, vR C.1.1 l0), (1, vS C.1 l1)] [] 0 0 (m_X6_word l0 l1) := by
  obtain ⟨⟨hf, hlo⟩, ⟨hc1, hc2⟩, hf1, hl1⟩ := K_room K (by omega)
  have hcs : 0 ≤ C.2.2.2.2.1.cells ∧ 0 ≤ C.2.2.2.2.1.slots := ⟨Nat.zero_le _, Nat.zero_le _⟩
  unfold m_X6_word
  refine s_aload_n (j := 0) (pc2 := 1) X dX6_word_0 rfl rfl ?_
  refine s_getI (pc2 := 4) X dX6_word_1 rfl fl_RX6_25 rfl (fun v1 hv1 => ?_)
  refine s_ifeq (tgt := 9) X dX6_word_4 (by decide) rfl hv1 ?_ ?_
  · refine s_aload_n (j := 0) (pc2 := 10) X dX6_word_9 rfl rfl ?_
    refine s_callVI (d2 := d - 1) (As := []) (st := []) (pc2 := 13) X dX6_word_10 rfl ml_RX6_28 im_X6_next se_X6_next kX6 rfl (c_X6_next (d - 1) (by omega) C.1 C.2.2.1 l0) hy_X6_next rfl rfl hf hlo (st_room (Nat.le_of_ble_eq_true rfl)) hcs (fun v2 hv2 => ?_)
    refine s_pop (pc2 := 14) X dX6_word_13 rfl rfl ?_
    refine s_aload_n (j := 0) (pc2 := 15) X dX6_word_14 rfl rfl ?_
    refine s_aload_n (j := 0) (pc2 := 16) X dX6_word_15 rfl rfl ?_
    refine s_getI (pc2 := 19) X dX6_word_16 rfl fl_RX6_19 rfl (fun v3 hv3 => ?_)
    refine s_putI (pc2 := 22) X dX6_word_19 rfl fl_RX6_22 (Or.inl rfl) rfl hv3 ?_
    refine s_aload_n (j := 0) (pc2 := 23) X dX6_word_22 rfl rfl ?_
    refine s_callVI (d2 := d - 1) (As := []) (st := []) (pc2 := 26) X dX6_word_23 rfl ml_RX6_40 im_X6_wordEnd se_X6_wordEnd kX6 rfl (c_X6_wordEnd (d - 1) (by omega) C.1 C.2.2.1 l0) hy_X6_wordEnd rfl rfl hf hlo (st_room (Nat.le_of_ble_eq_true rfl)) hcs (fun v4 hv4 => ?_)
    refine s_istore_n (pc2 := 27) X dX6_word_26 rfl (by decide) rfl rfl cat1_S hv4 (fun w5 hw5 => ?_)
    refine s_iconst (n := 0) (pc2 := 28) X dX6_word_27 rfl ?_
    refine s_istore_n (pc2 := 29) X dX6_word_28 rfl (by decide) rfl rfl cat1_I (inI_c 0 rfl) (fun w6 hw6 => ?_)
    refine s_iconst (n := 0) (pc2 := 30) X dX6_word_29 rfl ?_
    refine s_istore (pc2 := 32) X dX6_word_30 rfl (by decide) rfl rfl cat1_I (inI_c 0 rfl) (fun w7 hw7 => ?_)
    refine s_sub (lv2 := [(0, vR C.1.1 l0), (1, vS C.1 l1), (2, vI w5), (3, vI w6), (4, vI w7)]) [3, 4, 2, 1, 0] rfl ?_
    exact z_X6_word_L32 d hd K X 1000000000 l0 l1 w5 w6 w7 hw5 hw6 hw7
  · refine s_iconst (n := (-1)) (pc2 := 8) X dX6_word_7 rfl ?_
    exact s_iret X dX6_word_8 (inI_c (-1) rfl)
theorem c_X6_word (d : Nat) (hd : 6 ≤ d) (G : hG) (l : Launch) (l0 : Nat) (l1 : Nat) : hMet G l yX6_word cX6_word 6 (some .int) d 0 0 [vR G.1 l0, vS G l1] (m_X6_word l0 l1) := by
  refine hMet.of (lv := [(0, vR G.1 l0), (1, vS G l1)]) (by decide +kernel) (by simp [lg_sl, vR_cat, vI_cat, vL_cat, vS_cat2, vT_cat2]) (by simp [lv_args, vR_cat, vI_cat, vL_cat, vS_cat2, vT_cat2]) (fun C K X => ?_)
  obtain ⟨rfl, rfl, K⟩ := K
  exact z_X6_word d hd ⟨rfl, rfl, K⟩ X l0 l1
def m_X6_isDigit_L17 (s0 : Int) : hM :=
  hretZ s0
def m_X6_isDigit_L16 : hM :=
  m_X6_isDigit_L17 0
def m_X6_isDigit (l0 : Int) : hM :=
  hif (l0 < 48) (
m_X6_isDigit_L16) (
hif (l0 > 57) (
m_X6_isDigit_L16) (
m_X6_isDigit_L17 1))
set_option maxRecDepth 4000 in
theorem z_X6_isDigit_L17 (d : Nat) (hd : 1 ≤ d) {C : hCx} (K : hCtx C.1 C.2.2.1 d 0 0 "isDigit" C) (X : hOK C cX6_isDigit RX6 1 (some .boolean)) (s0 : Int) (g0 : inI s0) : hSim C (some .boolean) 0 0 1 17 [] [vI s0] 0 0 (m_X6_isDigit_L17 s0) := by
  obtain ⟨⟨hf, hlo⟩, ⟨hc1, hc2⟩, hf1, hl1⟩ := K_room K (by omega)
  have hcs : 0 ≤ C.2.2.2.2.1.cells ∧ 0 ≤ C.2.2.2.2.1.slots := ⟨Nat.zero_le _, Nat.zero_le _⟩
  unfold m_X6_isDigit_L17
  exact s_zret X dX6_isDigit_17
set_option maxRecDepth 4000 in
theorem z_X6_isDigit_L16 (d : Nat) (hd : 1 ≤ d) {C : hCx} (K : hCtx C.1 C.2.2.1 d 0 0 "isDigit" C) (X : hOK C cX6_isDigit RX6 1 (some .boolean)) : hSim C (some .boolean) 0 0 1 16 [] [] 0 0 (m_X6_isDigit_L16) := by
  obtain ⟨⟨hf, hlo⟩, ⟨hc1, hc2⟩, hf1, hl1⟩ := K_room K (by omega)
  have hcs : 0 ≤ C.2.2.2.2.1.cells ∧ 0 ≤ C.2.2.2.2.1.slots := ⟨Nat.zero_le _, Nat.zero_le _⟩
  unfold m_X6_isDigit_L16
  refine s_iconst (n := 0) (pc2 := 17) X dX6_isDigit_16 rfl ?_
  exact z_X6_isDigit_L17 d hd K X 0 (inI_c 0 rfl)
set_option maxRecDepth 4000 in
set_option maxHeartbeats 20000000 in
theorem z_X6_isDigit (d : Nat) (hd : 1 ≤ d) {C : hCx} (K : hCtx C.1 C.2.2.1 d 0 0 "isDigit" C) (X : hOK C cX6_isDigit RX6 1 (some .boolean)) (l0 : Int) (h0 : inI l0) : hSim C (some .boolean) 0 0 1 0 [(0, vI l0)] [] 0 0 (m_X6_isDigit l0) := by
  obtain ⟨⟨hf, hlo⟩, ⟨hc1, hc2⟩, hf1, hl1⟩ := K_room K (by omega)
  have hcs : 0 ≤ C.2.2.2.2.1.cells ∧ 0 ≤ C.2.2.2.2.1.slots := ⟨Nat.zero_le _, Nat.zero_le _⟩
  unfold m_X6_isDigit
  refine s_iload_n (j := 0) (pc2 := 1) X dX6_isDigit_0 rfl rfl ?_
  refine s_bipush (n := 48) (pc2 := 3) X dX6_isDigit_1 rfl rfl ?_
  refine s_iclt (tgt := 16) X dX6_isDigit_3 (by decide) rfl h0 (inI_c 48 rfl) ?_ ?_
  · refine s_sub (lv2 := []) [] rfl ?_
    exact z_X6_isDigit_L16 d hd K X
  · refine s_iload_n (j := 0) (pc2 := 7) X dX6_isDigit_6 rfl rfl ?_
    refine s_bipush (n := 57) (pc2 := 9) X dX6_isDigit_7 rfl rfl ?_
    refine s_icgt (tgt := 16) X dX6_isDigit_9 (by decide) rfl h0 (inI_c 57 rfl) ?_ ?_
    · refine s_sub (lv2 := []) [] rfl ?_
      exact z_X6_isDigit_L16 d hd K X
    · refine s_iconst (n := 1) (pc2 := 13) X dX6_isDigit_12 rfl ?_
      refine s_goto (pc2 := 17) X dX6_isDigit_13 (by decide) ?_
      refine s_sub (lv2 := []) [] rfl ?_
      exact z_X6_isDigit_L17 d hd K X 1 (inI_c 1 rfl)
theorem c_X6_isDigit (d : Nat) (hd : 1 ≤ d) (G : hG) (l : Launch) (l0 : Int) (h0 : inI l0) : hMet G l yX6_isDigit cX6_isDigit 1 (some .boolean) d 0 0 [vI l0] (m_X6_isDigit l0) := by
  refine hMet.of (lv := [(0, vI l0)]) (by decide +kernel) (by simp [lg_sl, vR_cat, vI_cat, vL_cat, vS_cat2, vT_cat2]) (by simp [lv_args, vR_cat, vI_cat, vL_cat, vS_cat2, vT_cat2]) (fun C K X => ?_)
  obtain ⟨rfl, rfl, K⟩ := K
  exact z_X6_isDigit d hd ⟨rfl, rfl, K⟩ X l0 h0
def m_X6_number_L149 (l3 : Int) : hM :=
  hret l3
def m_X6_number_L140 (l0 : Nat) (l3 : Int) : hM :=
  hgI 6 l0 3 fun v1 =>
  hcallV 6 l0 (m_X6_fail l0 v1 1) fun _ =>
  m_X6_number_L149 l3
def m_X6_number_L94 (l0 : Nat) (l1 : Int) (l2 : Int) (l3 : Int) : hM :=
  hgI 6 l0 2 fun v1 =>
  hgI 6 l0 3 fun v2 =>
  hif (v1 ≠ v2) (
hgI 6 l0 2 fun v3 =>
  hgI 6 l0 3 fun v4 =>
  hif (((w32 (v3 - v4))) > 5) (
m_X6_number_L140 l0 l3) (
hif (l3 < l1) (
m_X6_number_L140 l0 l3) (
hif (l3 ≤ l2) (
m_X6_number_L149 l3) (
m_X6_number_L140 l0 l3)))) (
hgI 6 l0 3 fun v5 =>
  hcallV 6 l0 (m_X6_fail l0 v5 0) fun _ =>
  m_X6_number_L149 l3)
def m_X6_number_L81 (k24 : Nat → Int → Int → Int → hM) (l0 : Nat) (l1 : Int) (l2 : Int) (l3 : Int) : hM :=
  hgI 6 l0 2 fun v1 =>
  hpI 6 l0 2 ((w32 (v1 + 1))) <|
  k24 l0 l1 l2 l3
def m_X6_number_L24 : Nat → Nat → Int → Int → Int → hM
  | 0, _, _, _, _ => hfail
  | n + 1, l0, l1, l2, l3 =>
    hgI 6 l0 2 fun v1 =>
  hgI 6 l0 1 fun v2 =>
  hif (v1 ≥ v2) (
m_X6_number_L94 l0 l1 l2 l3) (
hgR 6 l0 0 fun v3 =>
  hgI 6 l0 2 fun v4 =>
  haI 22 v3 v4 fun v5 =>
  hcall (m_X6_isDigit v5) fun v6 =>
  hif (v6 = 0) (
m_X6_number_L94 l0 l1 l2 l3) (
hgI 6 l0 2 fun v7 =>
  hgI 6 l0 3 fun v8 =>
  hif (((w32 (v7 - v8))) ≥ 5) (
m_X6_number_L81 (m_X6_number_L24 n) l0 l1 l2 l3) (
hgR 6 l0 0 fun v9 =>
  hgI 6 l0 2 fun v10 =>
  haI 22 v9 v10 fun v11 =>
  hlet ((w32 (((w32 (((w32 (l3 * 10))) + v11))) - 48))) fun (w12 : Int) =>
  m_X6_number_L81 (m_X6_number_L24 n) l0 l1 l2 w12)))
def m_X6_number (l0 : Nat) (l1 : Int) (l2 : Int) : hM :=
  hgI 6 l0 4 fun v1 =>
  hif (v1 = 0) (
hcallV 6 l0 (m_X6_next l0) fun v2 =>
  hgI 6 l0 2 fun v3 =>
  hpI 6 l0 3 v3 <|
  hlet (0 : Int) fun (w4 : Int) =>
  m_X6_number_L24 1000000000 l0 l1 l2 w4) (
hret l1)
set_option maxRecDepth 4000 in
theorem z_X6_number_L149 (d : Nat) (hd : 2 ≤ d) {C : hCx} (K : hCtx C.1 C.2.2.1 d 0 0 "number" C) (X : hOK C cX6_number RX6 4 (some .int)) (l3 : Int) (h3 : inI l3) : hSim C (some .int) 0 0 4 149 [(3, vI l3)] [] 0 0 (m_X6_number_L149 l3) := by
  obtain ⟨⟨hf, hlo⟩, ⟨hc1, hc2⟩, hf1, hl1⟩ := K_room K (by omega)
  have hcs : 0 ≤ C.2.2.2.2.1.cells ∧ 0 ≤ C.2.2.2.2.1.slots := ⟨Nat.zero_le _, Nat.zero_le _⟩
  unfold m_X6_number_L149
  refine s_iload_n (j := 0) (pc2 := 150) X dX6_number_149 rfl rfl ?_
  exact s_iret X dX6_number_150 h3
set_option maxRecDepth 4000 in
theorem z_X6_number_L140 (d : Nat) (hd : 2 ≤ d) {C : hCx} (K : hCtx C.1 C.2.2.1 d 0 0 "number" C) (X : hOK C cX6_number RX6 4 (some .int)) (l0 : Nat) (l3 : Int) (h3 : inI l3) : hSim C (some .int) 0 0 4 140 [(0, vR C.1.1 l0), (3, vI l3)] [] 0 0 (m_X6_number_L140 l0 l3) := by
  obtain ⟨⟨hf, hlo⟩, ⟨hc1, hc2⟩, hf1, hl1⟩ := K_room K (by omega)
  have hcs : 0 ≤ C.2.2.2.2.1.cells ∧ 0 ≤ C.2.2.2.2.1.slots := ⟨Nat.zero_le _, Nat.zero_le _⟩
  unfold m_X6_number_L140
  refine s_aload_n (j := 0) (pc2 := 141) X dX6_number_140 rfl rfl ?_
  refine s_aload_n (j := 0) (pc2 := 142) X dX6_number_141 rfl rfl ?_
  refine s_getI (pc2 := 145) X dX6_number_142 rfl fl_RX6_22 rfl (fun v1 hv1 => ?_)
  refine s_iconst (n := 1) (pc2 := 146) X dX6_number_145 rfl ?_
  refine s_callVV (d2 := d - 1) (As := [vI v1, vI 1]) (st := []) (pc2 := 149) X dX6_number_146 rfl ml_RX6_51 im_X6_fail se_X6_fail kX6 rfl (c_X6_fail (d - 1) (by omega) C.1 C.2.2.1 l0 v1 1 hv1 (inI_c 1 rfl)) hy_X6_fail rfl rfl hf hlo (st_room (Nat.le_of_ble_eq_true rfl)) hcs (fun _ => ?_)
  refine s_sub (lv2 := [(3, vI l3)]) [1] rfl ?_
  exact z_X6_number_L149 d hd K X l3 h3
set_option maxRecDepth 4000 in
theorem z_X6_number_L94 (d : Nat) (hd : 2 ≤ d) {C : hCx} (K : hCtx C.1 C.2.2.1 d 0 0 "number" C) (X : hOK C cX6_number RX6 4 (some .int)) (l0 : Nat) (l1 : Int) (l2 : Int) (l3 : Int) (h1 : inI l1) (h2 : inI l2) (h3 : inI l3) : hSim C (some .int) 0 0 4 94 [(0, vR C.1.1 l0), (1, vI l1), (2, vI l2), (3, vI l3)] [] 0 0 (m_X6_number_L94 l0 l1 l2 l3) := by
  obtain ⟨⟨hf, hlo⟩, ⟨hc1, hc2⟩, hf1, hl1⟩ := K_room K (by omega)
  have hcs : 0 ≤ C.2.2.2.2.1.cells ∧ 0 ≤ C.2.2.2.2.1.slots := ⟨Nat.zero_le _, Nat.zero_le _⟩
  unfold m_X6_number_L94
  refine s_aload_n (j := 0) (pc2 := 95) X dX6_number_94 rfl rfl ?_
  refine s_getI (pc2 := 98) X dX6_number_95 rfl fl_RX6_19 rfl (fun v1 hv1 => ?_)
  refine s_aload_n (j := 0) (pc2 := 99) X dX6_number_98 rfl rfl ?_
  refine s_getI (pc2 := 102) X dX6_number_99 rfl fl_RX6_22 rfl (fun v2 hv2 => ?_)
  refine s_icne (tgt := 117) X dX6_number_102 (by decide) rfl hv1 hv2 ?_ ?_
  · refine s_aload_n (j := 0) (pc2 := 118) X dX6_number_117 rfl rfl ?_
    refine s_getI (pc2 := 121) X dX6_number_118 rfl fl_RX6_19 rfl (fun v3 hv3 => ?_)
    refine s_aload_n (j := 0) (pc2 := 122) X dX6_number_121 rfl rfl ?_
    refine s_getI (pc2 := 125) X dX6_number_122 rfl fl_RX6_22 rfl (fun v4 hv4 => ?_)
    refine s_isub (pc2 := 126) X dX6_number_125 rfl ?_
    refine s_iconst (n := 5) (pc2 := 127) X dX6_number_126 rfl ?_
    refine s_icgt (tgt := 140) X dX6_number_127 (by decide) rfl (w32_in _) (inI_c 5 rfl) ?_ ?_
    · refine s_sub (lv2 := [(0, vR C.1.1 l0), (3, vI l3)]) [0, 3] rfl ?_
      exact z_X6_number_L140 d hd K X l0 l3 h3
    · refine s_iload_n (j := 3) (pc2 := 131) X dX6_number_130 rfl rfl ?_
      refine s_iload_n (j := 1) (pc2 := 132) X dX6_number_131 rfl rfl ?_
      refine s_iclt (tgt := 140) X dX6_number_132 (by decide) rfl h3 h1 ?_ ?_
      · refine s_sub (lv2 := [(0, vR C.1.1 l0), (3, vI l3)]) [0, 3] rfl ?_
        exact z_X6_number_L140 d hd K X l0 l3 h3
      · refine s_iload_n (j := 3) (pc2 := 136) X dX6_number_135 rfl rfl ?_
        refine s_iload_n (j := 2) (pc2 := 137) X dX6_number_136 rfl rfl ?_
        refine s_icle (tgt := 149) X dX6_number_137 (by decide) rfl h3 h2 ?_ ?_
        · refine s_sub (lv2 := [(3, vI l3)]) [3] rfl ?_
          exact z_X6_number_L149 d hd K X l3 h3
        · refine s_sub (lv2 := [(0, vR C.1.1 l0), (3, vI l3)]) [0, 3] rfl ?_
          exact z_X6_number_L140 d hd K X l0 l3 h3
  · refine s_aload_n (j := 0) (pc2 := 106) X dX6_number_105 rfl rfl ?_
    refine s_aload_n (j := 0) (pc2 := 107) X dX6_number_106 rfl rfl ?_
    refine s_getI (pc2 := 110) X dX6_number_107 rfl fl_RX6_22 rfl (fun v5 hv5 => ?_)
    refine s_iconst (n := 0) (pc2 := 111) X dX6_number_110 rfl ?_
    refine s_callVV (d2 := d - 1) (As := [vI v5, vI 0]) (st := []) (pc2 := 114) X dX6_number_111 rfl ml_RX6_51 im_X6_fail se_X6_fail kX6 rfl (c_X6_fail (d - 1) (by omega) C.1 C.2.2.1 l0 v5 0 hv5 (inI_c 0 rfl)) hy_X6_fail rfl rfl hf hlo (st_room (Nat.le_of_ble_eq_true rfl)) hcs (fun _ => ?_)
    refine s_goto (pc2 := 149) X dX6_number_114 (by decide) ?_
    refine s_sub (lv2 := [(3, vI l3)]) [3] rfl ?_
    exact z_X6_number_L149 d hd K X l3 h3
set_option maxRecDepth 4000 in
theorem z_X6_number_L81 (d : Nat) (hd : 2 ≤ d) {C : hCx} (K : hCtx C.1 C.2.2.1 d 0 0 "number" C) (X : hOK C cX6_number RX6 4 (some .int)) (k24 : Nat → Int → Int → Int → hM) (hk24 : ∀ (l0 : Nat) (l1 : Int) (l2 : Int) (l3 : Int), inI l1 → inI l2 → inI l3 → hSim C (some .int) 0 0 4 24 [(0, vR C.1.1 l0), (1, vI l1), (2, vI l2), (3, vI l3)] [] 0 0 (k24 l0 l1 l2 l3)) (l0 : Nat) (l1 : Int) (l2 : Int) (l3 : Int) (h1 : inI l1) (h2 : inI l2) (h3 : inI l3) : hSim C (some .int) 0 0 4 81 [(0, vR C.1.1 l0), (1, vI l1), (2, vI l2), (3, vI l3)] [] 0 0 (m_X6_number_L81 k24 l0 l1 l2 l3) := by
  obtain ⟨⟨hf, hlo⟩, ⟨hc1, hc2⟩, hf1, hl1⟩ := K_room K (by omega)
  have hcs : 0 ≤ C.2.2.2.2.1.cells ∧ 0 ≤ C.2.2.2.2.1.slots := ⟨Nat.zero_le _, Nat.zero_le _⟩
  unfold m_X6_number_L81
  refine s_aload_n (j := 0) (pc2 := 82) X dX6_number_81 rfl rfl ?_
  refine s_dup (pc2 := 83) X dX6_number_82 rfl (vR_cat _ _) ?_
  refine s_getI (pc2 := 86) X dX6_number_83 rfl fl_RX6_19 rfl (fun v1 hv1 => ?_)
  refine s_iconst (n := 1) (pc2 := 87) X dX6_number_86 rfl ?_
  refine s_iadd (pc2 := 88) X dX6_number_87 rfl ?_
  refine s_putI (pc2 := 91) X dX6_number_88 rfl fl_RX6_19 (Or.inl rfl) rfl (w32_in _) ?_
  refine s_goto (pc2 := 24) X dX6_number_91 (by decide) ?_
  exact hk24 l0 l1 l2 l3 h1 h2 h3
set_option maxRecDepth 4000 in
theorem z_X6_number_L24 (d : Nat) (hd : 2 ≤ d) {C : hCx} (K : hCtx C.1 C.2.2.1 d 0 0 "number" C) (X : hOK C cX6_number RX6 4 (some .int)) : ∀ (n : Nat) (l0 : Nat) (l1 : Int) (l2 : Int) (l3 : Int) (h1 : inI l1) (h2 : inI l2) (h3 : inI l3), hSim C (some .int) 0 0 4 24 [(0, vR C.1.1 l0), (1, vI l1), (2, vI l2), (3, vI l3)] [] 0 0 (m_X6_number_L24 n l0 l1 l2 l3) := by
  obtain ⟨⟨hf, hlo⟩, ⟨hc1, hc2⟩, hf1, hl1⟩ := K_room K (by omega)
  have hcs : 0 ≤ C.2.2.2.2.1.cells ∧ 0 ≤ C.2.2.2.2.1.slots := ⟨Nat.zero_le _, Nat.zero_le _⟩
  intro n
  induction n with
  | zero => intros; exact s_none (fun _ => rfl)
  | succ n ih =>
    intro l0 l1 l2 l3 h1 h2 h3
    unfold m_X6_number_L24
    refine s_aload_n (j := 0) (pc2 := 25) X dX6_number_24 rfl rfl ?_
    refine s_getI (pc2 := 28) X dX6_number_25 rfl fl_RX6_19 rfl (fun v1 hv1 => ?_)
    refine s_aload_n (j := 0) (pc2 := 29) X dX6_number_28 rfl rfl ?_
    refine s_getI (pc2 := 32) X dX6_number_29 rfl fl_RX6_15 rfl (fun v2 hv2 => ?_)
    refine s_icge (tgt := 94) X dX6_number_32 (by decide) rfl hv1 hv2 ?_ ?_
    · exact z_X6_number_L94 d hd K X l0 l1 l2 l3 h1 h2 h3
    · refine s_aload_n (j := 0) (pc2 := 36) X dX6_number_35 rfl rfl ?_
      refine s_getR (pc2 := 39) X dX6_number_36 rfl fl_RX6_11 rfl (fun v3 => ?_)
      refine s_aload_n (j := 0) (pc2 := 40) X dX6_number_39 rfl rfl ?_
      refine s_getI (pc2 := 43) X dX6_number_40 rfl fl_RX6_19 rfl (fun v4 hv4 => ?_)
      refine s_bald (pc2 := 44) X dX6_number_43 rfl (fun v5 hv5 => ?_)
      refine s_callSZ (d2 := d - 1) (As := [vI v5]) (st := []) (pc2 := 47) X dX6_number_44 rfl ml_RX6_55 sm_X6_isDigit (c_X6_isDigit (d - 1) (by omega) C.1 C.2.2.1 v5 hv5) hy_X6_isDigit rfl rfl hf hlo (st_room (Nat.le_of_ble_eq_true rfl)) hcs (fun v6 hv6 => ?_)
      refine s_ifeq (tgt := 94) X dX6_number_47 (by decide) rfl hv6 ?_ ?_
      · exact z_X6_number_L94 d hd K X l0 l1 l2 l3 h1 h2 h3
      · refine s_aload_n (j := 0) (pc2 := 51) X dX6_number_50 rfl rfl ?_
        refine s_getI (pc2 := 54) X dX6_number_51 rfl fl_RX6_19 rfl (fun v7 hv7 => ?_)
        refine s_aload_n (j := 0) (pc2 := 55) X dX6_number_54 rfl rfl ?_
        refine s_getI (pc2 := 58) X dX6_number_55 rfl fl_RX6_22 rfl (fun v8 hv8 => ?_)
        refine s_isub (pc2 := 59) X dX6_number_58 rfl ?_
        refine s_iconst (n := 5) (pc2 := 60) X dX6_number_59 rfl ?_
        refine s_icge (tgt := 81) X dX6_number_60 (by decide) rfl (w32_in _) (inI_c 5 rfl) ?_ ?_
        · exact z_X6_number_L81 d hd K X (m_X6_number_L24 n) ih l0 l1 l2 l3 h1 h2 h3
        · refine s_iload_n (j := 3) (pc2 := 64) X dX6_number_63 rfl rfl ?_
          refine s_bipush (n := 10) (pc2 := 66) X dX6_number_64 rfl rfl ?_
          refine s_imul (pc2 := 67) X dX6_number_66 rfl ?_
          refine s_aload_n (j := 0) (pc2 := 68) X dX6_number_67 rfl rfl ?_
          refine s_getR (pc2 := 71) X dX6_number_68 rfl fl_RX6_11 rfl (fun v9 => ?_)
          refine s_aload_n (j := 0) (pc2 := 72) X dX6_number_71 rfl rfl ?_
          refine s_getI (pc2 := 75) X dX6_number_72 rfl fl_RX6_19 rfl (fun v10 hv10 => ?_)
          refine s_bald (pc2 := 76) X dX6_number_75 rfl (fun v11 hv11 => ?_)
          refine s_iadd (pc2 := 77) X dX6_number_76 rfl ?_
          refine s_bipush (n := 48) (pc2 := 79) X dX6_number_77 rfl rfl ?_
          refine s_isub (pc2 := 80) X dX6_number_79 rfl ?_
          refine s_istore_n (pc2 := 81) X dX6_number_80 rfl (by decide) rfl rfl cat1_I (w32_in _) (fun w12 hw12 => ?_)
          refine s_sub (lv2 := [(0, vR C.1.1 l0), (1, vI l1), (2, vI l2), (3, vI w12)]) [1, 2, 3, 0] rfl ?_
          exact z_X6_number_L81 d hd K X (m_X6_number_L24 n) ih l0 l1 l2 w12 h1 h2 hw12
set_option maxRecDepth 4000 in
set_option maxHeartbeats 20000000 in
theorem z_X6_number (d : Nat) (hd : 2 ≤ d) {C : hCx} (K : hCtx C.1 C.2.2.1 d 0 0 "number" C) (X : hOK C cX6_number RX6 4 (some .int)) (l0 : Nat) (l1 : Int) (l2 : Int) (h1 : inI l1) (h2 : inI l2) : hSim C (some .int) 0 0 4 0 [(0, vR C.1.1 l0), (1, vI l1), (2, vI l2)] [] 0 0 (m_X6_number l0 l1 l2) := by
  obtain ⟨⟨hf, hlo⟩, ⟨hc1, hc2⟩, hf1, hl1⟩ := K_room K (by omega)
  have hcs : 0 ≤ C.2.2.2.2.1.cells ∧ 0 ≤ C.2.2.2.2.1.slots := ⟨Nat.zero_le _, Nat.zero_le _⟩
  unfold m_X6_number
  refine s_aload_n (j := 0) (pc2 := 1) X dX6_number_0 rfl rfl ?_
  refine s_getI (pc2 := 4) X dX6_number_1 rfl fl_RX6_25 rfl (fun v1 hv1 => ?_)
  refine s_ifeq (tgt := 9) X dX6_number_4 (by decide) rfl hv1 ?_ ?_
  · refine s_aload_n (j := 0) (pc2 := 10) X dX6_number_9 rfl rfl ?_
    refine s_callVI (d2 := d - 1) (As := []) (st := []) (pc2 := 13) X dX6_number_10 rfl ml_RX6_28 im_X6_next se_X6_next kX6 rfl (c_X6_next (d - 1) (by omega) C.1 C.2.2.1 l0) hy_X6_next rfl rfl hf hlo (st_room (Nat.le_of_ble_eq_true rfl)) hcs (fun v2 hv2 => ?_)
    refine s_pop (pc2 := 14) X dX6_number_13 rfl rfl ?_
    refine s_aload_n (j := 0) (pc2 := 15) X dX6_number_14 rfl rfl ?_
    refine s_aload_n (j := 0) (pc2 := 16) X dX6_number_15 rfl rfl ?_
    refine s_getI (pc2 := 19) X dX6_number_16 rfl fl_RX6_19 rfl (fun v3 hv3 => ?_)
    refine s_putI (pc2 := 22) X dX6_number_19 rfl fl_RX6_22 (Or.inl rfl) rfl hv3 ?_
    refine s_iconst (n := 0) (pc2 := 23) X dX6_number_22 rfl ?_
    refine s_istore_n (pc2 := 24) X dX6_number_23 rfl (by decide) rfl rfl cat1_I (inI_c 0 rfl) (fun w4 hw4 => ?_)
    refine s_sub (lv2 := [(0, vR C.1.1 l0), (1, vI l1), (2, vI l2), (3, vI w4)]) [1, 2, 3, 0] rfl ?_
    exact z_X6_number_L24 d hd K X 1000000000 l0 l1 l2 w4 h1 h2 hw4
  · refine s_iload_n (j := 1) (pc2 := 8) X dX6_number_7 rfl rfl ?_
    exact s_iret X dX6_number_8 h1
theorem c_X6_number (d : Nat) (hd : 2 ≤ d) (G : hG) (l : Launch) (l0 : Nat) (l1 : Int) (l2 : Int) (h1 : inI l1) (h2 : inI l2) : hMet G l yX6_number cX6_number 4 (some .int) d 0 0 [vR G.1 l0, vI l1, vI l2] (m_X6_number l0 l1 l2) := by
  refine hMet.of (lv := [(0, vR G.1 l0), (1, vI l1), (2, vI l2)]) (by decide +kernel) (by simp [lg_sl, vR_cat, vI_cat, vL_cat, vS_cat2, vT_cat2]) (by simp [lv_args, vR_cat, vI_cat, vL_cat, vS_cat2, vT_cat2]) (fun C K X => ?_)
  obtain ⟨rfl, rfl, K⟩ := K
  exact z_X6_number d hd ⟨rfl, rfl, K⟩ X l0 l1 l2 h1 h2
def m_X6_takeNextClause_L46 : hM :=
  hretZ 0
def m_X6_takeNextClause (l0 : Nat) : hM :=
  hgI 6 l0 4 fun v1 =>
  hif (v1 = 0) (
hcallV 6 l0 (m_X6_next l0) fun v2 =>
  hlet v2 fun (w3 : Int) =>
  hif (w3 ≠ 59) (
hif (w3 = ((-1))) (
m_X6_takeNextClause_L46) (
hgI 6 l0 2 fun v4 =>
  hcallV 6 l0 (m_X6_fail l0 v4 0) fun _ =>
  m_X6_takeNextClause_L46)) (
hgI 6 l0 2 fun v5 =>
  hpI 6 l0 2 ((w32 (v5 + 1))) <|
  hretZ 1)) (
hretZ 0)
set_option maxRecDepth 4000 in
theorem z_X6_takeNextClause_L46 (d : Nat) (hd : 2 ≤ d) {C : hCx} (K : hCtx C.1 C.2.2.1 d 0 0 "takeNextClause" C) (X : hOK C cX6_takeNextClause RX6 2 (some .boolean)) : hSim C (some .boolean) 0 0 2 46 [] [] 0 0 (m_X6_takeNextClause_L46) := by
  obtain ⟨⟨hf, hlo⟩, ⟨hc1, hc2⟩, hf1, hl1⟩ := K_room K (by omega)
  have hcs : 0 ≤ C.2.2.2.2.1.cells ∧ 0 ≤ C.2.2.2.2.1.slots := ⟨Nat.zero_le _, Nat.zero_le _⟩
  unfold m_X6_takeNextClause_L46
  refine s_iconst (n := 0) (pc2 := 47) X dX6_takeNextClause_46 rfl ?_
  exact s_zret X dX6_takeNextClause_47
set_option maxRecDepth 4000 in
set_option maxHeartbeats 20000000 in
theorem z_X6_takeNextClause (d : Nat) (hd : 2 ≤ d) {C : hCx} (K : hCtx C.1 C.2.2.1 d 0 0 "takeNextClause" C) (X : hOK C cX6_takeNextClause RX6 2 (some .boolean)) (l0 : Nat) : hSim C (some .boolean) 0 0 2 0 [(0, vR C.1.1 l0)] [] 0 0 (m_X6_takeNextClause l0) := by
  obtain ⟨⟨hf, hlo⟩, ⟨hc1, hc2⟩, hf1, hl1⟩ := K_room K (by omega)
  have hcs : 0 ≤ C.2.2.2.2.1.cells ∧ 0 ≤ C.2.2.2.2.1.slots := ⟨Nat.zero_le _, Nat.zero_le _⟩
  unfold m_X6_takeNextClause
  refine s_aload_n (j := 0) (pc2 := 1) X dX6_takeNextClause_0 rfl rfl ?_
  refine s_getI (pc2 := 4) X dX6_takeNextClause_1 rfl fl_RX6_25 rfl (fun v1 hv1 => ?_)
  refine s_ifeq (tgt := 9) X dX6_takeNextClause_4 (by decide) rfl hv1 ?_ ?_
  · refine s_aload_n (j := 0) (pc2 := 10) X dX6_takeNextClause_9 rfl rfl ?_
    refine s_callVI (d2 := d - 1) (As := []) (st := []) (pc2 := 13) X dX6_takeNextClause_10 rfl ml_RX6_28 im_X6_next se_X6_next kX6 rfl (c_X6_next (d - 1) (by omega) C.1 C.2.2.1 l0) hy_X6_next rfl rfl hf hlo (st_room (Nat.le_of_ble_eq_true rfl)) hcs (fun v2 hv2 => ?_)
    refine s_istore_n (pc2 := 14) X dX6_takeNextClause_13 rfl (by decide) rfl rfl cat1_R hv2 (fun w3 hw3 => ?_)
    refine s_iload_n (j := 0) (pc2 := 15) X dX6_takeNextClause_14 rfl rfl ?_
    refine s_bipush (n := 59) (pc2 := 17) X dX6_takeNextClause_15 rfl rfl ?_
    refine s_icne (tgt := 32) X dX6_takeNextClause_17 (by decide) rfl hw3 (inI_c 59 rfl) ?_ ?_
    · refine s_iload_n (j := 0) (pc2 := 33) X dX6_takeNextClause_32 rfl rfl ?_
      refine s_iconst (n := (-1)) (pc2 := 34) X dX6_takeNextClause_33 rfl ?_
      refine s_iceq (tgt := 46) X dX6_takeNextClause_34 (by decide) rfl hw3 (inI_c (-1) rfl) ?_ ?_
      · refine s_sub (lv2 := []) [] rfl ?_
        exact z_X6_takeNextClause_L46 d hd K X
      · refine s_aload_n (j := 1) (pc2 := 38) X dX6_takeNextClause_37 rfl rfl ?_
        refine s_aload_n (j := 1) (pc2 := 39) X dX6_takeNextClause_38 rfl rfl ?_
        refine s_getI (pc2 := 42) X dX6_takeNextClause_39 rfl fl_RX6_19 rfl (fun v4 hv4 => ?_)
        refine s_iconst (n := 0) (pc2 := 43) X dX6_takeNextClause_42 rfl ?_
        refine s_callVV (d2 := d - 1) (As := [vI v4, vI 0]) (st := []) (pc2 := 46) X dX6_takeNextClause_43 rfl ml_RX6_51 im_X6_fail se_X6_fail kX6 rfl (c_X6_fail (d - 1) (by omega) C.1 C.2.2.1 l0 v4 0 hv4 (inI_c 0 rfl)) hy_X6_fail rfl rfl hf hlo (st_room (Nat.le_of_ble_eq_true rfl)) hcs (fun _ => ?_)
        refine s_sub (lv2 := []) [] rfl ?_
        exact z_X6_takeNextClause_L46 d hd K X
    · refine s_aload_n (j := 1) (pc2 := 21) X dX6_takeNextClause_20 rfl rfl ?_
      refine s_dup (pc2 := 22) X dX6_takeNextClause_21 rfl (vR_cat _ _) ?_
      refine s_getI (pc2 := 25) X dX6_takeNextClause_22 rfl fl_RX6_19 rfl (fun v5 hv5 => ?_)
      refine s_iconst (n := 1) (pc2 := 26) X dX6_takeNextClause_25 rfl ?_
      refine s_iadd (pc2 := 27) X dX6_takeNextClause_26 rfl ?_
      refine s_putI (pc2 := 30) X dX6_takeNextClause_27 rfl fl_RX6_19 (Or.inl rfl) rfl (w32_in _) ?_
      refine s_iconst (n := 1) (pc2 := 31) X dX6_takeNextClause_30 rfl ?_
      exact s_zret X dX6_takeNextClause_31
  · refine s_iconst (n := 0) (pc2 := 8) X dX6_takeNextClause_7 rfl ?_
    exact s_zret X dX6_takeNextClause_8
theorem c_X6_takeNextClause (d : Nat) (hd : 2 ≤ d) (G : hG) (l : Launch) (l0 : Nat) : hMet G l yX6_takeNextClause cX6_takeNextClause 2 (some .boolean) d 0 0 [vR G.1 l0] (m_X6_takeNextClause l0) := by
  refine hMet.of (lv := [(0, vR G.1 l0)]) (by decide +kernel) (by simp [lg_sl, vR_cat, vI_cat, vL_cat, vS_cat2, vT_cat2]) (by simp [lv_args, vR_cat, vI_cat, vL_cat, vS_cat2, vT_cat2]) (fun C K X => ?_)
  obtain ⟨rfl, rfl, K⟩ := K
  exact z_X6_takeNextClause d hd ⟨rfl, rfl, K⟩ X l0
