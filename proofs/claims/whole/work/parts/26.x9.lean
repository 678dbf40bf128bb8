def m_X9_init_c33 (l0 : Nat) (l1 : Nat) : hM :=
  hret 0
def m_X9_init_c32 (l0 : Nat) (l1 : Nat) : hM :=
  hgR 9 l0 8 fun v76 =>
  hnew 0 fun v77 =>
  hassert (0 < v77) <|
  hcall (m_X0_init v77 l1) fun _ =>
  hsR 26 v76 3 0 v77 <|
  m_X9_init_c33 l0 l1
def m_X9_init_c31 (l0 : Nat) (l1 : Nat) : hM :=
  hgR 9 l0 8 fun v74 =>
  hnew 0 fun v75 =>
  hassert (0 < v75) <|
  hcall (m_X0_init v75 l1) fun _ =>
  hsR 26 v74 2 0 v75 <|
  m_X9_init_c32 l0 l1
def m_X9_init_c30 (l0 : Nat) (l1 : Nat) : hM :=
  hgR 9 l0 8 fun v72 =>
  hnew 0 fun v73 =>
  hassert (0 < v73) <|
  hcall (m_X0_init v73 l1) fun _ =>
  hsR 26 v72 1 0 v73 <|
  m_X9_init_c31 l0 l1
def m_X9_init_c29 (l0 : Nat) (l1 : Nat) : hM :=
  hgR 9 l0 8 fun v70 =>
  hnew 0 fun v71 =>
  hassert (0 < v71) <|
  hcall (m_X0_init v71 l1) fun _ =>
  hsR 26 v70 0 0 v71 <|
  m_X9_init_c30 l0 l1
def m_X9_init_c28 (l0 : Nat) (l1 : Nat) : hM :=
  m_X9_init_c29 l0 l1
def m_X9_init_c27 (l0 : Nat) (l1 : Nat) : hM :=
  hgR 9 l0 5 fun v68 =>
  hnew 4 fun v69 =>
  hassert (0 < v69) <|
  hcall (m_X4_init v69 l1) fun _ =>
  hsR 25 v68 19 4 v69 <|
  m_X9_init_c28 l0 l1
def m_X9_init_c26 (l0 : Nat) (l1 : Nat) : hM :=
  hgR 9 l0 5 fun v66 =>
  hnew 4 fun v67 =>
  hassert (0 < v67) <|
  hcall (m_X4_init v67 l1) fun _ =>
  hsR 25 v66 18 4 v67 <|
  m_X9_init_c27 l0 l1
def m_X9_init_c25 (l0 : Nat) (l1 : Nat) : hM :=
  hgR 9 l0 5 fun v64 =>
  hnew 4 fun v65 =>
  hassert (0 < v65) <|
  hcall (m_X4_init v65 l1) fun _ =>
  hsR 25 v64 17 4 v65 <|
  m_X9_init_c26 l0 l1
def m_X9_init_c24 (l0 : Nat) (l1 : Nat) : hM :=
  hgR 9 l0 5 fun v62 =>
  hnew 4 fun v63 =>
  hassert (0 < v63) <|
  hcall (m_X4_init v63 l1) fun _ =>
  hsR 25 v62 16 4 v63 <|
  m_X9_init_c25 l0 l1
def m_X9_init_c23 (l0 : Nat) (l1 : Nat) : hM :=
  hgR 9 l0 5 fun v60 =>
  hnew 4 fun v61 =>
  hassert (0 < v61) <|
  hcall (m_X4_init v61 l1) fun _ =>
  hsR 25 v60 15 4 v61 <|
  m_X9_init_c24 l0 l1
def m_X9_init_c22 (l0 : Nat) (l1 : Nat) : hM :=
  hgR 9 l0 5 fun v58 =>
  hnew 4 fun v59 =>
  hassert (0 < v59) <|
  hcall (m_X4_init v59 l1) fun _ =>
  hsR 25 v58 14 4 v59 <|
  m_X9_init_c23 l0 l1
def m_X9_init_c21 (l0 : Nat) (l1 : Nat) : hM :=
  hgR 9 l0 5 fun v56 =>
  hnew 4 fun v57 =>
  hassert (0 < v57) <|
  hcall (m_X4_init v57 l1) fun _ =>
  hsR 25 v56 13 4 v57 <|
  m_X9_init_c22 l0 l1
def m_X9_init_c20 (l0 : Nat) (l1 : Nat) : hM :=
  hgR 9 l0 5 fun v54 =>
  hnew 4 fun v55 =>
  hassert (0 < v55) <|
  hcall (m_X4_init v55 l1) fun _ =>
  hsR 25 v54 12 4 v55 <|
  m_X9_init_c21 l0 l1
def m_X9_init_c19 (l0 : Nat) (l1 : Nat) : hM :=
  hgR 9 l0 5 fun v52 =>
  hnew 4 fun v53 =>
  hassert (0 < v53) <|
  hcall (m_X4_init v53 l1) fun _ =>
  hsR 25 v52 11 4 v53 <|
  m_X9_init_c20 l0 l1
def m_X9_init_c18 (l0 : Nat) (l1 : Nat) : hM :=
  hgR 9 l0 5 fun v50 =>
  hnew 4 fun v51 =>
  hassert (0 < v51) <|
  hcall (m_X4_init v51 l1) fun _ =>
  hsR 25 v50 10 4 v51 <|
  m_X9_init_c19 l0 l1
def m_X9_init_c17 (l0 : Nat) (l1 : Nat) : hM :=
  hgR 9 l0 5 fun v48 =>
  hnew 4 fun v49 =>
  hassert (0 < v49) <|
  hcall (m_X4_init v49 l1) fun _ =>
  hsR 25 v48 9 4 v49 <|
  m_X9_init_c18 l0 l1
def m_X9_init_c16 (l0 : Nat) (l1 : Nat) : hM :=
  hgR 9 l0 5 fun v46 =>
  hnew 4 fun v47 =>
  hassert (0 < v47) <|
  hcall (m_X4_init v47 l1) fun _ =>
  hsR 25 v46 8 4 v47 <|
  m_X9_init_c17 l0 l1
def m_X9_init_c15 (l0 : Nat) (l1 : Nat) : hM :=
  hgR 9 l0 5 fun v44 =>
  hnew 4 fun v45 =>
  hassert (0 < v45) <|
  hcall (m_X4_init v45 l1) fun _ =>
  hsR 25 v44 7 4 v45 <|
  m_X9_init_c16 l0 l1
def m_X9_init_c14 (l0 : Nat) (l1 : Nat) : hM :=
  hgR 9 l0 5 fun v42 =>
  hnew 4 fun v43 =>
  hassert (0 < v43) <|
  hcall (m_X4_init v43 l1) fun _ =>
  hsR 25 v42 6 4 v43 <|
  m_X9_init_c15 l0 l1
def m_X9_init_c13 (l0 : Nat) (l1 : Nat) : hM :=
  hgR 9 l0 5 fun v40 =>
  hnew 4 fun v41 =>
  hassert (0 < v41) <|
  hcall (m_X4_init v41 l1) fun _ =>
  hsR 25 v40 5 4 v41 <|
  m_X9_init_c14 l0 l1
def m_X9_init_c12 (l0 : Nat) (l1 : Nat) : hM :=
  hgR 9 l0 5 fun v38 =>
  hnew 4 fun v39 =>
  hassert (0 < v39) <|
  hcall (m_X4_init v39 l1) fun _ =>
  hsR 25 v38 4 4 v39 <|
  m_X9_init_c13 l0 l1
def m_X9_init_c11 (l0 : Nat) (l1 : Nat) : hM :=
  hgR 9 l0 5 fun v36 =>
  hnew 4 fun v37 =>
  hassert (0 < v37) <|
  hcall (m_X4_init v37 l1) fun _ =>
  hsR 25 v36 3 4 v37 <|
  m_X9_init_c12 l0 l1
def m_X9_init_c10 (l0 : Nat) (l1 : Nat) : hM :=
  hgR 9 l0 5 fun v34 =>
  hnew 4 fun v35 =>
  hassert (0 < v35) <|
  hcall (m_X4_init v35 l1) fun _ =>
  hsR 25 v34 2 4 v35 <|
  m_X9_init_c11 l0 l1
def m_X9_init_c9 (l0 : Nat) (l1 : Nat) : hM :=
  hgR 9 l0 5 fun v32 =>
  hnew 4 fun v33 =>
  hassert (0 < v33) <|
  hcall (m_X4_init v33 l1) fun _ =>
  hsR 25 v32 1 4 v33 <|
  m_X9_init_c10 l0 l1
def m_X9_init_c8 (l0 : Nat) (l1 : Nat) : hM :=
  hgR 9 l0 5 fun v30 =>
  hnew 4 fun v31 =>
  hassert (0 < v31) <|
  hcall (m_X4_init v31 l1) fun _ =>
  hsR 25 v30 0 4 v31 <|
  m_X9_init_c9 l0 l1
def m_X9_init_c7 (l0 : Nat) (l1 : Nat) : hM :=
  m_X9_init_c8 l0 l1
def m_X9_init_c6 (l0 : Nat) (l1 : Nat) : hM :=
  hgR 9 l0 1 fun v28 =>
  hnew 3 fun v29 =>
  hassert (0 < v29) <|
  hcall (m_X3_init v29) fun _ =>
  hsR 24 v28 5 3 v29 <|
  m_X9_init_c7 l0 l1
def m_X9_init_c5 (l0 : Nat) (l1 : Nat) : hM :=
  hgR 9 l0 1 fun v26 =>
  hnew 3 fun v27 =>
  hassert (0 < v27) <|
  hcall (m_X3_init v27) fun _ =>
  hsR 24 v26 4 3 v27 <|
  m_X9_init_c6 l0 l1
def m_X9_init_c4 (l0 : Nat) (l1 : Nat) : hM :=
  hgR 9 l0 1 fun v24 =>
  hnew 3 fun v25 =>
  hassert (0 < v25) <|
  hcall (m_X3_init v25) fun _ =>
  hsR 24 v24 3 3 v25 <|
  m_X9_init_c5 l0 l1
def m_X9_init_c3 (l0 : Nat) (l1 : Nat) : hM :=
  hgR 9 l0 1 fun v22 =>
  hnew 3 fun v23 =>
  hassert (0 < v23) <|
  hcall (m_X3_init v23) fun _ =>
  hsR 24 v22 2 3 v23 <|
  m_X9_init_c4 l0 l1
def m_X9_init_c2 (l0 : Nat) (l1 : Nat) : hM :=
  hgR 9 l0 1 fun v20 =>
  hnew 3 fun v21 =>
  hassert (0 < v21) <|
  hcall (m_X3_init v21) fun _ =>
  hsR 24 v20 1 3 v21 <|
  m_X9_init_c3 l0 l1
def m_X9_init_c1 (l0 : Nat) (l1 : Nat) : hM :=
  hgR 9 l0 1 fun v18 =>
  hnew 3 fun v19 =>
  hassert (0 < v19) <|
  hcall (m_X3_init v19) fun _ =>
  hsR 24 v18 0 3 v19 <|
  m_X9_init_c2 l0 l1
def m_X9_init (l0 : Nat) : hM :=
  hnew 6 fun v1 =>
  hassert (0 < v1) <|
  hcall (m_X6_init v1) fun _ =>
  hpR 9 l0 0 v1 <|
  hnewA 24 6 fun v2 =>
  hpR 9 l0 1 v2 <|
  hpI 9 l0 2 0 <|
  hnewA 25 20 fun v3 =>
  hpR 9 l0 5 v3 <|
  hpI 9 l0 6 0 <|
  hpI 9 l0 7 0 <|
  hnewA 26 4 fun v4 =>
  hpR 9 l0 8 v4 <|
  hpI 9 l0 9 0 <|
  hnewA 21 12 fun v5 =>
  hpR 9 l0 13 v5 <|
  hnewA 20 8 fun v6 =>
  hpR 9 l0 14 v6 <|
  hnewA 20 8 fun v7 =>
  hpR 9 l0 15 v7 <|
  hnewA 20 4 fun v8 =>
  hpR 9 l0 16 v8 <|
  hnewA 20 4 fun v9 =>
  hpR 9 l0 17 v9 <|
  hnew 7 fun v10 =>
  hassert (0 < v10) <|
  hcall (m_X7_init v10) fun _ =>
  hnew 4 fun v11 =>
  hassert (0 < v11) <|
  hcall (m_X4_init v11 v10) fun _ =>
  hpR 9 l0 3 v11 <|
  hnew 4 fun v12 =>
  hassert (0 < v12) <|
  hcall (m_X4_init v12 v10) fun _ =>
  hpR 9 l0 4 v12 <|
  hnew 2 fun v13 =>
  hassert (0 < v13) <|
  hcall (m_X2_init v13 v10) fun _ =>
  hpR 9 l0 10 v13 <|
  hnew 8 fun v14 =>
  hassert (0 < v14) <|
  hgR 7 v10 2 fun v15 =>
  hcall (m_X8_init v14 v15) fun _ =>
  hpR 9 l0 11 v14 <|
  hnew 5 fun v16 =>
  hassert (0 < v16) <|
  hgR 7 v10 2 fun v17 =>
  hcall (m_X5_init v16 v17) fun _ =>
  hpR 9 l0 12 v16 <|
  m_X9_init_c1 l0 v10
set_option maxRecDepth 4000 in
set_option maxHeartbeats 4000000 in
theorem z_X9_init_c33 (d : Nat) (hd : 4 ≤ d) {C : hCx} (K : hCtx C.1 C.2.2.1 d 218 9300 "<init>" C) (X : hOK C cX9_init RX9 3 none) (l0 : Nat) (l1 : Nat) (p0 : 0 < l0) : hSim C none 218 9300 3 230 [(0, vR C.1.1 l0), (1, vR C.1.1 l1), (2, vI 4)] [] 218 9300 (m_X9_init_c33 l0 l1) := by
  obtain ⟨⟨hf, hlo⟩, ⟨hc1, hc2⟩, hf1, hl1⟩ := K_room K (by omega)
  unfold m_X9_init_c33
  refine s_iload_n (j := 2) (pc2 := 231) X dX9_init_230 rfl rfl ?_
  refine s_iconst (n := 4) (pc2 := 232) X dX9_init_231 rfl ?_
  refine s_icgeT (tgt := 255) X dX9_init_232 (by decide) (inI_c 4 rfl) (inI_c 4 rfl) (by decide) ?_
  exact s_ret X dX9_init_255
set_option maxRecDepth 4000 in
set_option maxHeartbeats 4000000 in
theorem z_X9_init_c32 (d : Nat) (hd : 4 ≤ d) {C : hCx} (K : hCtx C.1 C.2.2.1 d 218 9300 "<init>" C) (X : hOK C cX9_init RX9 3 none) (l0 : Nat) (l1 : Nat) (p0 : 0 < l0) : hSim C none 218 9300 3 230 [(0, vR C.1.1 l0), (1, vR C.1.1 l1), (2, vI 3)] [] 212 9211 (m_X9_init_c32 l0 l1) := by
  obtain ⟨⟨hf, hlo⟩, ⟨hc1, hc2⟩, hf1, hl1⟩ := K_room K (by omega)
  unfold m_X9_init_c32
  refine s_iload_n (j := 2) (pc2 := 231) X dX9_init_230 rfl rfl ?_
  refine s_iconst (n := 4) (pc2 := 232) X dX9_init_231 rfl ?_
  refine s_icgeF (pc2 := 235) (tgt := 255) X dX9_init_232 (by decide) rfl (inI_c 3 rfl) (inI_c 4 rfl) (by decide) ?_
  refine s_aload_n (j := 0) (pc2 := 236) X dX9_init_235 rfl rfl ?_
  refine s_getR (pc2 := 239) X dX9_init_236 rfl fl_RX9_40 rfl (fun v76 => ?_)
  refine s_iload_n (j := 2) (pc2 := 240) X dX9_init_239 rfl rfl ?_
  refine s_new (pc2 := 243) X dX9_init_240 rfl kX0 cl_RX9_38 kdX0 (by rw [hc1]; exact Nat.le_of_ble_eq_true rfl) (by rw [hc2]; exact Nat.le_of_ble_eq_true rfl) (fun v77 => ?_)
  refine s_assert (fun pv77 => ?_)
  refine s_cs 213 9214 rfl rfl ?_
  refine s_dup (pc2 := 244) X dX9_init_243 rfl (vR_cat _ _) ?_
  refine s_aload_n (j := 1) (pc2 := 245) X dX9_init_244 rfl rfl ?_
  refine s_callI (d2 := d - 1) (mc2 := 5) (ms2 := 86) (As := [vR C.1.1 l1]) (st := [vR C.1.1 v77, vI 3, vR C.1.1 v76]) (pc2 := 248) X dX9_init_245 rfl ml_RX9_106 im_X0_init rfl (c_X0_init (d - 1) (by omega) C.1 C.2.2.1 v77 l1 pv77) hy_X0_init rfl rfl pv77 hf hlo (st_room (Nat.le_of_ble_eq_true rfl)) ⟨by rw [hc1]; exact Nat.le_of_ble_eq_true rfl, by rw [hc2]; exact Nat.le_of_ble_eq_true rfl⟩ (fun _ => ?_)
  refine s_cs 218 9300 rfl rfl ?_
  refine s_aast26 (pc2 := 249) X dX9_init_248 rfl ?_
  refine s_iincK (j := 2) (y := 4) (pc2 := 252) X dX9_init_249 rfl (by decide) rfl rfl rfl rfl cat1_R ?_
  refine s_goto (pc2 := 230) X dX9_init_252 (by decide) ?_
  refine s_sub (lv2 := [(0, vR C.1.1 l0), (1, vR C.1.1 l1), (2, vI 4)]) [1, 2, 0] rfl ?_
  exact z_X9_init_c33 d hd K X l0 l1 p0
set_option maxRecDepth 4000 in
set_option maxHeartbeats 4000000 in
theorem z_X9_init_c31 (d : Nat) (hd : 4 ≤ d) {C : hCx} (K : hCtx C.1 C.2.2.1 d 218 9300 "<init>" C) (X : hOK C cX9_init RX9 3 none) (l0 : Nat) (l1 : Nat) (p0 : 0 < l0) : hSim C none 218 9300 3 230 [(0, vR C.1.1 l0), (1, vR C.1.1 l1), (2, vI 2)] [] 206 9122 (m_X9_init_c31 l0 l1) := by
  obtain ⟨⟨hf, hlo⟩, ⟨hc1, hc2⟩, hf1, hl1⟩ := K_room K (by omega)
  unfold m_X9_init_c31
  refine s_iload_n (j := 2) (pc2 := 231) X dX9_init_230 rfl rfl ?_
  refine s_iconst (n := 4) (pc2 := 232) X dX9_init_231 rfl ?_
  refine s_icgeF (pc2 := 235) (tgt := 255) X dX9_init_232 (by decide) rfl (inI_c 2 rfl) (inI_c 4 rfl) (by decide) ?_
  refine s_aload_n (j := 0) (pc2 := 236) X dX9_init_235 rfl rfl ?_
  refine s_getR (pc2 := 239) X dX9_init_236 rfl fl_RX9_40 rfl (fun v74 => ?_)
  refine s_iload_n (j := 2) (pc2 := 240) X dX9_init_239 rfl rfl ?_
  refine s_new (pc2 := 243) X dX9_init_240 rfl kX0 cl_RX9_38 kdX0 (by rw [hc1]; exact Nat.le_of_ble_eq_true rfl) (by rw [hc2]; exact Nat.le_of_ble_eq_true rfl) (fun v75 => ?_)
  refine s_assert (fun pv75 => ?_)
  refine s_cs 207 9125 rfl rfl ?_
  refine s_dup (pc2 := 244) X dX9_init_243 rfl (vR_cat _ _) ?_
  refine s_aload_n (j := 1) (pc2 := 245) X dX9_init_244 rfl rfl ?_
  refine s_callI (d2 := d - 1) (mc2 := 5) (ms2 := 86) (As := [vR C.1.1 l1]) (st := [vR C.1.1 v75, vI 2, vR C.1.1 v74]) (pc2 := 248) X dX9_init_245 rfl ml_RX9_106 im_X0_init rfl (c_X0_init (d - 1) (by omega) C.1 C.2.2.1 v75 l1 pv75) hy_X0_init rfl rfl pv75 hf hlo (st_room (Nat.le_of_ble_eq_true rfl)) ⟨by rw [hc1]; exact Nat.le_of_ble_eq_true rfl, by rw [hc2]; exact Nat.le_of_ble_eq_true rfl⟩ (fun _ => ?_)
  refine s_cs 212 9211 rfl rfl ?_
  refine s_aast26 (pc2 := 249) X dX9_init_248 rfl ?_
  refine s_iincK (j := 2) (y := 3) (pc2 := 252) X dX9_init_249 rfl (by decide) rfl rfl rfl rfl cat1_R ?_
  refine s_goto (pc2 := 230) X dX9_init_252 (by decide) ?_
  refine s_sub (lv2 := [(0, vR C.1.1 l0), (1, vR C.1.1 l1), (2, vI 3)]) [1, 2, 0] rfl ?_
  exact z_X9_init_c32 d hd K X l0 l1 p0
set_option maxRecDepth 4000 in
set_option maxHeartbeats 4000000 in
theorem z_X9_init_c30 (d : Nat) (hd : 4 ≤ d) {C : hCx} (K : hCtx C.1 C.2.2.1 d 218 9300 "<init>" C) (X : hOK C cX9_init RX9 3 none) (l0 : Nat) (l1 : Nat) (p0 : 0 < l0) : hSim C none 218 9300 3 230 [(0, vR C.1.1 l0), (1, vR C.1.1 l1), (2, vI 1)] [] 200 9033 (m_X9_init_c30 l0 l1) := by
  obtain ⟨⟨hf, hlo⟩, ⟨hc1, hc2⟩, hf1, hl1⟩ := K_room K (by omega)
  unfold m_X9_init_c30
  refine s_iload_n (j := 2) (pc2 := 231) X dX9_init_230 rfl rfl ?_
  refine s_iconst (n := 4) (pc2 := 232) X dX9_init_231 rfl ?_
  refine s_icgeF (pc2 := 235) (tgt := 255) X dX9_init_232 (by decide) rfl (inI_c 1 rfl) (inI_c 4 rfl) (by decide) ?_
  refine s_aload_n (j := 0) (pc2 := 236) X dX9_init_235 rfl rfl ?_
  refine s_getR (pc2 := 239) X dX9_init_236 rfl fl_RX9_40 rfl (fun v72 => ?_)
  refine s_iload_n (j := 2) (pc2 := 240) X dX9_init_239 rfl rfl ?_
  refine s_new (pc2 := 243) X dX9_init_240 rfl kX0 cl_RX9_38 kdX0 (by rw [hc1]; exact Nat.le_of_ble_eq_true rfl) (by rw [hc2]; exact Nat.le_of_ble_eq_true rfl) (fun v73 => ?_)
  refine s_assert (fun pv73 => ?_)
  refine s_cs 201 9036 rfl rfl ?_
  refine s_dup (pc2 := 244) X dX9_init_243 rfl (vR_cat _ _) ?_
  refine s_aload_n (j := 1) (pc2 := 245) X dX9_init_244 rfl rfl ?_
  refine s_callI (d2 := d - 1) (mc2 := 5) (ms2 := 86) (As := [vR C.1.1 l1]) (st := [vR C.1.1 v73, vI 1, vR C.1.1 v72]) (pc2 := 248) X dX9_init_245 rfl ml_RX9_106 im_X0_init rfl (c_X0_init (d - 1) (by omega) C.1 C.2.2.1 v73 l1 pv73) hy_X0_init rfl rfl pv73 hf hlo (st_room (Nat.le_of_ble_eq_true rfl)) ⟨by rw [hc1]; exact Nat.le_of_ble_eq_true rfl, by rw [hc2]; exact Nat.le_of_ble_eq_true rfl⟩ (fun _ => ?_)
  refine s_cs 206 9122 rfl rfl ?_
  refine s_aast26 (pc2 := 249) X dX9_init_248 rfl ?_
  refine s_iincK (j := 2) (y := 2) (pc2 := 252) X dX9_init_249 rfl (by decide) rfl rfl rfl rfl cat1_R ?_
  refine s_goto (pc2 := 230) X dX9_init_252 (by decide) ?_
  refine s_sub (lv2 := [(0, vR C.1.1 l0), (1, vR C.1.1 l1), (2, vI 2)]) [1, 2, 0] rfl ?_
  exact z_X9_init_c31 d hd K X l0 l1 p0
set_option maxRecDepth 4000 in
set_option maxHeartbeats 4000000 in
theorem z_X9_init_c29 (d : Nat) (hd : 4 ≤ d) {C : hCx} (K : hCtx C.1 C.2.2.1 d 218 9300 "<init>" C) (X : hOK C cX9_init RX9 3 none) (l0 : Nat) (l1 : Nat) (p0 : 0 < l0) : hSim C none 218 9300 3 230 [(0, vR C.1.1 l0), (1, vR C.1.1 l1), (2, vI 0)] [] 194 8944 (m_X9_init_c29 l0 l1) := by
  obtain ⟨⟨hf, hlo⟩, ⟨hc1, hc2⟩, hf1, hl1⟩ := K_room K (by omega)
  unfold m_X9_init_c29
  refine s_iload_n (j := 2) (pc2 := 231) X dX9_init_230 rfl rfl ?_
  refine s_iconst (n := 4) (pc2 := 232) X dX9_init_231 rfl ?_
  refine s_icgeF (pc2 := 235) (tgt := 255) X dX9_init_232 (by decide) rfl (inI_c 0 rfl) (inI_c 4 rfl) (by decide) ?_
  refine s_aload_n (j := 0) (pc2 := 236) X dX9_init_235 rfl rfl ?_
  refine s_getR (pc2 := 239) X dX9_init_236 rfl fl_RX9_40 rfl (fun v70 => ?_)
  refine s_iload_n (j := 2) (pc2 := 240) X dX9_init_239 rfl rfl ?_
  refine s_new (pc2 := 243) X dX9_init_240 rfl kX0 cl_RX9_38 kdX0 (by rw [hc1]; exact Nat.le_of_ble_eq_true rfl) (by rw [hc2]; exact Nat.le_of_ble_eq_true rfl) (fun v71 => ?_)
  refine s_assert (fun pv71 => ?_)
  refine s_cs 195 8947 rfl rfl ?_
  refine s_dup (pc2 := 244) X dX9_init_243 rfl (vR_cat _ _) ?_
  refine s_aload_n (j := 1) (pc2 := 245) X dX9_init_244 rfl rfl ?_
  refine s_callI (d2 := d - 1) (mc2 := 5) (ms2 := 86) (As := [vR C.1.1 l1]) (st := [vR C.1.1 v71, vI 0, vR C.1.1 v70]) (pc2 := 248) X dX9_init_245 rfl ml_RX9_106 im_X0_init rfl (c_X0_init (d - 1) (by omega) C.1 C.2.2.1 v71 l1 pv71) hy_X0_init rfl rfl pv71 hf hlo (st_room (Nat.le_of_ble_eq_true rfl)) ⟨by rw [hc1]; exact Nat.le_of_ble_eq_true rfl, by rw [hc2]; exact Nat.le_of_ble_eq_true rfl⟩ (fun _ => ?_)
  refine s_cs 200 9033 rfl rfl ?_
  refine s_aast26 (pc2 := 249) X dX9_init_248 rfl ?_
  refine s_iincK (j := 2) (y := 1) (pc2 := 252) X dX9_init_249 rfl (by decide) rfl rfl rfl rfl cat1_R ?_
  refine s_goto (pc2 := 230) X dX9_init_252 (by decide) ?_
  refine s_sub (lv2 := [(0, vR C.1.1 l0), (1, vR C.1.1 l1), (2, vI 1)]) [1, 2, 0] rfl ?_
  exact z_X9_init_c30 d hd K X l0 l1 p0
set_option maxRecDepth 4000 in
set_option maxHeartbeats 4000000 in
theorem z_X9_init_c28 (d : Nat) (hd : 4 ≤ d) {C : hCx} (K : hCtx C.1 C.2.2.1 d 218 9300 "<init>" C) (X : hOK C cX9_init RX9 3 none) (l0 : Nat) (l1 : Nat) (p0 : 0 < l0) : hSim C none 218 9300 3 202 [(0, vR C.1.1 l0), (1, vR C.1.1 l1), (2, vI 20)] [] 194 8944 (m_X9_init_c28 l0 l1) := by
  obtain ⟨⟨hf, hlo⟩, ⟨hc1, hc2⟩, hf1, hl1⟩ := K_room K (by omega)
  unfold m_X9_init_c28
  refine s_iload_n (j := 2) (pc2 := 203) X dX9_init_202 rfl rfl ?_
  refine s_bipush (n := 20) (pc2 := 205) X dX9_init_203 rfl rfl ?_
  refine s_icgeT (tgt := 228) X dX9_init_205 (by decide) (inI_c 20 rfl) (inI_c 20 rfl) (by decide) ?_
  refine s_iconst (n := 0) (pc2 := 229) X dX9_init_228 rfl ?_
  refine s_istoreK_n (pc2 := 230) X dX9_init_229 rfl (by decide) rfl rfl cat1_R ?_
  refine s_sub (lv2 := [(0, vR C.1.1 l0), (1, vR C.1.1 l1), (2, vI 0)]) [1, 2, 0] rfl ?_
  exact z_X9_init_c29 d hd K X l0 l1 p0
set_option maxRecDepth 4000 in
set_option maxHeartbeats 4000000 in
theorem z_X9_init_c27 (d : Nat) (hd : 4 ≤ d) {C : hCx} (K : hCtx C.1 C.2.2.1 d 218 9300 "<init>" C) (X : hOK C cX9_init RX9 3 none) (l0 : Nat) (l1 : Nat) (p0 : 0 < l0) : hSim C none 218 9300 3 202 [(0, vR C.1.1 l0), (1, vR C.1.1 l1), (2, vI 19)] [] 189 8858 (m_X9_init_c27 l0 l1) := by
  obtain ⟨⟨hf, hlo⟩, ⟨hc1, hc2⟩, hf1, hl1⟩ := K_room K (by omega)
  unfold m_X9_init_c27
  refine s_iload_n (j := 2) (pc2 := 203) X dX9_init_202 rfl rfl ?_
  refine s_bipush (n := 20) (pc2 := 205) X dX9_init_203 rfl rfl ?_
  refine s_icgeF (pc2 := 208) (tgt := 228) X dX9_init_205 (by decide) rfl (inI_c 19 rfl) (inI_c 20 rfl) (by decide) ?_
  refine s_aload_n (j := 0) (pc2 := 209) X dX9_init_208 rfl rfl ?_
  refine s_getR (pc2 := 212) X dX9_init_209 rfl fl_RX9_28 rfl (fun v68 => ?_)
  refine s_iload_n (j := 2) (pc2 := 213) X dX9_init_212 rfl rfl ?_
  refine s_new (pc2 := 216) X dX9_init_213 rfl kX4 cl_RX9_26 kdX4 (by rw [hc1]; exact Nat.le_of_ble_eq_true rfl) (by rw [hc2]; exact Nat.le_of_ble_eq_true rfl) (fun v69 => ?_)
  refine s_assert (fun pv69 => ?_)
  refine s_cs 190 8864 rfl rfl ?_
  refine s_dup (pc2 := 217) X dX9_init_216 rfl (vR_cat _ _) ?_
  refine s_aload_n (j := 1) (pc2 := 218) X dX9_init_217 rfl rfl ?_
  refine s_callI (d2 := d - 1) (mc2 := 4) (ms2 := 80) (As := [vR C.1.1 l1]) (st := [vR C.1.1 v69, vI 19, vR C.1.1 v68]) (pc2 := 221) X dX9_init_218 rfl ml_RX9_68 im_X4_init rfl (c_X4_init (d - 1) (by omega) C.1 C.2.2.1 v69 l1 pv69) hy_X4_init rfl rfl pv69 hf hlo (st_room (Nat.le_of_ble_eq_true rfl)) ⟨by rw [hc1]; exact Nat.le_of_ble_eq_true rfl, by rw [hc2]; exact Nat.le_of_ble_eq_true rfl⟩ (fun _ => ?_)
  refine s_cs 194 8944 rfl rfl ?_
  refine s_aast25 (pc2 := 222) X dX9_init_221 rfl ?_
  refine s_iincK (j := 2) (y := 20) (pc2 := 225) X dX9_init_222 rfl (by decide) rfl rfl rfl rfl cat1_R ?_
  refine s_goto (pc2 := 202) X dX9_init_225 (by decide) ?_
  refine s_sub (lv2 := [(0, vR C.1.1 l0), (1, vR C.1.1 l1), (2, vI 20)]) [1, 2, 0] rfl ?_
  exact z_X9_init_c28 d hd K X l0 l1 p0
set_option maxRecDepth 4000 in
set_option maxHeartbeats 4000000 in
theorem z_X9_init_c26 (d : Nat) (hd : 4 ≤ d) {C : hCx} (K : hCtx C.1 C.2.2.1 d 218 9300 "<init>" C) (X : hOK C cX9_init RX9 3 none) (l0 : Nat) (l1 : Nat) (p0 : 0 < l0) : hSim C none 218 9300 3 202 [(0, vR C.1.1 l0), (1, vR C.1.1 l1), (2, vI 18)] [] 184 8772 (m_X9_init_c26 l0 l1) := by
  obtain ⟨⟨hf, hlo⟩, ⟨hc1, hc2⟩, hf1, hl1⟩ := K_room K (by omega)
  unfold m_X9_init_c26
  refine s_iload_n (j := 2) (pc2 := 203) X dX9_init_202 rfl rfl ?_
  refine s_bipush (n := 20) (pc2 := 205) X dX9_init_203 rfl rfl ?_
  refine s_icgeF (pc2 := 208) (tgt := 228) X dX9_init_205 (by decide) rfl (inI_c 18 rfl) (inI_c 20 rfl) (by decide) ?_
  refine s_aload_n (j := 0) (pc2 := 209) X dX9_init_208 rfl rfl ?_
  refine s_getR (pc2 := 212) X dX9_init_209 rfl fl_RX9_28 rfl (fun v66 => ?_)
  refine s_iload_n (j := 2) (pc2 := 213) X dX9_init_212 rfl rfl ?_
  refine s_new (pc2 := 216) X dX9_init_213 rfl kX4 cl_RX9_26 kdX4 (by rw [hc1]; exact Nat.le_of_ble_eq_true rfl) (by rw [hc2]; exact Nat.le_of_ble_eq_true rfl) (fun v67 => ?_)
  refine s_assert (fun pv67 => ?_)
  refine s_cs 185 8778 rfl rfl ?_
  refine s_dup (pc2 := 217) X dX9_init_216 rfl (vR_cat _ _) ?_
  refine s_aload_n (j := 1) (pc2 := 218) X dX9_init_217 rfl rfl ?_
  refine s_callI (d2 := d - 1) (mc2 := 4) (ms2 := 80) (As := [vR C.1.1 l1]) (st := [vR C.1.1 v67, vI 18, vR C.1.1 v66]) (pc2 := 221) X dX9_init_218 rfl ml_RX9_68 im_X4_init rfl (c_X4_init (d - 1) (by omega) C.1 C.2.2.1 v67 l1 pv67) hy_X4_init rfl rfl pv67 hf hlo (st_room (Nat.le_of_ble_eq_true rfl)) ⟨by rw [hc1]; exact Nat.le_of_ble_eq_true rfl, by rw [hc2]; exact Nat.le_of_ble_eq_true rfl⟩ (fun _ => ?_)
  refine s_cs 189 8858 rfl rfl ?_
  refine s_aast25 (pc2 := 222) X dX9_init_221 rfl ?_
  refine s_iincK (j := 2) (y := 19) (pc2 := 225) X dX9_init_222 rfl (by decide) rfl rfl rfl rfl cat1_R ?_
  refine s_goto (pc2 := 202) X dX9_init_225 (by decide) ?_
  refine s_sub (lv2 := [(0, vR C.1.1 l0), (1, vR C.1.1 l1), (2, vI 19)]) [1, 2, 0] rfl ?_
  exact z_X9_init_c27 d hd K X l0 l1 p0
set_option maxRecDepth 4000 in
set_option maxHeartbeats 4000000 in
theorem z_X9_init_c25 (d : Nat) (hd : 4 ≤ d) {C : hCx} (K : hCtx C.1 C.2.2.1 d 218 9300 "<init>" C) (X : hOK C cX9_init RX9 3 none) (l0 : Nat) (l1 : Nat) (p0 : 0 < l0) : hSim C none 218 9300 3 202 [(0, vR C.1.1 l0), (1, vR C.1.1 l1), (2, vI 17)] [] 179 8686 (m_X9_init_c25 l0 l1) := by
  obtain ⟨⟨hf, hlo⟩, ⟨hc1, hc2⟩, hf1, hl1⟩ := K_room K (by omega)
  unfold m_X9_init_c25
  refine s_iload_n (j := 2) (pc2 := 203) X dX9_init_202 rfl rfl ?_
  refine s_bipush (n := 20) (pc2 := 205) X dX9_init_203 rfl rfl ?_
  refine s_icgeF (pc2 := 208) (tgt := 228) X dX9_init_205 (by decide) rfl (inI_c 17 rfl) (inI_c 20 rfl) (by decide) ?_
  refine s_aload_n (j := 0) (pc2 := 209) X dX9_init_208 rfl rfl ?_
  refine s_getR (pc2 := 212) X dX9_init_209 rfl fl_RX9_28 rfl (fun v64 => ?_)
  refine s_iload_n (j := 2) (pc2 := 213) X dX9_init_212 rfl rfl ?_
  refine s_new (pc2 := 216) X dX9_init_213 rfl kX4 cl_RX9_26 kdX4 (by rw [hc1]; exact Nat.le_of_ble_eq_true rfl) (by rw [hc2]; exact Nat.le_of_ble_eq_true rfl) (fun v65 => ?_)
  refine s_assert (fun pv65 => ?_)
  refine s_cs 180 8692 rfl rfl ?_
  refine s_dup (pc2 := 217) X dX9_init_216 rfl (vR_cat _ _) ?_
  refine s_aload_n (j := 1) (pc2 := 218) X dX9_init_217 rfl rfl ?_
  refine s_callI (d2 := d - 1) (mc2 := 4) (ms2 := 80) (As := [vR C.1.1 l1]) (st := [vR C.1.1 v65, vI 17, vR C.1.1 v64]) (pc2 := 221) X dX9_init_218 rfl ml_RX9_68 im_X4_init rfl (c_X4_init (d - 1) (by omega) C.1 C.2.2.1 v65 l1 pv65) hy_X4_init rfl rfl pv65 hf hlo (st_room (Nat.le_of_ble_eq_true rfl)) ⟨by rw [hc1]; exact Nat.le_of_ble_eq_true rfl, by rw [hc2]; exact Nat.le_of_ble_eq_true rfl⟩ (fun _ => ?_)
  refine s_cs 184 8772 rfl rfl ?_
  refine s_aast25 (pc2 := 222) X dX9_init_221 rfl ?_
  refine s_iincK (j := 2) (y := 18) (pc2 := 225) X dX9_init_222 rfl (by decide) rfl rfl rfl rfl cat1_R ?_
  refine s_goto (pc2 := 202) X dX9_init_225 (by decide) ?_
  refine s_sub (lv2 := [(0, vR C.1.1 l0), (1, vR C.1.1 l1), (2, vI 18)]) [1, 2, 0] rfl ?_
  exact z_X9_init_c26 d hd K X l0 l1 p0
set_option maxRecDepth 4000 in
set_option maxHeartbeats 4000000 in
theorem z_X9_init_c24 (d : Nat) (hd : 4 ≤ d) {C : hCx} (K : hCtx C.1 C.2.2.1 d 218 9300 "<init>" C) (X : hOK C cX9_init RX9 3 none) (l0 : Nat) (l1 : Nat) (p0 : 0 < l0) : hSim C none 218 9300 3 202 [(0, vR C.1.1 l0), (1, vR C.1.1 l1), (2, vI 16)] [] 174 8600 (m_X9_init_c24 l0 l1) := by
  obtain ⟨⟨hf, hlo⟩, ⟨hc1, hc2⟩, hf1, hl1⟩ := K_room K (by omega)
  unfold m_X9_init_c24
  refine s_iload_n (j := 2) (pc2 := 203) X dX9_init_202 rfl rfl ?_
  refine s_bipush (n := 20) (pc2 := 205) X dX9_init_203 rfl rfl ?_
  refine s_icgeF (pc2 := 208) (tgt := 228) X dX9_init_205 (by decide) rfl (inI_c 16 rfl) (inI_c 20 rfl) (by decide) ?_
  refine s_aload_n (j := 0) (pc2 := 209) X dX9_init_208 rfl rfl ?_
  refine s_getR (pc2 := 212) X dX9_init_209 rfl fl_RX9_28 rfl (fun v62 => ?_)
  refine s_iload_n (j := 2) (pc2 := 213) X dX9_init_212 rfl rfl ?_
  refine s_new (pc2 := 216) X dX9_init_213 rfl kX4 cl_RX9_26 kdX4 (by rw [hc1]; exact Nat.le_of_ble_eq_true rfl) (by rw [hc2]; exact Nat.le_of_ble_eq_true rfl) (fun v63 => ?_)
  refine s_assert (fun pv63 => ?_)
  refine s_cs 175 8606 rfl rfl ?_
  refine s_dup (pc2 := 217) X dX9_init_216 rfl (vR_cat _ _) ?_
  refine s_aload_n (j := 1) (pc2 := 218) X dX9_init_217 rfl rfl ?_
  refine s_callI (d2 := d - 1) (mc2 := 4) (ms2 := 80) (As := [vR C.1.1 l1]) (st := [vR C.1.1 v63, vI 16, vR C.1.1 v62]) (pc2 := 221) X dX9_init_218 rfl ml_RX9_68 im_X4_init rfl (c_X4_init (d - 1) (by omega) C.1 C.2.2.1 v63 l1 pv63) hy_X4_init rfl rfl pv63 hf hlo (st_room (Nat.le_of_ble_eq_true rfl)) ⟨by rw [hc1]; exact Nat.le_of_ble_eq_true rfl, by rw [hc2]; exact Nat.le_of_ble_eq_true rfl⟩ (fun _ => ?_)
  refine s_cs 179 8686 rfl rfl ?_
  refine s_aast25 (pc2 := 222) X dX9_init_221 rfl ?_
  refine s_iincK (j := 2) (y := 17) (pc2 := 225) X dX9_init_222 rfl (by decide) rfl rfl rfl rfl cat1_R ?_
  refine s_goto (pc2 := 202) X dX9_init_225 (by decide) ?_
  refine s_sub (lv2 := [(0, vR C.1.1 l0), (1, vR C.1.1 l1), (2, vI 17)]) [1, 2, 0] rfl ?_
  exact z_X9_init_c25 d hd K X l0 l1 p0
set_option maxRecDepth 4000 in
set_option maxHeartbeats 4000000 in
theorem z_X9_init_c23 (d : Nat) (hd : 4 ≤ d) {C : hCx} (K : hCtx C.1 C.2.2.1 d 218 9300 "<init>" C) (X : hOK C cX9_init RX9 3 none) (l0 : Nat) (l1 : Nat) (p0 : 0 < l0) : hSim C none 218 9300 3 202 [(0, vR C.1.1 l0), (1, vR C.1.1 l1), (2, vI 15)] [] 169 8514 (m_X9_init_c23 l0 l1) := by
  obtain ⟨⟨hf, hlo⟩, ⟨hc1, hc2⟩, hf1, hl1⟩ := K_room K (by omega)
  unfold m_X9_init_c23
  refine s_iload_n (j := 2) (pc2 := 203) X dX9_init_202 rfl rfl ?_
  refine s_bipush (n := 20) (pc2 := 205) X dX9_init_203 rfl rfl ?_
  refine s_icgeF (pc2 := 208) (tgt := 228) X dX9_init_205 (by decide) rfl (inI_c 15 rfl) (inI_c 20 rfl) (by decide) ?_
  refine s_aload_n (j := 0) (pc2 := 209) X dX9_init_208 rfl rfl ?_
  refine s_getR (pc2 := 212) X dX9_init_209 rfl fl_RX9_28 rfl (fun v60 => ?_)
  refine s_iload_n (j := 2) (pc2 := 213) X dX9_init_212 rfl rfl ?_
  refine s_new (pc2 := 216) X dX9_init_213 rfl kX4 cl_RX9_26 kdX4 (by rw [hc1]; exact Nat.le_of_ble_eq_true rfl) (by rw [hc2]; exact Nat.le_of_ble_eq_true rfl) (fun v61 => ?_)
  refine s_assert (fun pv61 => ?_)
  refine s_cs 170 8520 rfl rfl ?_
  refine s_dup (pc2 := 217) X dX9_init_216 rfl (vR_cat _ _) ?_
  refine s_aload_n (j := 1) (pc2 := 218) X dX9_init_217 rfl rfl ?_
  refine s_callI (d2 := d - 1) (mc2 := 4) (ms2 := 80) (As := [vR C.1.1 l1]) (st := [vR C.1.1 v61, vI 15, vR C.1.1 v60]) (pc2 := 221) X dX9_init_218 rfl ml_RX9_68 im_X4_init rfl (c_X4_init (d - 1) (by omega) C.1 C.2.2.1 v61 l1 pv61) hy_X4_init rfl rfl pv61 hf hlo (st_room (Nat.le_of_ble_eq_true rfl)) ⟨by rw [hc1]; exact Nat.le_of_ble_eq_true rfl, by rw [hc2]; exact Nat.le_of_ble_eq_true rfl⟩ (fun _ => ?_)
  refine s_cs 174 8600 rfl rfl ?_
  refine s_aast25 (pc2 := 222) X dX9_init_221 rfl ?_
  refine s_iincK (j := 2) (y := 16) (pc2 := 225) X dX9_init_222 rfl (by decide) rfl rfl rfl rfl cat1_R ?_
  refine s_goto (pc2 := 202) X dX9_init_225 (by decide) ?_
  refine s_sub (lv2 := [(0, vR C.1.1 l0), (1, vR C.1.1 l1), (2, vI 16)]) [1, 2, 0] rfl ?_
  exact z_X9_init_c24 d hd K X l0 l1 p0
set_option maxRecDepth 4000 in
set_option maxHeartbeats 4000000 in
theorem z_X9_init_c22 (d : Nat) (hd : 4 ≤ d) {C : hCx} (K : hCtx C.1 C.2.2.1 d 218 9300 "<init>" C) (X : hOK C cX9_init RX9 3 none) (l0 : Nat) (l1 : Nat) (p0 : 0 < l0) : hSim C none 218 9300 3 202 [(0, vR C.1.1 l0), (1, vR C.1.1 l1), (2, vI 14)] [] 164 8428 (m_X9_init_c22 l0 l1) := by
  obtain ⟨⟨hf, hlo⟩, ⟨hc1, hc2⟩, hf1, hl1⟩ := K_room K (by omega)
  unfold m_X9_init_c22
  refine s_iload_n (j := 2) (pc2 := 203) X dX9_init_202 rfl rfl ?_
  refine s_bipush (n := 20) (pc2 := 205) X dX9_init_203 rfl rfl ?_
  refine s_icgeF (pc2 := 208) (tgt := 228) X dX9_init_205 (by decide) rfl (inI_c 14 rfl) (inI_c 20 rfl) (by decide) ?_
  refine s_aload_n (j := 0) (pc2 := 209) X dX9_init_208 rfl rfl ?_
  refine s_getR (pc2 := 212) X dX9_init_209 rfl fl_RX9_28 rfl (fun v58 => ?_)
  refine s_iload_n (j := 2) (pc2 := 213) X dX9_init_212 rfl rfl ?_
  refine s_new (pc2 := 216) X dX9_init_213 rfl kX4 cl_RX9_26 kdX4 (by rw [hc1]; exact Nat.le_of_ble_eq_true rfl) (by rw [hc2]; exact Nat.le_of_ble_eq_true rfl) (fun v59 => ?_)
  refine s_assert (fun pv59 => ?_)
  refine s_cs 165 8434 rfl rfl ?_
  refine s_dup (pc2 := 217) X dX9_init_216 rfl (vR_cat _ _) ?_
  refine s_aload_n (j := 1) (pc2 := 218) X dX9_init_217 rfl rfl ?_
  refine s_callI (d2 := d - 1) (mc2 := 4) (ms2 := 80) (As := [vR C.1.1 l1]) (st := [vR C.1.1 v59, vI 14, vR C.1.1 v58]) (pc2 := 221) X dX9_init_218 rfl ml_RX9_68 im_X4_init rfl (c_X4_init (d - 1) (by omega) C.1 C.2.2.1 v59 l1 pv59) hy_X4_init rfl rfl pv59 hf hlo (st_room (Nat.le_of_ble_eq_true rfl)) ⟨by rw [hc1]; exact Nat.le_of_ble_eq_true rfl, by rw [hc2]; exact Nat.le_of_ble_eq_true rfl⟩ (fun _ => ?_)
  refine s_cs 169 8514 rfl rfl ?_
  refine s_aast25 (pc2 := 222) X dX9_init_221 rfl ?_
  refine s_iincK (j := 2) (y := 15) (pc2 := 225) X dX9_init_222 rfl (by decide) rfl rfl rfl rfl cat1_R ?_
  refine s_goto (pc2 := 202) X dX9_init_225 (by decide) ?_
  refine s_sub (lv2 := [(0, vR C.1.1 l0), (1, vR C.1.1 l1), (2, vI 15)]) [1, 2, 0] rfl ?_
  exact z_X9_init_c23 d hd K X l0 l1 p0
set_option maxRecDepth 4000 in
set_option maxHeartbeats 4000000 in
theorem z_X9_init_c21 (d : Nat) (hd : 4 ≤ d) {C : hCx} (K : hCtx C.1 C.2.2.1 d 218 9300 "<init>" C) (X : hOK C cX9_init RX9 3 none) (l0 : Nat) (l1 : Nat) (p0 : 0 < l0) : hSim C none 218 9300 3 202 [(0, vR C.1.1 l0), (1, vR C.1.1 l1), (2, vI 13)] [] 159 8342 (m_X9_init_c21 l0 l1) := by
  obtain ⟨⟨hf, hlo⟩, ⟨hc1, hc2⟩, hf1, hl1⟩ := K_room K (by omega)
  unfold m_X9_init_c21
  refine s_iload_n (j := 2) (pc2 := 203) X dX9_init_202 rfl rfl ?_
  refine s_bipush (n := 20) (pc2 := 205) X dX9_init_203 rfl rfl ?_
  refine s_icgeF (pc2 := 208) (tgt := 228) X dX9_init_205 (by decide) rfl (inI_c 13 rfl) (inI_c 20 rfl) (by decide) ?_
  refine s_aload_n (j := 0) (pc2 := 209) X dX9_init_208 rfl rfl ?_
  refine s_getR (pc2 := 212) X dX9_init_209 rfl fl_RX9_28 rfl (fun v56 => ?_)
  refine s_iload_n (j := 2) (pc2 := 213) X dX9_init_212 rfl rfl ?_
  refine s_new (pc2 := 216) X dX9_init_213 rfl kX4 cl_RX9_26 kdX4 (by rw [hc1]; exact Nat.le_of_ble_eq_true rfl) (by rw [hc2]; exact Nat.le_of_ble_eq_true rfl) (fun v57 => ?_)
  refine s_assert (fun pv57 => ?_)
  refine s_cs 160 8348 rfl rfl ?_
  refine s_dup (pc2 := 217) X dX9_init_216 rfl (vR_cat _ _) ?_
  refine s_aload_n (j := 1) (pc2 := 218) X dX9_init_217 rfl rfl ?_
  refine s_callI (d2 := d - 1) (mc2 := 4) (ms2 := 80) (As := [vR C.1.1 l1]) (st := [vR C.1.1 v57, vI 13, vR C.1.1 v56]) (pc2 := 221) X dX9_init_218 rfl ml_RX9_68 im_X4_init rfl (c_X4_init (d - 1) (by omega) C.1 C.2.2.1 v57 l1 pv57) hy_X4_init rfl rfl pv57 hf hlo (st_room (Nat.le_of_ble_eq_true rfl)) ⟨by rw [hc1]; exact Nat.le_of_ble_eq_true rfl, by rw [hc2]; exact Nat.le_of_ble_eq_true rfl⟩ (fun _ => ?_)
  refine s_cs 164 8428 rfl rfl ?_
  refine s_aast25 (pc2 := 222) X dX9_init_221 rfl ?_
  refine s_iincK (j := 2) (y := 14) (pc2 := 225) X dX9_init_222 rfl (by decide) rfl rfl rfl rfl cat1_R ?_
  refine s_goto (pc2 := 202) X dX9_init_225 (by decide) ?_
  refine s_sub (lv2 := [(0, vR C.1.1 l0), (1, vR C.1.1 l1), (2, vI 14)]) [1, 2, 0] rfl ?_
  exact z_X9_init_c22 d hd K X l0 l1 p0
set_option maxRecDepth 4000 in
set_option maxHeartbeats 4000000 in
theorem z_X9_init_c20 (d : Nat) (hd : 4 ≤ d) {C : hCx} (K : hCtx C.1 C.2.2.1 d 218 9300 "<init>" C) (X : hOK C cX9_init RX9 3 none) (l0 : Nat) (l1 : Nat) (p0 : 0 < l0) : hSim C none 218 9300 3 202 [(0, vR C.1.1 l0), (1, vR C.1.1 l1), (2, vI 12)] [] 154 8256 (m_X9_init_c20 l0 l1) := by
  obtain ⟨⟨hf, hlo⟩, ⟨hc1, hc2⟩, hf1, hl1⟩ := K_room K (by omega)
  unfold m_X9_init_c20
  refine s_iload_n (j := 2) (pc2 := 203) X dX9_init_202 rfl rfl ?_
  refine s_bipush (n := 20) (pc2 := 205) X dX9_init_203 rfl rfl ?_
  refine s_icgeF (pc2 := 208) (tgt := 228) X dX9_init_205 (by decide) rfl (inI_c 12 rfl) (inI_c 20 rfl) (by decide) ?_
  refine s_aload_n (j := 0) (pc2 := 209) X dX9_init_208 rfl rfl ?_
  refine s_getR (pc2 := 212) X dX9_init_209 rfl fl_RX9_28 rfl (fun v54 => ?_)
  refine s_iload_n (j := 2) (pc2 := 213) X dX9_init_212 rfl rfl ?_
  refine s_new (pc2 := 216) X dX9_init_213 rfl kX4 cl_RX9_26 kdX4 (by rw [hc1]; exact Nat.le_of_ble_eq_true rfl) (by rw [hc2]; exact Nat.le_of_ble_eq_true rfl) (fun v55 => ?_)
  refine s_assert (fun pv55 => ?_)
  refine s_cs 155 8262 rfl rfl ?_
  refine s_dup (pc2 := 217) X dX9_init_216 rfl (vR_cat _ _) ?_
  refine s_aload_n (j := 1) (pc2 := 218) X dX9_init_217 rfl rfl ?_
  refine s_callI (d2 := d - 1) (mc2 := 4) (ms2 := 80) (As := [vR C.1.1 l1]) (st := [vR C.1.1 v55, vI 12, vR C.1.1 v54]) (pc2 := 221) X dX9_init_218 rfl ml_RX9_68 im_X4_init rfl (c_X4_init (d - 1) (by omega) C.1 C.2.2.1 v55 l1 pv55) hy_X4_init rfl rfl pv55 hf hlo (st_room (Nat.le_of_ble_eq_true rfl)) ⟨by rw [hc1]; exact Nat.le_of_ble_eq_true rfl, by rw [hc2]; exact Nat.le_of_ble_eq_true rfl⟩ (fun _ => ?_)
  refine s_cs 159 8342 rfl rfl ?_
  refine s_aast25 (pc2 := 222) X dX9_init_221 rfl ?_
  refine s_iincK (j := 2) (y := 13) (pc2 := 225) X dX9_init_222 rfl (by decide) rfl rfl rfl rfl cat1_R ?_
  refine s_goto (pc2 := 202) X dX9_init_225 (by decide) ?_
  refine s_sub (lv2 := [(0, vR C.1.1 l0), (1, vR C.1.1 l1), (2, vI 13)]) [1, 2, 0] rfl ?_
  exact z_X9_init_c21 d hd K X l0 l1 p0
set_option maxRecDepth 4000 in
set_option maxHeartbeats 4000000 in
theorem z_X9_init_c19 (d : Nat) (hd : 4 ≤ d) {C : hCx} (K : hCtx C.1 C.2.2.1 d 218 9300 "<init>" C) (X : hOK C cX9_init RX9 3 none) (l0 : Nat) (l1 : Nat) (p0 : 0 < l0) : hSim C none 218 9300 3 202 [(0, vR C.1.1 l0), (1, vR C.1.1 l1), (2, vI 11)] [] 149 8170 (m_X9_init_c19 l0 l1) := by
  obtain ⟨⟨hf, hlo⟩, ⟨hc1, hc2⟩, hf1, hl1⟩ := K_room K (by omega)
  unfold m_X9_init_c19
  refine s_iload_n (j := 2) (pc2 := 203) X dX9_init_202 rfl rfl ?_
  refine s_bipush (n := 20) (pc2 := 205) X dX9_init_203 rfl rfl ?_
  refine s_icgeF (pc2 := 208) (tgt := 228) X dX9_init_205 (by decide) rfl (inI_c 11 rfl) (inI_c 20 rfl) (by decide) ?_
  refine s_aload_n (j := 0) (pc2 := 209) X dX9_init_208 rfl rfl ?_
  refine s_getR (pc2 := 212) X dX9_init_209 rfl fl_RX9_28 rfl (fun v52 => ?_)
  refine s_iload_n (j := 2) (pc2 := 213) X dX9_init_212 rfl rfl ?_
  refine s_new (pc2 := 216) X dX9_init_213 rfl kX4 cl_RX9_26 kdX4 (by rw [hc1]; exact Nat.le_of_ble_eq_true rfl) (by rw [hc2]; exact Nat.le_of_ble_eq_true rfl) (fun v53 => ?_)
  refine s_assert (fun pv53 => ?_)
  refine s_cs 150 8176 rfl rfl ?_
  refine s_dup (pc2 := 217) X dX9_init_216 rfl (vR_cat _ _) ?_
  refine s_aload_n (j := 1) (pc2 := 218) X dX9_init_217 rfl rfl ?_
  refine s_callI (d2 := d - 1) (mc2 := 4) (ms2 := 80) (As := [vR C.1.1 l1]) (st := [vR C.1.1 v53, vI 11, vR C.1.1 v52]) (pc2 := 221) X dX9_init_218 rfl ml_RX9_68 im_X4_init rfl (c_X4_init (d - 1) (by omega) C.1 C.2.2.1 v53 l1 pv53) hy_X4_init rfl rfl pv53 hf hlo (st_room (Nat.le_of_ble_eq_true rfl)) ⟨by rw [hc1]; exact Nat.le_of_ble_eq_true rfl, by rw [hc2]; exact Nat.le_of_ble_eq_true rfl⟩ (fun _ => ?_)
  refine s_cs 154 8256 rfl rfl ?_
  refine s_aast25 (pc2 := 222) X dX9_init_221 rfl ?_
  refine s_iincK (j := 2) (y := 12) (pc2 := 225) X dX9_init_222 rfl (by decide) rfl rfl rfl rfl cat1_R ?_
  refine s_goto (pc2 := 202) X dX9_init_225 (by decide) ?_
  refine s_sub (lv2 := [(0, vR C.1.1 l0), (1, vR C.1.1 l1), (2, vI 12)]) [1, 2, 0] rfl ?_
  exact z_X9_init_c20 d hd K X l0 l1 p0
set_option maxRecDepth 4000 in
set_option maxHeartbeats 4000000 in
theorem z_X9_init_c18 (d : Nat) (hd : 4 ≤ d) {C : hCx} (K : hCtx C.1 C.2.2.1 d 218 9300 "<init>" C) (X : hOK C cX9_init RX9 3 none) (l0 : Nat) (l1 : Nat) (p0 : 0 < l0) : hSim C none 218 9300 3 202 [(0, vR C.1.1 l0), (1, vR C.1.1 l1), (2, vI 10)] [] 144 8084 (m_X9_init_c18 l0 l1) := by
  obtain ⟨⟨hf, hlo⟩, ⟨hc1, hc2⟩, hf1, hl1⟩ := K_room K (by omega)
  unfold m_X9_init_c18
  refine s_iload_n (j := 2) (pc2 := 203) X dX9_init_202 rfl rfl ?_
  refine s_bipush (n := 20) (pc2 := 205) X dX9_init_203 rfl rfl ?_
  refine s_icgeF (pc2 := 208) (tgt := 228) X dX9_init_205 (by decide) rfl (inI_c 10 rfl) (inI_c 20 rfl) (by decide) ?_
  refine s_aload_n (j := 0) (pc2 := 209) X dX9_init_208 rfl rfl ?_
  refine s_getR (pc2 := 212) X dX9_init_209 rfl fl_RX9_28 rfl (fun v50 => ?_)
  refine s_iload_n (j := 2) (pc2 := 213) X dX9_init_212 rfl rfl ?_
  refine s_new (pc2 := 216) X dX9_init_213 rfl kX4 cl_RX9_26 kdX4 (by rw [hc1]; exact Nat.le_of_ble_eq_true rfl) (by rw [hc2]; exact Nat.le_of_ble_eq_true rfl) (fun v51 => ?_)
  refine s_assert (fun pv51 => ?_)
  refine s_cs 145 8090 rfl rfl ?_
  refine s_dup (pc2 := 217) X dX9_init_216 rfl (vR_cat _ _) ?_
  refine s_aload_n (j := 1) (pc2 := 218) X dX9_init_217 rfl rfl ?_
  refine s_callI (d2 := d - 1) (mc2 := 4) (ms2 := 80) (As := [vR C.1.1 l1]) (st := [vR C.1.1 v51, vI 10, vR C.1.1 v50]) (pc2 := 221) X dX9_init_218 rfl ml_RX9_68 im_X4_init rfl (c_X4_init (d - 1) (by omega) C.1 C.2.2.1 v51 l1 pv51) hy_X4_init rfl rfl pv51 hf hlo (st_room (Nat.le_of_ble_eq_true rfl)) ⟨by rw [hc1]; exact Nat.le_of_ble_eq_true rfl, by rw [hc2]; exact Nat.le_of_ble_eq_true rfl⟩ (fun _ => ?_)
  refine s_cs 149 8170 rfl rfl ?_
  refine s_aast25 (pc2 := 222) X dX9_init_221 rfl ?_
  refine s_iincK (j := 2) (y := 11) (pc2 := 225) X dX9_init_222 rfl (by decide) rfl rfl rfl rfl cat1_R ?_
  refine s_goto (pc2 := 202) X dX9_init_225 (by decide) ?_
  refine s_sub (lv2 := [(0, vR C.1.1 l0), (1, vR C.1.1 l1), (2, vI 11)]) [1, 2, 0] rfl ?_
  exact z_X9_init_c19 d hd K X l0 l1 p0
set_option maxRecDepth 4000 in
set_option maxHeartbeats 4000000 in
theorem z_X9_init_c17 (d : Nat) (hd : 4 ≤ d) {C : hCx} (K : hCtx C.1 C.2.2.1 d 218 9300 "<init>" C) (X : hOK C cX9_init RX9 3 none) (l0 : Nat) (l1 : Nat) (p0 : 0 < l0) : hSim C none 218 9300 3 202 [(0, vR C.1.1 l0), (1, vR C.1.1 l1), (2, vI 9)] [] 139 7998 (m_X9_init_c17 l0 l1) := by
  obtain ⟨⟨hf, hlo⟩, ⟨hc1, hc2⟩, hf1, hl1⟩ := K_room K (by omega)
  unfold m_X9_init_c17
  refine s_iload_n (j := 2) (pc2 := 203) X dX9_init_202 rfl rfl ?_
  refine s_bipush (n := 20) (pc2 := 205) X dX9_init_203 rfl rfl ?_
  refine s_icgeF (pc2 := 208) (tgt := 228) X dX9_init_205 (by decide) rfl (inI_c 9 rfl) (inI_c 20 rfl) (by decide) ?_
  refine s_aload_n (j := 0) (pc2 := 209) X dX9_init_208 rfl rfl ?_
  refine s_getR (pc2 := 212) X dX9_init_209 rfl fl_RX9_28 rfl (fun v48 => ?_)
  refine s_iload_n (j := 2) (pc2 := 213) X dX9_init_212 rfl rfl ?_
  refine s_new (pc2 := 216) X dX9_init_213 rfl kX4 cl_RX9_26 kdX4 (by rw [hc1]; exact Nat.le_of_ble_eq_true rfl) (by rw [hc2]; exact Nat.le_of_ble_eq_true rfl) (fun v49 => ?_)
  refine s_assert (fun pv49 => ?_)
  refine s_cs 140 8004 rfl rfl ?_
  refine s_dup (pc2 := 217) X dX9_init_216 rfl (vR_cat _ _) ?_
  refine s_aload_n (j := 1) (pc2 := 218) X dX9_init_217 rfl rfl ?_
  refine s_callI (d2 := d - 1) (mc2 := 4) (ms2 := 80) (As := [vR C.1.1 l1]) (st := [vR C.1.1 v49, vI 9, vR C.1.1 v48]) (pc2 := 221) X dX9_init_218 rfl ml_RX9_68 im_X4_init rfl (c_X4_init (d - 1) (by omega) C.1 C.2.2.1 v49 l1 pv49) hy_X4_init rfl rfl pv49 hf hlo (st_room (Nat.le_of_ble_eq_true rfl)) ⟨by rw [hc1]; exact Nat.le_of_ble_eq_true rfl, by rw [hc2]; exact Nat.le_of_ble_eq_true rfl⟩ (fun _ => ?_)
  refine s_cs 144 8084 rfl rfl ?_
  refine s_aast25 (pc2 := 222) X dX9_init_221 rfl ?_
  refine s_iincK (j := 2) (y := 10) (pc2 := 225) X dX9_init_222 rfl (by decide) rfl rfl rfl rfl cat1_R ?_
  refine s_goto (pc2 := 202) X dX9_init_225 (by decide) ?_
  refine s_sub (lv2 := [(0, vR C.1.1 l0), (1, vR C.1.1 l1), (2, vI 10)]) [1, 2, 0] rfl ?_
  exact z_X9_init_c18 d hd K X l0 l1 p0
set_option maxRecDepth 4000 in
set_option maxHeartbeats 4000000 in
theorem z_X9_init_c16 (d : Nat) (hd : 4 ≤ d) {C : hCx} (K : hCtx C.1 C.2.2.1 d 218 9300 "<init>" C) (X : hOK C cX9_init RX9 3 none) (l0 : Nat) (l1 : Nat) (p0 : 0 < l0) : hSim C none 218 9300 3 202 [(0, vR C.1.1 l0), (1, vR C.1.1 l1), (2, vI 8)] [] 134 7912 (m_X9_init_c16 l0 l1) := by
  obtain ⟨⟨hf, hlo⟩, ⟨hc1, hc2⟩, hf1, hl1⟩ := K_room K (by omega)
  unfold m_X9_init_c16
  refine s_iload_n (j := 2) (pc2 := 203) X dX9_init_202 rfl rfl ?_
  refine s_bipush (n := 20) (pc2 := 205) X dX9_init_203 rfl rfl ?_
  refine s_icgeF (pc2 := 208) (tgt := 228) X dX9_init_205 (by decide) rfl (inI_c 8 rfl) (inI_c 20 rfl) (by decide) ?_
  refine s_aload_n (j := 0) (pc2 := 209) X dX9_init_208 rfl rfl ?_
  refine s_getR (pc2 := 212) X dX9_init_209 rfl fl_RX9_28 rfl (fun v46 => ?_)
  refine s_iload_n (j := 2) (pc2 := 213) X dX9_init_212 rfl rfl ?_
  refine s_new (pc2 := 216) X dX9_init_213 rfl kX4 cl_RX9_26 kdX4 (by rw [hc1]; exact Nat.le_of_ble_eq_true rfl) (by rw [hc2]; exact Nat.le_of_ble_eq_true rfl) (fun v47 => ?_)
  refine s_assert (fun pv47 => ?_)
  refine s_cs 135 7918 rfl rfl ?_
  refine s_dup (pc2 := 217) X dX9_init_216 rfl (vR_cat _ _) ?_
  refine s_aload_n (j := 1) (pc2 := 218) X dX9_init_217 rfl rfl ?_
  refine s_callI (d2 := d - 1) (mc2 := 4) (ms2 := 80) (As := [vR C.1.1 l1]) (st := [vR C.1.1 v47, vI 8, vR C.1.1 v46]) (pc2 := 221) X dX9_init_218 rfl ml_RX9_68 im_X4_init rfl (c_X4_init (d - 1) (by omega) C.1 C.2.2.1 v47 l1 pv47) hy_X4_init rfl rfl pv47 hf hlo (st_room (Nat.le_of_ble_eq_true rfl)) ⟨by rw [hc1]; exact Nat.le_of_ble_eq_true rfl, by rw [hc2]; exact Nat.le_of_ble_eq_true rfl⟩ (fun _ => ?_)
  refine s_cs 139 7998 rfl rfl ?_
  refine s_aast25 (pc2 := 222) X dX9_init_221 rfl ?_
  refine s_iincK (j := 2) (y := 9) (pc2 := 225) X dX9_init_222 rfl (by decide) rfl rfl rfl rfl cat1_R ?_
  refine s_goto (pc2 := 202) X dX9_init_225 (by decide) ?_
  refine s_sub (lv2 := [(0, vR C.1.1 l0), (1, vR C.1.1 l1), (2, vI 9)]) [1, 2, 0] rfl ?_
  exact z_X9_init_c17 d hd K X l0 l1 p0
set_option maxRecDepth 4000 in
set_option maxHeartbeats 4000000 in
theorem z_X9_init_c15 (d : Nat) (hd : 4 ≤ d) {C : hCx} (K : hCtx C.1 C.2.2.1 d 218 9300 "<init>" C) (X : hOK C cX9_init RX9 3 none) (l0 : Nat) (l1 : Nat) (p0 : 0 < l0) : hSim C none 218 9300 3 202 [(0, vR C.1.1 l0), (1, vR C.1.1 l1), (2, vI 7)] [] 129 7826 (m_X9_init_c15 l0 l1) := by
  obtain ⟨⟨hf, hlo⟩, ⟨hc1, hc2⟩, hf1, hl1⟩ := K_room K (by omega)
  unfold m_X9_init_c15
  refine s_iload_n (j := 2) (pc2 := 203) X dX9_init_202 rfl rfl ?_
  refine s_bipush (n := 20) (pc2 := 205) X dX9_init_203 rfl rfl ?_
  refine s_icgeF (pc2 := 208) (tgt := 228) X dX9_init_205 (by decide) rfl (inI_c 7 rfl) (inI_c 20 rfl) (by decide) ?_
  refine s_aload_n (j := 0) (pc2 := 209) X dX9_init_208 rfl rfl ?_
  refine s_getR (pc2 := 212) X dX9_init_209 rfl fl_RX9_28 rfl (fun v44 => ?_)
  refine s_iload_n (j := 2) (pc2 := 213) X dX9_init_212 rfl rfl ?_
  refine s_new (pc2 := 216) X dX9_init_213 rfl kX4 cl_RX9_26 kdX4 (by rw [hc1]; exact Nat.le_of_ble_eq_true rfl) (by rw [hc2]; exact Nat.le_of_ble_eq_true rfl) (fun v45 => ?_)
  refine s_assert (fun pv45 => ?_)
  refine s_cs 130 7832 rfl rfl ?_
  refine s_dup (pc2 := 217) X dX9_init_216 rfl (vR_cat _ _) ?_
  refine s_aload_n (j := 1) (pc2 := 218) X dX9_init_217 rfl rfl ?_
  refine s_callI (d2 := d - 1) (mc2 := 4) (ms2 := 80) (As := [vR C.1.1 l1]) (st := [vR C.1.1 v45, vI 7, vR C.1.1 v44]) (pc2 := 221) X dX9_init_218 rfl ml_RX9_68 im_X4_init rfl (c_X4_init (d - 1) (by omega) C.1 C.2.2.1 v45 l1 pv45) hy_X4_init rfl rfl pv45 hf hlo (st_room (Nat.le_of_ble_eq_true rfl)) ⟨by rw [hc1]; exact Nat.le_of_ble_eq_true rfl, by rw [hc2]; exact Nat.le_of_ble_eq_true rfl⟩ (fun _ => ?_)
  refine s_cs 134 7912 rfl rfl ?_
  refine s_aast25 (pc2 := 222) X dX9_init_221 rfl ?_
  refine s_iincK (j := 2) (y := 8) (pc2 := 225) X dX9_init_222 rfl (by decide) rfl rfl rfl rfl cat1_R ?_
  refine s_goto (pc2 := 202) X dX9_init_225 (by decide) ?_
  refine s_sub (lv2 := [(0, vR C.1.1 l0), (1, vR C.1.1 l1), (2, vI 8)]) [1, 2, 0] rfl ?_
  exact z_X9_init_c16 d hd K X l0 l1 p0
set_option maxRecDepth 4000 in
set_option maxHeartbeats 4000000 in
theorem z_X9_init_c14 (d : Nat) (hd : 4 ≤ d) {C : hCx} (K : hCtx C.1 C.2.2.1 d 218 9300 "<init>" C) (X : hOK C cX9_init RX9 3 none) (l0 : Nat) (l1 : Nat) (p0 : 0 < l0) : hSim C none 218 9300 3 202 [(0, vR C.1.1 l0), (1, vR C.1.1 l1), (2, vI 6)] [] 124 7740 (m_X9_init_c14 l0 l1) := by
  obtain ⟨⟨hf, hlo⟩, ⟨hc1, hc2⟩, hf1, hl1⟩ := K_room K (by omega)
  unfold m_X9_init_c14
  refine s_iload_n (j := 2) (pc2 := 203) X dX9_init_202 rfl rfl ?_
  refine s_bipush (n := 20) (pc2 := 205) X dX9_init_203 rfl rfl ?_
  refine s_icgeF (pc2 := 208) (tgt := 228) X dX9_init_205 (by decide) rfl (inI_c 6 rfl) (inI_c 20 rfl) (by decide) ?_
  refine s_aload_n (j := 0) (pc2 := 209) X dX9_init_208 rfl rfl ?_
  refine s_getR (pc2 := 212) X dX9_init_209 rfl fl_RX9_28 rfl (fun v42 => ?_)
  refine s_iload_n (j := 2) (pc2 := 213) X dX9_init_212 rfl rfl ?_
  refine s_new (pc2 := 216) X dX9_init_213 rfl kX4 cl_RX9_26 kdX4 (by rw [hc1]; exact Nat.le_of_ble_eq_true rfl) (by rw [hc2]; exact Nat.le_of_ble_eq_true rfl) (fun v43 => ?_)
  refine s_assert (fun pv43 => ?_)
  refine s_cs 125 7746 rfl rfl ?_
  refine s_dup (pc2 := 217) X dX9_init_216 rfl (vR_cat _ _) ?_
  refine s_aload_n (j := 1) (pc2 := 218) X dX9_init_217 rfl rfl ?_
  refine s_callI (d2 := d - 1) (mc2 := 4) (ms2 := 80) (As := [vR C.1.1 l1]) (st := [vR C.1.1 v43, vI 6, vR C.1.1 v42]) (pc2 := 221) X dX9_init_218 rfl ml_RX9_68 im_X4_init rfl (c_X4_init (d - 1) (by omega) C.1 C.2.2.1 v43 l1 pv43) hy_X4_init rfl rfl pv43 hf hlo (st_room (Nat.le_of_ble_eq_true rfl)) ⟨by rw [hc1]; exact Nat.le_of_ble_eq_true rfl, by rw [hc2]; exact Nat.le_of_ble_eq_true rfl⟩ (fun _ => ?_)
  refine s_cs 129 7826 rfl rfl ?_
  refine s_aast25 (pc2 := 222) X dX9_init_221 rfl ?_
  refine s_iincK (j := 2) (y := 7) (pc2 := 225) X dX9_init_222 rfl (by decide) rfl rfl rfl rfl cat1_R ?_
  refine s_goto (pc2 := 202) X dX9_init_225 (by decide) ?_
  refine s_sub (lv2 := [(0, vR C.1.1 l0), (1, vR C.1.1 l1), (2, vI 7)]) [1, 2, 0] rfl ?_
  exact z_X9_init_c15 d hd K X l0 l1 p0
set_option maxRecDepth 4000 in
set_option maxHeartbeats 4000000 in
theorem z_X9_init_c13 (d : Nat) (hd : 4 ≤ d) {C : hCx} (K : hCtx C.1 C.2.2.1 d 218 9300 "<init>" C) (X : hOK C cX9_init RX9 3 none) (l0 : Nat) (l1 : Nat) (p0 : 0 < l0) : hSim C none 218 9300 3 202 [(0, vR C.1.1 l0), (1, vR C.1.1 l1), (2, vI 5)] [] 119 7654 (m_X9_init_c13 l0 l1) := by
  obtain ⟨⟨hf, hlo⟩, ⟨hc1, hc2⟩, hf1, hl1⟩ := K_room K (by omega)
  unfold m_X9_init_c13
  refine s_iload_n (j := 2) (pc2 := 203) X dX9_init_202 rfl rfl ?_
  refine s_bipush (n := 20) (pc2 := 205) X dX9_init_203 rfl rfl ?_
  refine s_icgeF (pc2 := 208) (tgt := 228) X dX9_init_205 (by decide) rfl (inI_c 5 rfl) (inI_c 20 rfl) (by decide) ?_
  refine s_aload_n (j := 0) (pc2 := 209) X dX9_init_208 rfl rfl ?_
  refine s_getR (pc2 := 212) X dX9_init_209 rfl fl_RX9_28 rfl (fun v40 => ?_)
  refine s_iload_n (j := 2) (pc2 := 213) X dX9_init_212 rfl rfl ?_
  refine s_new (pc2 := 216) X dX9_init_213 rfl kX4 cl_RX9_26 kdX4 (by rw [hc1]; exact Nat.le_of_ble_eq_true rfl) (by rw [hc2]; exact Nat.le_of_ble_eq_true rfl) (fun v41 => ?_)
  refine s_assert (fun pv41 => ?_)
  refine s_cs 120 7660 rfl rfl ?_
  refine s_dup (pc2 := 217) X dX9_init_216 rfl (vR_cat _ _) ?_
  refine s_aload_n (j := 1) (pc2 := 218) X dX9_init_217 rfl rfl ?_
  refine s_callI (d2 := d - 1) (mc2 := 4) (ms2 := 80) (As := [vR C.1.1 l1]) (st := [vR C.1.1 v41, vI 5, vR C.1.1 v40]) (pc2 := 221) X dX9_init_218 rfl ml_RX9_68 im_X4_init rfl (c_X4_init (d - 1) (by omega) C.1 C.2.2.1 v41 l1 pv41) hy_X4_init rfl rfl pv41 hf hlo (st_room (Nat.le_of_ble_eq_true rfl)) ⟨by rw [hc1]; exact Nat.le_of_ble_eq_true rfl, by rw [hc2]; exact Nat.le_of_ble_eq_true rfl⟩ (fun _ => ?_)
  refine s_cs 124 7740 rfl rfl ?_
  refine s_aast25 (pc2 := 222) X dX9_init_221 rfl ?_
  refine s_iincK (j := 2) (y := 6) (pc2 := 225) X dX9_init_222 rfl (by decide) rfl rfl rfl rfl cat1_R ?_
  refine s_goto (pc2 := 202) X dX9_init_225 (by decide) ?_
  refine s_sub (lv2 := [(0, vR C.1.1 l0), (1, vR C.1.1 l1), (2, vI 6)]) [1, 2, 0] rfl ?_
  exact z_X9_init_c14 d hd K X l0 l1 p0
set_option maxRecDepth 4000 in
set_option maxHeartbeats 4000000 in
theorem z_X9_init_c12 (d : Nat) (hd : 4 ≤ d) {C : hCx} (K : hCtx C.1 C.2.2.1 d 218 9300 "<init>" C) (X : hOK C cX9_init RX9 3 none) (l0 : Nat) (l1 : Nat) (p0 : 0 < l0) : hSim C none 218 9300 3 202 [(0, vR C.1.1 l0), (1, vR C.1.1 l1), (2, vI 4)] [] 114 7568 (m_X9_init_c12 l0 l1) := by
  obtain ⟨⟨hf, hlo⟩, ⟨hc1, hc2⟩, hf1, hl1⟩ := K_room K (by omega)
  unfold m_X9_init_c12
  refine s_iload_n (j := 2) (pc2 := 203) X dX9_init_202 rfl rfl ?_
  refine s_bipush (n := 20) (pc2 := 205) X dX9_init_203 rfl rfl ?_
  refine s_icgeF (pc2 := 208) (tgt := 228) X dX9_init_205 (by decide) rfl (inI_c 4 rfl) (inI_c 20 rfl) (by decide) ?_
  refine s_aload_n (j := 0) (pc2 := 209) X dX9_init_208 rfl rfl ?_
  refine s_getR (pc2 := 212) X dX9_init_209 rfl fl_RX9_28 rfl (fun v38 => ?_)
  refine s_iload_n (j := 2) (pc2 := 213) X dX9_init_212 rfl rfl ?_
  refine s_new (pc2 := 216) X dX9_init_213 rfl kX4 cl_RX9_26 kdX4 (by rw [hc1]; exact Nat.le_of_ble_eq_true rfl) (by rw [hc2]; exact Nat.le_of_ble_eq_true rfl) (fun v39 => ?_)
  refine s_assert (fun pv39 => ?_)
  refine s_cs 115 7574 rfl rfl ?_
  refine s_dup (pc2 := 217) X dX9_init_216 rfl (vR_cat _ _) ?_
  refine s_aload_n (j := 1) (pc2 := 218) X dX9_init_217 rfl rfl ?_
  refine s_callI (d2 := d - 1) (mc2 := 4) (ms2 := 80) (As := [vR C.1.1 l1]) (st := [vR C.1.1 v39, vI 4, vR C.1.1 v38]) (pc2 := 221) X dX9_init_218 rfl ml_RX9_68 im_X4_init rfl (c_X4_init (d - 1) (by omega) C.1 C.2.2.1 v39 l1 pv39) hy_X4_init rfl rfl pv39 hf hlo (st_room (Nat.le_of_ble_eq_true rfl)) ⟨by rw [hc1]; exact Nat.le_of_ble_eq_true rfl, by rw [hc2]; exact Nat.le_of_ble_eq_true rfl⟩ (fun _ => ?_)
  refine s_cs 119 7654 rfl rfl ?_
  refine s_aast25 (pc2 := 222) X dX9_init_221 rfl ?_
  refine s_iincK (j := 2) (y := 5) (pc2 := 225) X dX9_init_222 rfl (by decide) rfl rfl rfl rfl cat1_R ?_
  refine s_goto (pc2 := 202) X dX9_init_225 (by decide) ?_
  refine s_sub (lv2 := [(0, vR C.1.1 l0), (1, vR C.1.1 l1), (2, vI 5)]) [1, 2, 0] rfl ?_
  exact z_X9_init_c13 d hd K X l0 l1 p0
set_option maxRecDepth 4000 in
set_option maxHeartbeats 4000000 in
theorem z_X9_init_c11 (d : Nat) (hd : 4 ≤ d) {C : hCx} (K : hCtx C.1 C.2.2.1 d 218 9300 "<init>" C) (X : hOK C cX9_init RX9 3 none) (l0 : Nat) (l1 : Nat) (p0 : 0 < l0) : hSim C none 218 9300 3 202 [(0, vR C.1.1 l0), (1, vR C.1.1 l1), (2, vI 3)] [] 109 7482 (m_X9_init_c11 l0 l1) := by
  obtain ⟨⟨hf, hlo⟩, ⟨hc1, hc2⟩, hf1, hl1⟩ := K_room K (by omega)
  unfold m_X9_init_c11
  refine s_iload_n (j := 2) (pc2 := 203) X dX9_init_202 rfl rfl ?_
  refine s_bipush (n := 20) (pc2 := 205) X dX9_init_203 rfl rfl ?_
  refine s_icgeF (pc2 := 208) (tgt := 228) X dX9_init_205 (by decide) rfl (inI_c 3 rfl) (inI_c 20 rfl) (by decide) ?_
  refine s_aload_n (j := 0) (pc2 := 209) X dX9_init_208 rfl rfl ?_
  refine s_getR (pc2 := 212) X dX9_init_209 rfl fl_RX9_28 rfl (fun v36 => ?_)
  refine s_iload_n (j := 2) (pc2 := 213) X dX9_init_212 rfl rfl ?_
  refine s_new (pc2 := 216) X dX9_init_213 rfl kX4 cl_RX9_26 kdX4 (by rw [hc1]; exact Nat.le_of_ble_eq_true rfl) (by rw [hc2]; exact Nat.le_of_ble_eq_true rfl) (fun v37 => ?_)
  refine s_assert (fun pv37 => ?_)
  refine s_cs 110 7488 rfl rfl ?_
  refine s_dup (pc2 := 217) X dX9_init_216 rfl (vR_cat _ _) ?_
  refine s_aload_n (j := 1) (pc2 := 218) X dX9_init_217 rfl rfl ?_
  refine s_callI (d2 := d - 1) (mc2 := 4) (ms2 := 80) (As := [vR C.1.1 l1]) (st := [vR C.1.1 v37, vI 3, vR C.1.1 v36]) (pc2 := 221) X dX9_init_218 rfl ml_RX9_68 im_X4_init rfl (c_X4_init (d - 1) (by omega) C.1 C.2.2.1 v37 l1 pv37) hy_X4_init rfl rfl pv37 hf hlo (st_room (Nat.le_of_ble_eq_true rfl)) ⟨by rw [hc1]; exact Nat.le_of_ble_eq_true rfl, by rw [hc2]; exact Nat.le_of_ble_eq_true rfl⟩ (fun _ => ?_)
  refine s_cs 114 7568 rfl rfl ?_
  refine s_aast25 (pc2 := 222) X dX9_init_221 rfl ?_
  refine s_iincK (j := 2) (y := 4) (pc2 := 225) X dX9_init_222 rfl (by decide) rfl rfl rfl rfl cat1_R ?_
  refine s_goto (pc2 := 202) X dX9_init_225 (by decide) ?_
  refine s_sub (lv2 := [(0, vR C.1.1 l0), (1, vR C.1.1 l1), (2, vI 4)]) [1, 2, 0] rfl ?_
  exact z_X9_init_c12 d hd K X l0 l1 p0
set_option maxRecDepth 4000 in
set_option maxHeartbeats 4000000 in
theorem z_X9_init_c10 (d : Nat) (hd : 4 ≤ d) {C : hCx} (K : hCtx C.1 C.2.2.1 d 218 9300 "<init>" C) (X : hOK C cX9_init RX9 3 none) (l0 : Nat) (l1 : Nat) (p0 : 0 < l0) : hSim C none 218 9300 3 202 [(0, vR C.1.1 l0), (1, vR C.1.1 l1), (2, vI 2)] [] 104 7396 (m_X9_init_c10 l0 l1) := by
  obtain ⟨⟨hf, hlo⟩, ⟨hc1, hc2⟩, hf1, hl1⟩ := K_room K (by omega)
  unfold m_X9_init_c10
  refine s_iload_n (j := 2) (pc2 := 203) X dX9_init_202 rfl rfl ?_
  refine s_bipush (n := 20) (pc2 := 205) X dX9_init_203 rfl rfl ?_
  refine s_icgeF (pc2 := 208) (tgt := 228) X dX9_init_205 (by decide) rfl (inI_c 2 rfl) (inI_c 20 rfl) (by decide) ?_
  refine s_aload_n (j := 0) (pc2 := 209) X dX9_init_208 rfl rfl ?_
  refine s_getR (pc2 := 212) X dX9_init_209 rfl fl_RX9_28 rfl (fun v34 => ?_)
  refine s_iload_n (j := 2) (pc2 := 213) X dX9_init_212 rfl rfl ?_
  refine s_new (pc2 := 216) X dX9_init_213 rfl kX4 cl_RX9_26 kdX4 (by rw [hc1]; exact Nat.le_of_ble_eq_true rfl) (by rw [hc2]; exact Nat.le_of_ble_eq_true rfl) (fun v35 => ?_)
  refine s_assert (fun pv35 => ?_)
  refine s_cs 105 7402 rfl rfl ?_
  refine s_dup (pc2 := 217) X dX9_init_216 rfl (vR_cat _ _) ?_
  refine s_aload_n (j := 1) (pc2 := 218) X dX9_init_217 rfl rfl ?_
  refine s_callI (d2 := d - 1) (mc2 := 4) (ms2 := 80) (As := [vR C.1.1 l1]) (st := [vR C.1.1 v35, vI 2, vR C.1.1 v34]) (pc2 := 221) X dX9_init_218 rfl ml_RX9_68 im_X4_init rfl (c_X4_init (d - 1) (by omega) C.1 C.2.2.1 v35 l1 pv35) hy_X4_init rfl rfl pv35 hf hlo (st_room (Nat.le_of_ble_eq_true rfl)) ⟨by rw [hc1]; exact Nat.le_of_ble_eq_true rfl, by rw [hc2]; exact Nat.le_of_ble_eq_true rfl⟩ (fun _ => ?_)
  refine s_cs 109 7482 rfl rfl ?_
  refine s_aast25 (pc2 := 222) X dX9_init_221 rfl ?_
  refine s_iincK (j := 2) (y := 3) (pc2 := 225) X dX9_init_222 rfl (by decide) rfl rfl rfl rfl cat1_R ?_
  refine s_goto (pc2 := 202) X dX9_init_225 (by decide) ?_
  refine s_sub (lv2 := [(0, vR C.1.1 l0), (1, vR C.1.1 l1), (2, vI 3)]) [1, 2, 0] rfl ?_
  exact z_X9_init_c11 d hd K X l0 l1 p0
set_option maxRecDepth 4000 in
set_option maxHeartbeats 4000000 in
theorem z_X9_init_c9 (d : Nat) (hd : 4 ≤ d) {C : hCx} (K : hCtx C.1 C.2.2.1 d 218 9300 "<init>" C) (X : hOK C cX9_init RX9 3 none) (l0 : Nat) (l1 : Nat) (p0 : 0 < l0) : hSim C none 218 9300 3 202 [(0, vR C.1.1 l0), (1, vR C.1.1 l1), (2, vI 1)] [] 99 7310 (m_X9_init_c9 l0 l1) := by
  obtain ⟨⟨hf, hlo⟩, ⟨hc1, hc2⟩, hf1, hl1⟩ := K_room K (by omega)
  unfold m_X9_init_c9
  refine s_iload_n (j := 2) (pc2 := 203) X dX9_init_202 rfl rfl ?_
  refine s_bipush (n := 20) (pc2 := 205) X dX9_init_203 rfl rfl ?_
  refine s_icgeF (pc2 := 208) (tgt := 228) X dX9_init_205 (by decide) rfl (inI_c 1 rfl) (inI_c 20 rfl) (by decide) ?_
  refine s_aload_n (j := 0) (pc2 := 209) X dX9_init_208 rfl rfl ?_
  refine s_getR (pc2 := 212) X dX9_init_209 rfl fl_RX9_28 rfl (fun v32 => ?_)
  refine s_iload_n (j := 2) (pc2 := 213) X dX9_init_212 rfl rfl ?_
  refine s_new (pc2 := 216) X dX9_init_213 rfl kX4 cl_RX9_26 kdX4 (by rw [hc1]; exact Nat.le_of_ble_eq_true rfl) (by rw [hc2]; exact Nat.le_of_ble_eq_true rfl) (fun v33 => ?_)
  refine s_assert (fun pv33 => ?_)
  refine s_cs 100 7316 rfl rfl ?_
  refine s_dup (pc2 := 217) X dX9_init_216 rfl (vR_cat _ _) ?_
  refine s_aload_n (j := 1) (pc2 := 218) X dX9_init_217 rfl rfl ?_
  refine s_callI (d2 := d - 1) (mc2 := 4) (ms2 := 80) (As := [vR C.1.1 l1]) (st := [vR C.1.1 v33, vI 1, vR C.1.1 v32]) (pc2 := 221) X dX9_init_218 rfl ml_RX9_68 im_X4_init rfl (c_X4_init (d - 1) (by omega) C.1 C.2.2.1 v33 l1 pv33) hy_X4_init rfl rfl pv33 hf hlo (st_room (Nat.le_of_ble_eq_true rfl)) ⟨by rw [hc1]; exact Nat.le_of_ble_eq_true rfl, by rw [hc2]; exact Nat.le_of_ble_eq_true rfl⟩ (fun _ => ?_)
  refine s_cs 104 7396 rfl rfl ?_
  refine s_aast25 (pc2 := 222) X dX9_init_221 rfl ?_
  refine s_iincK (j := 2) (y := 2) (pc2 := 225) X dX9_init_222 rfl (by decide) rfl rfl rfl rfl cat1_R ?_
  refine s_goto (pc2 := 202) X dX9_init_225 (by decide) ?_
  refine s_sub (lv2 := [(0, vR C.1.1 l0), (1, vR C.1.1 l1), (2, vI 2)]) [1, 2, 0] rfl ?_
  exact z_X9_init_c10 d hd K X l0 l1 p0
set_option maxRecDepth 4000 in
set_option maxHeartbeats 4000000 in
theorem z_X9_init_c8 (d : Nat) (hd : 4 ≤ d) {C : hCx} (K : hCtx C.1 C.2.2.1 d 218 9300 "<init>" C) (X : hOK C cX9_init RX9 3 none) (l0 : Nat) (l1 : Nat) (p0 : 0 < l0) : hSim C none 218 9300 3 202 [(0, vR C.1.1 l0), (1, vR C.1.1 l1), (2, vI 0)] [] 94 7224 (m_X9_init_c8 l0 l1) := by
  obtain ⟨⟨hf, hlo⟩, ⟨hc1, hc2⟩, hf1, hl1⟩ := K_room K (by omega)
  unfold m_X9_init_c8
  refine s_iload_n (j := 2) (pc2 := 203) X dX9_init_202 rfl rfl ?_
  refine s_bipush (n := 20) (pc2 := 205) X dX9_init_203 rfl rfl ?_
  refine s_icgeF (pc2 := 208) (tgt := 228) X dX9_init_205 (by decide) rfl (inI_c 0 rfl) (inI_c 20 rfl) (by decide) ?_
  refine s_aload_n (j := 0) (pc2 := 209) X dX9_init_208 rfl rfl ?_
  refine s_getR (pc2 := 212) X dX9_init_209 rfl fl_RX9_28 rfl (fun v30 => ?_)
  refine s_iload_n (j := 2) (pc2 := 213) X dX9_init_212 rfl rfl ?_
  refine s_new (pc2 := 216) X dX9_init_213 rfl kX4 cl_RX9_26 kdX4 (by rw [hc1]; exact Nat.le_of_ble_eq_true rfl) (by rw [hc2]; exact Nat.le_of_ble_eq_true rfl) (fun v31 => ?_)
  refine s_assert (fun pv31 => ?_)
  refine s_cs 95 7230 rfl rfl ?_
  refine s_dup (pc2 := 217) X dX9_init_216 rfl (vR_cat _ _) ?_
  refine s_aload_n (j := 1) (pc2 := 218) X dX9_init_217 rfl rfl ?_
  refine s_callI (d2 := d - 1) (mc2 := 4) (ms2 := 80) (As := [vR C.1.1 l1]) (st := [vR C.1.1 v31, vI 0, vR C.1.1 v30]) (pc2 := 221) X dX9_init_218 rfl ml_RX9_68 im_X4_init rfl (c_X4_init (d - 1) (by omega) C.1 C.2.2.1 v31 l1 pv31) hy_X4_init rfl rfl pv31 hf hlo (st_room (Nat.le_of_ble_eq_true rfl)) ⟨by rw [hc1]; exact Nat.le_of_ble_eq_true rfl, by rw [hc2]; exact Nat.le_of_ble_eq_true rfl⟩ (fun _ => ?_)
  refine s_cs 99 7310 rfl rfl ?_
  refine s_aast25 (pc2 := 222) X dX9_init_221 rfl ?_
  refine s_iincK (j := 2) (y := 1) (pc2 := 225) X dX9_init_222 rfl (by decide) rfl rfl rfl rfl cat1_R ?_
  refine s_goto (pc2 := 202) X dX9_init_225 (by decide) ?_
  refine s_sub (lv2 := [(0, vR C.1.1 l0), (1, vR C.1.1 l1), (2, vI 1)]) [1, 2, 0] rfl ?_
  exact z_X9_init_c9 d hd K X l0 l1 p0
set_option maxRecDepth 4000 in
set_option maxHeartbeats 4000000 in
theorem z_X9_init_c7 (d : Nat) (hd : 4 ≤ d) {C : hCx} (K : hCtx C.1 C.2.2.1 d 218 9300 "<init>" C) (X : hOK C cX9_init RX9 3 none) (l0 : Nat) (l1 : Nat) (p0 : 0 < l0) : hSim C none 218 9300 3 175 [(0, vR C.1.1 l0), (1, vR C.1.1 l1), (2, vI 6)] [] 94 7224 (m_X9_init_c7 l0 l1) := by
  obtain ⟨⟨hf, hlo⟩, ⟨hc1, hc2⟩, hf1, hl1⟩ := K_room K (by omega)
  unfold m_X9_init_c7
  refine s_iload_n (j := 2) (pc2 := 176) X dX9_init_175 rfl rfl ?_
  refine s_bipush (n := 6) (pc2 := 178) X dX9_init_176 rfl rfl ?_
  refine s_icgeT (tgt := 200) X dX9_init_178 (by decide) (inI_c 6 rfl) (inI_c 6 rfl) (by decide) ?_
  refine s_iconst (n := 0) (pc2 := 201) X dX9_init_200 rfl ?_
  refine s_istoreK_n (pc2 := 202) X dX9_init_201 rfl (by decide) rfl rfl cat1_R ?_
  refine s_sub (lv2 := [(0, vR C.1.1 l0), (1, vR C.1.1 l1), (2, vI 0)]) [1, 2, 0] rfl ?_
  exact z_X9_init_c8 d hd K X l0 l1 p0
set_option maxRecDepth 4000 in
set_option maxHeartbeats 4000000 in
theorem z_X9_init_c6 (d : Nat) (hd : 4 ≤ d) {C : hCx} (K : hCtx C.1 C.2.2.1 d 218 9300 "<init>" C) (X : hOK C cX9_init RX9 3 none) (l0 : Nat) (l1 : Nat) (p0 : 0 < l0) : hSim C none 218 9300 3 175 [(0, vR C.1.1 l0), (1, vR C.1.1 l1), (2, vI 5)] [] 87 6319 (m_X9_init_c6 l0 l1) := by
  obtain ⟨⟨hf, hlo⟩, ⟨hc1, hc2⟩, hf1, hl1⟩ := K_room K (by omega)
  unfold m_X9_init_c6
  refine s_iload_n (j := 2) (pc2 := 176) X dX9_init_175 rfl rfl ?_
  refine s_bipush (n := 6) (pc2 := 178) X dX9_init_176 rfl rfl ?_
  refine s_icgeF (pc2 := 181) (tgt := 200) X dX9_init_178 (by decide) rfl (inI_c 5 rfl) (inI_c 6 rfl) (by decide) ?_
  refine s_aload_n (j := 0) (pc2 := 182) X dX9_init_181 rfl rfl ?_
  refine s_getR (pc2 := 185) X dX9_init_182 rfl fl_RX9_18 rfl (fun v28 => ?_)
  refine s_iload_n (j := 2) (pc2 := 186) X dX9_init_185 rfl rfl ?_
  refine s_new (pc2 := 189) X dX9_init_186 rfl kX3 cl_RX9_16 kdX3 (by rw [hc1]; exact Nat.le_of_ble_eq_true rfl) (by rw [hc2]; exact Nat.le_of_ble_eq_true rfl) (fun v29 => ?_)
  refine s_assert (fun pv29 => ?_)
  refine s_cs 88 6328 rfl rfl ?_
  refine s_dup (pc2 := 190) X dX9_init_189 rfl (vR_cat _ _) ?_
  refine s_callN (d2 := d - 1) (mc2 := 6) (ms2 := 896) (As := []) (st := [vR C.1.1 v29, vI 5, vR C.1.1 v28]) (pc2 := 193) X dX9_init_190 rfl (by decide) rfl im_X3_init rfl (c_X3_init (d - 1) (by omega) C.1 C.2.2.1 v29 pv29) hy_X3_init rfl rfl pv29 hf hlo (st_room (Nat.le_of_ble_eq_true rfl)) ⟨by rw [hc1]; exact Nat.le_of_ble_eq_true rfl, by rw [hc2]; exact Nat.le_of_ble_eq_true rfl⟩ (fun _ => ?_)
  refine s_cs 94 7224 rfl rfl ?_
  refine s_aast24 (pc2 := 194) X dX9_init_193 rfl ?_
  refine s_iincK (j := 2) (y := 6) (pc2 := 197) X dX9_init_194 rfl (by decide) rfl rfl rfl rfl cat1_R ?_
  refine s_goto (pc2 := 175) X dX9_init_197 (by decide) ?_
  refine s_sub (lv2 := [(0, vR C.1.1 l0), (1, vR C.1.1 l1), (2, vI 6)]) [1, 2, 0] rfl ?_
  exact z_X9_init_c7 d hd K X l0 l1 p0
set_option maxRecDepth 4000 in
set_option maxHeartbeats 4000000 in
theorem z_X9_init_c5 (d : Nat) (hd : 4 ≤ d) {C : hCx} (K : hCtx C.1 C.2.2.1 d 218 9300 "<init>" C) (X : hOK C cX9_init RX9 3 none) (l0 : Nat) (l1 : Nat) (p0 : 0 < l0) : hSim C none 218 9300 3 175 [(0, vR C.1.1 l0), (1, vR C.1.1 l1), (2, vI 4)] [] 80 5414 (m_X9_init_c5 l0 l1) := by
  obtain ⟨⟨hf, hlo⟩, ⟨hc1, hc2⟩, hf1, hl1⟩ := K_room K (by omega)
  unfold m_X9_init_c5
  refine s_iload_n (j := 2) (pc2 := 176) X dX9_init_175 rfl rfl ?_
  refine s_bipush (n := 6) (pc2 := 178) X dX9_init_176 rfl rfl ?_
  refine s_icgeF (pc2 := 181) (tgt := 200) X dX9_init_178 (by decide) rfl (inI_c 4 rfl) (inI_c 6 rfl) (by decide) ?_
  refine s_aload_n (j := 0) (pc2 := 182) X dX9_init_181 rfl rfl ?_
  refine s_getR (pc2 := 185) X dX9_init_182 rfl fl_RX9_18 rfl (fun v26 => ?_)
  refine s_iload_n (j := 2) (pc2 := 186) X dX9_init_185 rfl rfl ?_
  refine s_new (pc2 := 189) X dX9_init_186 rfl kX3 cl_RX9_16 kdX3 (by rw [hc1]; exact Nat.le_of_ble_eq_true rfl) (by rw [hc2]; exact Nat.le_of_ble_eq_true rfl) (fun v27 => ?_)
  refine s_assert (fun pv27 => ?_)
  refine s_cs 81 5423 rfl rfl ?_
  refine s_dup (pc2 := 190) X dX9_init_189 rfl (vR_cat _ _) ?_
  refine s_callN (d2 := d - 1) (mc2 := 6) (ms2 := 896) (As := []) (st := [vR C.1.1 v27, vI 4, vR C.1.1 v26]) (pc2 := 193) X dX9_init_190 rfl (by decide) rfl im_X3_init rfl (c_X3_init (d - 1) (by omega) C.1 C.2.2.1 v27 pv27) hy_X3_init rfl rfl pv27 hf hlo (st_room (Nat.le_of_ble_eq_true rfl)) ⟨by rw [hc1]; exact Nat.le_of_ble_eq_true rfl, by rw [hc2]; exact Nat.le_of_ble_eq_true rfl⟩ (fun _ => ?_)
  refine s_cs 87 6319 rfl rfl ?_
  refine s_aast24 (pc2 := 194) X dX9_init_193 rfl ?_
  refine s_iincK (j := 2) (y := 5) (pc2 := 197) X dX9_init_194 rfl (by decide) rfl rfl rfl rfl cat1_R ?_
  refine s_goto (pc2 := 175) X dX9_init_197 (by decide) ?_
  refine s_sub (lv2 := [(0, vR C.1.1 l0), (1, vR C.1.1 l1), (2, vI 5)]) [1, 2, 0] rfl ?_
  exact z_X9_init_c6 d hd K X l0 l1 p0
set_option maxRecDepth 4000 in
set_option maxHeartbeats 4000000 in
theorem z_X9_init_c4 (d : Nat) (hd : 4 ≤ d) {C : hCx} (K : hCtx C.1 C.2.2.1 d 218 9300 "<init>" C) (X : hOK C cX9_init RX9 3 none) (l0 : Nat) (l1 : Nat) (p0 : 0 < l0) : hSim C none 218 9300 3 175 [(0, vR C.1.1 l0), (1, vR C.1.1 l1), (2, vI 3)] [] 73 4509 (m_X9_init_c4 l0 l1) := by
  obtain ⟨⟨hf, hlo⟩, ⟨hc1, hc2⟩, hf1, hl1⟩ := K_room K (by omega)
  unfold m_X9_init_c4
  refine s_iload_n (j := 2) (pc2 := 176) X dX9_init_175 rfl rfl ?_
  refine s_bipush (n := 6) (pc2 := 178) X dX9_init_176 rfl rfl ?_
  refine s_icgeF (pc2 := 181) (tgt := 200) X dX9_init_178 (by decide) rfl (inI_c 3 rfl) (inI_c 6 rfl) (by decide) ?_
  refine s_aload_n (j := 0) (pc2 := 182) X dX9_init_181 rfl rfl ?_
  refine s_getR (pc2 := 185) X dX9_init_182 rfl fl_RX9_18 rfl (fun v24 => ?_)
  refine s_iload_n (j := 2) (pc2 := 186) X dX9_init_185 rfl rfl ?_
  refine s_new (pc2 := 189) X dX9_init_186 rfl kX3 cl_RX9_16 kdX3 (by rw [hc1]; exact Nat.le_of_ble_eq_true rfl) (by rw [hc2]; exact Nat.le_of_ble_eq_true rfl) (fun v25 => ?_)
  refine s_assert (fun pv25 => ?_)
  refine s_cs 74 4518 rfl rfl ?_
  refine s_dup (pc2 := 190) X dX9_init_189 rfl (vR_cat _ _) ?_
  refine s_callN (d2 := d - 1) (mc2 := 6) (ms2 := 896) (As := []) (st := [vR C.1.1 v25, vI 3, vR C.1.1 v24]) (pc2 := 193) X dX9_init_190 rfl (by decide) rfl im_X3_init rfl (c_X3_init (d - 1) (by omega) C.1 C.2.2.1 v25 pv25) hy_X3_init rfl rfl pv25 hf hlo (st_room (Nat.le_of_ble_eq_true rfl)) ⟨by rw [hc1]; exact Nat.le_of_ble_eq_true rfl, by rw [hc2]; exact Nat.le_of_ble_eq_true rfl⟩ (fun _ => ?_)
  refine s_cs 80 5414 rfl rfl ?_
  refine s_aast24 (pc2 := 194) X dX9_init_193 rfl ?_
  refine s_iincK (j := 2) (y := 4) (pc2 := 197) X dX9_init_194 rfl (by decide) rfl rfl rfl rfl cat1_R ?_
  refine s_goto (pc2 := 175) X dX9_init_197 (by decide) ?_
  refine s_sub (lv2 := [(0, vR C.1.1 l0), (1, vR C.1.1 l1), (2, vI 4)]) [1, 2, 0] rfl ?_
  exact z_X9_init_c5 d hd K X l0 l1 p0
set_option maxRecDepth 4000 in
set_option maxHeartbeats 4000000 in
theorem z_X9_init_c3 (d : Nat) (hd : 4 ≤ d) {C : hCx} (K : hCtx C.1 C.2.2.1 d 218 9300 "<init>" C) (X : hOK C cX9_init RX9 3 none) (l0 : Nat) (l1 : Nat) (p0 : 0 < l0) : hSim C none 218 9300 3 175 [(0, vR C.1.1 l0), (1, vR C.1.1 l1), (2, vI 2)] [] 66 3604 (m_X9_init_c3 l0 l1) := by
  obtain ⟨⟨hf, hlo⟩, ⟨hc1, hc2⟩, hf1, hl1⟩ := K_room K (by omega)
  unfold m_X9_init_c3
  refine s_iload_n (j := 2) (pc2 := 176) X dX9_init_175 rfl rfl ?_
  refine s_bipush (n := 6) (pc2 := 178) X dX9_init_176 rfl rfl ?_
  refine s_icgeF (pc2 := 181) (tgt := 200) X dX9_init_178 (by decide) rfl (inI_c 2 rfl) (inI_c 6 rfl) (by decide) ?_
  refine s_aload_n (j := 0) (pc2 := 182) X dX9_init_181 rfl rfl ?_
  refine s_getR (pc2 := 185) X dX9_init_182 rfl fl_RX9_18 rfl (fun v22 => ?_)
  refine s_iload_n (j := 2) (pc2 := 186) X dX9_init_185 rfl rfl ?_
  refine s_new (pc2 := 189) X dX9_init_186 rfl kX3 cl_RX9_16 kdX3 (by rw [hc1]; exact Nat.le_of_ble_eq_true rfl) (by rw [hc2]; exact Nat.le_of_ble_eq_true rfl) (fun v23 => ?_)
  refine s_assert (fun pv23 => ?_)
  refine s_cs 67 3613 rfl rfl ?_
  refine s_dup (pc2 := 190) X dX9_init_189 rfl (vR_cat _ _) ?_
  refine s_callN (d2 := d - 1) (mc2 := 6) (ms2 := 896) (As := []) (st := [vR C.1.1 v23, vI 2, vR C.1.1 v22]) (pc2 := 193) X dX9_init_190 rfl (by decide) rfl im_X3_init rfl (c_X3_init (d - 1) (by omega) C.1 C.2.2.1 v23 pv23) hy_X3_init rfl rfl pv23 hf hlo (st_room (Nat.le_of_ble_eq_true rfl)) ⟨by rw [hc1]; exact Nat.le_of_ble_eq_true rfl, by rw [hc2]; exact Nat.le_of_ble_eq_true rfl⟩ (fun _ => ?_)
  refine s_cs 73 4509 rfl rfl ?_
  refine s_aast24 (pc2 := 194) X dX9_init_193 rfl ?_
  refine s_iincK (j := 2) (y := 3) (pc2 := 197) X dX9_init_194 rfl (by decide) rfl rfl rfl rfl cat1_R ?_
  refine s_goto (pc2 := 175) X dX9_init_197 (by decide) ?_
  refine s_sub (lv2 := [(0, vR C.1.1 l0), (1, vR C.1.1 l1), (2, vI 3)]) [1, 2, 0] rfl ?_
  exact z_X9_init_c4 d hd K X l0 l1 p0
set_option maxRecDepth 4000 in
set_option maxHeartbeats 4000000 in
theorem z_X9_init_c2 (d : Nat) (hd : 4 ≤ d) {C : hCx} (K : hCtx C.1 C.2.2.1 d 218 9300 "<init>" C) (X : hOK C cX9_init RX9 3 none) (l0 : Nat) (l1 : Nat) (p0 : 0 < l0) : hSim C none 218 9300 3 175 [(0, vR C.1.1 l0), (1, vR C.1.1 l1), (2, vI 1)] [] 59 2699 (m_X9_init_c2 l0 l1) := by
  obtain ⟨⟨hf, hlo⟩, ⟨hc1, hc2⟩, hf1, hl1⟩ := K_room K (by omega)
  unfold m_X9_init_c2
  refine s_iload_n (j := 2) (pc2 := 176) X dX9_init_175 rfl rfl ?_
  refine s_bipush (n := 6) (pc2 := 178) X dX9_init_176 rfl rfl ?_
  refine s_icgeF (pc2 := 181) (tgt := 200) X dX9_init_178 (by decide) rfl (inI_c 1 rfl) (inI_c 6 rfl) (by decide) ?_
  refine s_aload_n (j := 0) (pc2 := 182) X dX9_init_181 rfl rfl ?_
  refine s_getR (pc2 := 185) X dX9_init_182 rfl fl_RX9_18 rfl (fun v20 => ?_)
  refine s_iload_n (j := 2) (pc2 := 186) X dX9_init_185 rfl rfl ?_
  refine s_new (pc2 := 189) X dX9_init_186 rfl kX3 cl_RX9_16 kdX3 (by rw [hc1]; exact Nat.le_of_ble_eq_true rfl) (by rw [hc2]; exact Nat.le_of_ble_eq_true rfl) (fun v21 => ?_)
  refine s_assert (fun pv21 => ?_)
  refine s_cs 60 2708 rfl rfl ?_
  refine s_dup (pc2 := 190) X dX9_init_189 rfl (vR_cat _ _) ?_
  refine s_callN (d2 := d - 1) (mc2 := 6) (ms2 := 896) (As := []) (st := [vR C.1.1 v21, vI 1, vR C.1.1 v20]) (pc2 := 193) X dX9_init_190 rfl (by decide) rfl im_X3_init rfl (c_X3_init (d - 1) (by omega) C.1 C.2.2.1 v21 pv21) hy_X3_init rfl rfl pv21 hf hlo (st_room (Nat.le_of_ble_eq_true rfl)) ⟨by rw [hc1]; exact Nat.le_of_ble_eq_true rfl, by rw [hc2]; exact Nat.le_of_ble_eq_true rfl⟩ (fun _ => ?_)
  refine s_cs 66 3604 rfl rfl ?_
  refine s_aast24 (pc2 := 194) X dX9_init_193 rfl ?_
  refine s_iincK (j := 2) (y := 2) (pc2 := 197) X dX9_init_194 rfl (by decide) rfl rfl rfl rfl cat1_R ?_
  refine s_goto (pc2 := 175) X dX9_init_197 (by decide) ?_
  refine s_sub (lv2 := [(0, vR C.1.1 l0), (1, vR C.1.1 l1), (2, vI 2)]) [1, 2, 0] rfl ?_
  exact z_X9_init_c3 d hd K X l0 l1 p0
set_option maxRecDepth 4000 in
set_option maxHeartbeats 4000000 in
theorem z_X9_init_c1 (d : Nat) (hd : 4 ≤ d) {C : hCx} (K : hCtx C.1 C.2.2.1 d 218 9300 "<init>" C) (X : hOK C cX9_init RX9 3 none) (l0 : Nat) (l1 : Nat) (p0 : 0 < l0) : hSim C none 218 9300 3 175 [(0, vR C.1.1 l0), (1, vR C.1.1 l1), (2, vI 0)] [] 52 1794 (m_X9_init_c1 l0 l1) := by
  obtain ⟨⟨hf, hlo⟩, ⟨hc1, hc2⟩, hf1, hl1⟩ := K_room K (by omega)
  unfold m_X9_init_c1
  refine s_iload_n (j := 2) (pc2 := 176) X dX9_init_175 rfl rfl ?_
  refine s_bipush (n := 6) (pc2 := 178) X dX9_init_176 rfl rfl ?_
  refine s_icgeF (pc2 := 181) (tgt := 200) X dX9_init_178 (by decide) rfl (inI_c 0 rfl) (inI_c 6 rfl) (by decide) ?_
  refine s_aload_n (j := 0) (pc2 := 182) X dX9_init_181 rfl rfl ?_
  refine s_getR (pc2 := 185) X dX9_init_182 rfl fl_RX9_18 rfl (fun v18 => ?_)
  refine s_iload_n (j := 2) (pc2 := 186) X dX9_init_185 rfl rfl ?_
  refine s_new (pc2 := 189) X dX9_init_186 rfl kX3 cl_RX9_16 kdX3 (by rw [hc1]; exact Nat.le_of_ble_eq_true rfl) (by rw [hc2]; exact Nat.le_of_ble_eq_true rfl) (fun v19 => ?_)
  refine s_assert (fun pv19 => ?_)
  refine s_cs 53 1803 rfl rfl ?_
  refine s_dup (pc2 := 190) X dX9_init_189 rfl (vR_cat _ _) ?_
  refine s_callN (d2 := d - 1) (mc2 := 6) (ms2 := 896) (As := []) (st := [vR C.1.1 v19, vI 0, vR C.1.1 v18]) (pc2 := 193) X dX9_init_190 rfl (by decide) rfl im_X3_init rfl (c_X3_init (d - 1) (by omega) C.1 C.2.2.1 v19 pv19) hy_X3_init rfl rfl pv19 hf hlo (st_room (Nat.le_of_ble_eq_true rfl)) ⟨by rw [hc1]; exact Nat.le_of_ble_eq_true rfl, by rw [hc2]; exact Nat.le_of_ble_eq_true rfl⟩ (fun _ => ?_)
  refine s_cs 59 2699 rfl rfl ?_
  refine s_aast24 (pc2 := 194) X dX9_init_193 rfl ?_
  refine s_iincK (j := 2) (y := 1) (pc2 := 197) X dX9_init_194 rfl (by decide) rfl rfl rfl rfl cat1_R ?_
  refine s_goto (pc2 := 175) X dX9_init_197 (by decide) ?_
  refine s_sub (lv2 := [(0, vR C.1.1 l0), (1, vR C.1.1 l1), (2, vI 1)]) [1, 2, 0] rfl ?_
  exact z_X9_init_c2 d hd K X l0 l1 p0
set_option maxRecDepth 4000 in
set_option maxHeartbeats 20000000 in
theorem z_X9_init (d : Nat) (hd : 4 ≤ d) {C : hCx} (K : hCtx C.1 C.2.2.1 d 218 9300 "<init>" C) (X : hOK C cX9_init RX9 3 none) (l0 : Nat) (p0 : 0 < l0) : hSim C none 218 9300 3 0 [(0, vR C.1.1 l0)] [] 0 0 (m_X9_init l0) := by
  obtain ⟨⟨hf, hlo⟩, ⟨hc1, hc2⟩, hf1, hl1⟩ := K_room K (by omega)
  have hcs : 0 ≤ C.2.2.2.2.1.cells ∧ 0 ≤ C.2.2.2.2.1.slots := ⟨Nat.zero_le _, Nat.zero_le _⟩
  unfold m_X9_init
  refine s_aload_n (j := 0) (pc2 := 1) X dX9_init_0 rfl rfl ?_
  refine s_objI (pc2 := 4) X dX9_init_1 rfl ml_RX9_1 im_objectInit co_objectInit p0 hf1 hl1 (st_room (Nat.le_of_ble_eq_true rfl)) ?_
  refine s_aload_n (j := 0) (pc2 := 5) X dX9_init_4 rfl rfl ?_
  refine s_new (pc2 := 8) X dX9_init_5 rfl kX6 cl_RX9_7 kdX6 (by rw [hc1]; exact Nat.le_of_ble_eq_true rfl) (by rw [hc2]; exact Nat.le_of_ble_eq_true rfl) (fun v1 => ?_)
  refine s_assert (fun pv1 => ?_)
  refine s_cs 1 5 rfl rfl ?_
  refine s_dup (pc2 := 9) X dX9_init_8 rfl (vR_cat _ _) ?_
  refine s_callN (d2 := d - 1) (mc2 := 1) (ms2 := 400) (As := []) (st := [vR C.1.1 v1, vR C.1.1 l0]) (pc2 := 12) X dX9_init_9 rfl (by decide) rfl im_X6_init rfl (c_X6_init (d - 1) (by omega) C.1 C.2.2.1 v1 pv1) hy_X6_init rfl rfl pv1 hf hlo (st_room (Nat.le_of_ble_eq_true rfl)) ⟨by rw [hc1]; exact Nat.le_of_ble_eq_true rfl, by rw [hc2]; exact Nat.le_of_ble_eq_true rfl⟩ (fun _ => ?_)
  refine s_cs 2 405 rfl rfl ?_
  refine s_putR (pc2 := 15) X dX9_init_12 rfl fl_RX9_10 (Or.inr ⟨K.2.2.2, _, rfl, rfl⟩) rfl ?_
  refine s_aload_n (j := 0) (pc2 := 16) X dX9_init_15 rfl rfl ?_
  refine s_bipush (n := 6) (pc2 := 18) X dX9_init_16 rfl rfl ?_
  refine s_anew24 (N := 6) (pc2 := 21) X dX9_init_18 rfl rfl (by decide) cl_RX9_16 (by rw [hc1]; exact Nat.le_of_ble_eq_true rfl) (by rw [hc2]; exact Nat.le_of_ble_eq_true rfl) (fun v2 => ?_)
  refine s_cs 3 411 rfl rfl ?_
  refine s_putR (pc2 := 24) X dX9_init_21 rfl fl_RX9_18 (Or.inr ⟨K.2.2.2, _, rfl, rfl⟩) rfl ?_
  refine s_aload_n (j := 0) (pc2 := 25) X dX9_init_24 rfl rfl ?_
  refine s_iconst (n := 0) (pc2 := 26) X dX9_init_25 rfl ?_
  refine s_putI (pc2 := 29) X dX9_init_26 rfl fl_RX9_22 (Or.inl rfl) rfl (inI_c 0 rfl) ?_
  refine s_aload_n (j := 0) (pc2 := 30) X dX9_init_29 rfl rfl ?_
  refine s_bipush (n := 20) (pc2 := 32) X dX9_init_30 rfl rfl ?_
  refine s_anew25 (N := 20) (pc2 := 35) X dX9_init_32 rfl rfl (by decide) cl_RX9_26 (by rw [hc1]; exact Nat.le_of_ble_eq_true rfl) (by rw [hc2]; exact Nat.le_of_ble_eq_true rfl) (fun v3 => ?_)
  refine s_cs 4 431 rfl rfl ?_
  refine s_putR (pc2 := 38) X dX9_init_35 rfl fl_RX9_28 (Or.inr ⟨K.2.2.2, _, rfl, rfl⟩) rfl ?_
  refine s_aload_n (j := 0) (pc2 := 39) X dX9_init_38 rfl rfl ?_
  refine s_iconst (n := 0) (pc2 := 40) X dX9_init_39 rfl ?_
  refine s_putI (pc2 := 43) X dX9_init_40 rfl fl_RX9_32 (Or.inl rfl) rfl (inI_c 0 rfl) ?_
  refine s_aload_n (j := 0) (pc2 := 44) X dX9_init_43 rfl rfl ?_
  refine s_iconst (n := 0) (pc2 := 45) X dX9_init_44 rfl ?_
  refine s_putI (pc2 := 48) X dX9_init_45 rfl fl_RX9_35 (Or.inl rfl) rfl (inI_c 0 rfl) ?_
  refine s_aload_n (j := 0) (pc2 := 49) X dX9_init_48 rfl rfl ?_
  refine s_iconst (n := 4) (pc2 := 50) X dX9_init_49 rfl ?_
  refine s_anew26 (N := 4) (pc2 := 53) X dX9_init_50 rfl rfl (by decide) cl_RX9_38 (by rw [hc1]; exact Nat.le_of_ble_eq_true rfl) (by rw [hc2]; exact Nat.le_of_ble_eq_true rfl) (fun v4 => ?_)
  refine s_cs 5 435 rfl rfl ?_
  refine s_putR (pc2 := 56) X dX9_init_53 rfl fl_RX9_40 (Or.inr ⟨K.2.2.2, _, rfl, rfl⟩) rfl ?_
  refine s_aload_n (j := 0) (pc2 := 57) X dX9_init_56 rfl rfl ?_
  refine s_lconst (z := 0) (pc2 := 58) X dX9_init_57 rfl rfl ?_
  refine s_putL (pc2 := 61) X dX9_init_58 rfl fl_RX9_44 (Or.inl rfl) rfl (inL_c 0 rfl) ?_
  refine s_aload_n (j := 0) (pc2 := 62) X dX9_init_61 rfl rfl ?_
  refine s_bipush (n := 12) (pc2 := 64) X dX9_init_62 rfl rfl ?_
  refine s_newa21 (N := 12) (pc2 := 66) X dX9_init_64 rfl rfl (by decide) ac_long (by rw [hc1]; exact Nat.le_of_ble_eq_true rfl) (by rw [hc2]; exact Nat.le_of_ble_eq_true rfl) (fun v5 => ?_)
  refine s_cs 6 447 rfl rfl ?_
  refine s_putR (pc2 := 69) X dX9_init_66 rfl fl_RX9_48 (Or.inr ⟨K.2.2.2, _, rfl, rfl⟩) rfl ?_
  refine s_aload_n (j := 0) (pc2 := 70) X dX9_init_69 rfl rfl ?_
  refine s_bipush (n := 8) (pc2 := 72) X dX9_init_70 rfl rfl ?_
  refine s_newa20 (N := 8) (pc2 := 74) X dX9_init_72 rfl rfl (by decide) ac_int (by rw [hc1]; exact Nat.le_of_ble_eq_true rfl) (by rw [hc2]; exact Nat.le_of_ble_eq_true rfl) (fun v6 => ?_)
  refine s_cs 7 455 rfl rfl ?_
  refine s_putR (pc2 := 77) X dX9_init_74 rfl fl_RX9_52 (Or.inr ⟨K.2.2.2, _, rfl, rfl⟩) rfl ?_
  refine s_aload_n (j := 0) (pc2 := 78) X dX9_init_77 rfl rfl ?_
  refine s_bipush (n := 8) (pc2 := 80) X dX9_init_78 rfl rfl ?_
  refine s_newa20 (N := 8) (pc2 := 82) X dX9_init_80 rfl rfl (by decide) ac_int (by rw [hc1]; exact Nat.le_of_ble_eq_true rfl) (by rw [hc2]; exact Nat.le_of_ble_eq_true rfl) (fun v7 => ?_)
  refine s_cs 8 463 rfl rfl ?_
  refine s_putR (pc2 := 85) X dX9_init_82 rfl fl_RX9_56 (Or.inr ⟨K.2.2.2, _, rfl, rfl⟩) rfl ?_
  refine s_aload_n (j := 0) (pc2 := 86) X dX9_init_85 rfl rfl ?_
  refine s_iconst (n := 4) (pc2 := 87) X dX9_init_86 rfl ?_
  refine s_newa20 (N := 4) (pc2 := 89) X dX9_init_87 rfl rfl (by decide) ac_int (by rw [hc1]; exact Nat.le_of_ble_eq_true rfl) (by rw [hc2]; exact Nat.le_of_ble_eq_true rfl) (fun v8 => ?_)
  refine s_cs 9 467 rfl rfl ?_
  refine s_putR (pc2 := 92) X dX9_init_89 rfl fl_RX9_59 (Or.inr ⟨K.2.2.2, _, rfl, rfl⟩) rfl ?_
  refine s_aload_n (j := 0) (pc2 := 93) X dX9_init_92 rfl rfl ?_
  refine s_iconst (n := 4) (pc2 := 94) X dX9_init_93 rfl ?_
  refine s_newa20 (N := 4) (pc2 := 96) X dX9_init_94 rfl rfl (by decide) ac_int (by rw [hc1]; exact Nat.le_of_ble_eq_true rfl) (by rw [hc2]; exact Nat.le_of_ble_eq_true rfl) (fun v9 => ?_)
  refine s_cs 10 471 rfl rfl ?_
  refine s_putR (pc2 := 99) X dX9_init_96 rfl fl_RX9_62 (Or.inr ⟨K.2.2.2, _, rfl, rfl⟩) rfl ?_
  refine s_new (pc2 := 102) X dX9_init_99 rfl kX7 cl_RX9_65 kdX7 (by rw [hc1]; exact Nat.le_of_ble_eq_true rfl) (by rw [hc2]; exact Nat.le_of_ble_eq_true rfl) (fun v10 => ?_)
  refine s_assert (fun pv10 => ?_)
  refine s_cs 11 487 rfl rfl ?_
  refine s_dup (pc2 := 103) X dX9_init_102 rfl (vR_cat _ _) ?_
  refine s_callN (d2 := d - 1) (mc2 := 17) (ms2 := 191) (As := []) (st := [vR C.1.1 v10]) (pc2 := 106) X dX9_init_103 rfl (by decide) rfl im_X7_init rfl (c_X7_init (d - 1) (by omega) C.1 C.2.2.1 v10 pv10) hy_X7_init rfl rfl pv10 hf hlo (st_room (Nat.le_of_ble_eq_true rfl)) ⟨by rw [hc1]; exact Nat.le_of_ble_eq_true rfl, by rw [hc2]; exact Nat.le_of_ble_eq_true rfl⟩ (fun _ => ?_)
  refine s_cs 28 678 rfl rfl ?_
  refine s_astore_n (pc2 := 107) X dX9_init_106 rfl (by decide) rfl rfl cat1_R ?_
  refine s_aload_n (j := 1) (pc2 := 108) X dX9_init_107 rfl rfl ?_
  refine s_new (pc2 := 111) X dX9_init_108 rfl kX4 cl_RX9_26 kdX4 (by rw [hc1]; exact Nat.le_of_ble_eq_true rfl) (by rw [hc2]; exact Nat.le_of_ble_eq_true rfl) (fun v11 => ?_)
  refine s_assert (fun pv11 => ?_)
  refine s_cs 29 684 rfl rfl ?_
  refine s_dup (pc2 := 112) X dX9_init_111 rfl (vR_cat _ _) ?_
  refine s_aload_n (j := 0) (pc2 := 113) X dX9_init_112 rfl rfl ?_
  refine s_callI (d2 := d - 1) (mc2 := 4) (ms2 := 80) (As := [vR C.1.1 v10]) (st := [vR C.1.1 v11, vR C.1.1 l0]) (pc2 := 116) X dX9_init_113 rfl ml_RX9_68 im_X4_init rfl (c_X4_init (d - 1) (by omega) C.1 C.2.2.1 v11 v10 pv11) hy_X4_init rfl rfl pv11 hf hlo (st_room (Nat.le_of_ble_eq_true rfl)) ⟨by rw [hc1]; exact Nat.le_of_ble_eq_true rfl, by rw [hc2]; exact Nat.le_of_ble_eq_true rfl⟩ (fun _ => ?_)
  refine s_cs 33 764 rfl rfl ?_
  refine s_putR (pc2 := 119) X dX9_init_116 rfl fl_RX9_71 (Or.inr ⟨K.2.2.2, _, rfl, rfl⟩) rfl ?_
  refine s_aload_n (j := 1) (pc2 := 120) X dX9_init_119 rfl rfl ?_
  refine s_new (pc2 := 123) X dX9_init_120 rfl kX4 cl_RX9_26 kdX4 (by rw [hc1]; exact Nat.le_of_ble_eq_true rfl) (by rw [hc2]; exact Nat.le_of_ble_eq_true rfl) (fun v12 => ?_)
  refine s_assert (fun pv12 => ?_)
  refine s_cs 34 770 rfl rfl ?_
  refine s_dup (pc2 := 124) X dX9_init_123 rfl (vR_cat _ _) ?_
  refine s_aload_n (j := 0) (pc2 := 125) X dX9_init_124 rfl rfl ?_
  refine s_callI (d2 := d - 1) (mc2 := 4) (ms2 := 80) (As := [vR C.1.1 v10]) (st := [vR C.1.1 v12, vR C.1.1 l0]) (pc2 := 128) X dX9_init_125 rfl ml_RX9_68 im_X4_init rfl (c_X4_init (d - 1) (by omega) C.1 C.2.2.1 v12 v10 pv12) hy_X4_init rfl rfl pv12 hf hlo (st_room (Nat.le_of_ble_eq_true rfl)) ⟨by rw [hc1]; exact Nat.le_of_ble_eq_true rfl, by rw [hc2]; exact Nat.le_of_ble_eq_true rfl⟩ (fun _ => ?_)
  refine s_cs 38 850 rfl rfl ?_
  refine s_putR (pc2 := 131) X dX9_init_128 rfl fl_RX9_75 (Or.inr ⟨K.2.2.2, _, rfl, rfl⟩) rfl ?_
  refine s_aload_n (j := 1) (pc2 := 132) X dX9_init_131 rfl rfl ?_
  refine s_new (pc2 := 135) X dX9_init_132 rfl kX2 cl_RX9_78 kdX2 (by rw [hc1]; exact Nat.le_of_ble_eq_true rfl) (by rw [hc2]; exact Nat.le_of_ble_eq_true rfl) (fun v13 => ?_)
  refine s_assert (fun pv13 => ?_)
  refine s_cs 39 860 rfl rfl ?_
  refine s_dup (pc2 := 136) X dX9_init_135 rfl (vR_cat _ _) ?_
  refine s_aload_n (j := 0) (pc2 := 137) X dX9_init_136 rfl rfl ?_
  refine s_callI (d2 := d - 1) (mc2 := 5) (ms2 := 125) (As := [vR C.1.1 v10]) (st := [vR C.1.1 v13, vR C.1.1 l0]) (pc2 := 140) X dX9_init_137 rfl ml_RX9_80 im_X2_init rfl (c_X2_init (d - 1) (by omega) C.1 C.2.2.1 v13 v10 pv13) hy_X2_init rfl rfl pv13 hf hlo (st_room (Nat.le_of_ble_eq_true rfl)) ⟨by rw [hc1]; exact Nat.le_of_ble_eq_true rfl, by rw [hc2]; exact Nat.le_of_ble_eq_true rfl⟩ (fun _ => ?_)
  refine s_cs 44 985 rfl rfl ?_
  refine s_putR (pc2 := 143) X dX9_init_140 rfl fl_RX9_81 (Or.inr ⟨K.2.2.2, _, rfl, rfl⟩) rfl ?_
  refine s_aload_n (j := 1) (pc2 := 144) X dX9_init_143 rfl rfl ?_
  refine s_new (pc2 := 147) X dX9_init_144 rfl kX8 cl_RX9_85 kdX8 (by rw [hc1]; exact Nat.le_of_ble_eq_true rfl) (by rw [hc2]; exact Nat.le_of_ble_eq_true rfl) (fun v14 => ?_)
  refine s_assert (fun pv14 => ?_)
  refine s_cs 45 989 rfl rfl ?_
  refine s_dup (pc2 := 148) X dX9_init_147 rfl (vR_cat _ _) ?_
  refine s_aload_n (j := 0) (pc2 := 149) X dX9_init_148 rfl rfl ?_
  refine s_getR (pc2 := 152) X dX9_init_149 rfl fl_RX9_87 rfl (fun v15 => ?_)
  refine s_callI (d2 := d - 1) (mc2 := 1) (ms2 := 9) (As := [vR C.1.1 v15]) (st := [vR C.1.1 v14, vR C.1.1 l0]) (pc2 := 155) X dX9_init_152 rfl ml_RX9_91 im_X8_init rfl (c_X8_init (d - 1) (by omega) C.1 C.2.2.1 v14 v15 pv14) hy_X8_init rfl rfl pv14 hf hlo (st_room (Nat.le_of_ble_eq_true rfl)) ⟨by rw [hc1]; exact Nat.le_of_ble_eq_true rfl, by rw [hc2]; exact Nat.le_of_ble_eq_true rfl⟩ (fun _ => ?_)
  refine s_cs 46 998 rfl rfl ?_
  refine s_putR (pc2 := 158) X dX9_init_155 rfl fl_RX9_94 (Or.inr ⟨K.2.2.2, _, rfl, rfl⟩) rfl ?_
  refine s_aload_n (j := 1) (pc2 := 159) X dX9_init_158 rfl rfl ?_
  refine s_new (pc2 := 162) X dX9_init_159 rfl kX5 cl_RX9_98 kdX5 (by rw [hc1]; exact Nat.le_of_ble_eq_true rfl) (by rw [hc2]; exact Nat.le_of_ble_eq_true rfl) (fun v16 => ?_)
  refine s_assert (fun pv16 => ?_)
  refine s_cs 47 1008 rfl rfl ?_
  refine s_dup (pc2 := 163) X dX9_init_162 rfl (vR_cat _ _) ?_
  refine s_aload_n (j := 0) (pc2 := 164) X dX9_init_163 rfl rfl ?_
  refine s_getR (pc2 := 167) X dX9_init_164 rfl fl_RX9_87 rfl (fun v17 => ?_)
  refine s_callI (d2 := d - 1) (mc2 := 5) (ms2 := 786) (As := [vR C.1.1 v17]) (st := [vR C.1.1 v16, vR C.1.1 l0]) (pc2 := 170) X dX9_init_167 rfl ml_RX9_100 im_X5_init rfl (c_X5_init (d - 1) (by omega) C.1 C.2.2.1 v16 v17 pv16) hy_X5_init rfl rfl pv16 hf hlo (st_room (Nat.le_of_ble_eq_true rfl)) ⟨by rw [hc1]; exact Nat.le_of_ble_eq_true rfl, by rw [hc2]; exact Nat.le_of_ble_eq_true rfl⟩ (fun _ => ?_)
  refine s_cs 52 1794 rfl rfl ?_
  refine s_putR (pc2 := 173) X dX9_init_170 rfl fl_RX9_101 (Or.inr ⟨K.2.2.2, _, rfl, rfl⟩) rfl ?_
  refine s_iconst (n := 0) (pc2 := 174) X dX9_init_173 rfl ?_
  refine s_istoreK_n (pc2 := 175) X dX9_init_174 rfl (by decide) rfl rfl cat1_R ?_
  refine s_sub (lv2 := [(0, vR C.1.1 l0), (1, vR C.1.1 v10), (2, vI 0)]) [2, 1, 0] rfl ?_
  exact z_X9_init_c1 d hd K X l0 v10 p0
theorem c_X9_init (d : Nat) (hd : 4 ≤ d) (G : hG) (l : Launch) (l0 : Nat) (p0 : 0 < l0) : hMet G l yX9_init cX9_init 3 none d 218 9300 [vR G.1 l0] (m_X9_init l0) := by
  refine hMet.of (lv := [(0, vR G.1 l0)]) (by decide +kernel) (by simp [lg_sl, vR_cat, vI_cat, vL_cat, vS_cat2, vT_cat2]) (by simp [lv_args, vR_cat, vI_cat, vL_cat, vS_cat2, vT_cat2]) (fun C K X => ?_)
  obtain ⟨rfl, rfl, K⟩ := K
  exact z_X9_init d hd ⟨rfl, rfl, K⟩ X l0 p0
def m_X9_feed (l0 : Nat) (l1 : Int) (l2 : Int) (l3 : Int) (l4 : Int) (l5 : Int) : hM :=
  hgR 9 l0 0 fun v1 =>
  hgI 6 v1 1 fun v2 =>
  hif (((w32 (v2 + 20))) ≤ 400) (
hgR 9 l0 0 fun v3 =>
  hcallV 6 v3 (m_X6_put v3 l1) fun _ =>
  hgR 9 l0 0 fun v4 =>
  hcallV 6 v4 (m_X6_put v4 l2) fun _ =>
  hgR 9 l0 0 fun v5 =>
  hcallV 6 v5 (m_X6_put v5 l3) fun _ =>
  hgR 9 l0 0 fun v6 =>
  hcallV 6 v6 (m_X6_put v6 l4) fun _ =>
  hgR 9 l0 0 fun v7 =>
  hcallV 6 v7 (m_X6_put v7 l5) fun _ =>
  hgR 9 l0 0 fun v8 =>
  hgI 6 v8 1 fun v9 =>
  hret v9) (
hret ((-1)))
set_option maxRecDepth 4000 in
set_option maxHeartbeats 20000000 in
theorem z_X9_feed (d : Nat) (hd : 2 ≤ d) {C : hCx} (K : hCtx C.1 C.2.2.1 d 0 0 "feed" C) (X : hOK C cX9_feed RX9 6 (some .int)) (l0 : Nat) (l1 : Int) (l2 : Int) (l3 : Int) (l4 : Int) (l5 : Int) (h1 : inI l1) (h2 : inI l2) (h3 : inI l3) (h4 : inI l4) (h5 : inI l5) : hSim C (some .int) 0 0 6 0 [(0, vR C.1.1 l0), (1, vI l1), (2, vI l2), (3, vI l3), (4, vI l4), (5, vI l5)] [] 0 0 (m_X9_feed l0 l1 l2 l3 l4 l5) := by
  obtain ⟨⟨hf, hlo⟩, ⟨hc1, hc2⟩, hf1, hl1⟩ := K_room K (by omega)
  have hcs : 0 ≤ C.2.2.2.2.1.cells ∧ 0 ≤ C.2.2.2.2.1.slots := ⟨Nat.zero_le _, Nat.zero_le _⟩
  unfold m_X9_feed
  refine s_aload_n (j := 0) (pc2 := 1) X dX9_feed_0 rfl rfl ?_
  refine s_getR (pc2 := 4) X dX9_feed_1 rfl fl_RX9_10 rfl (fun v1 => ?_)
  refine s_getI (pc2 := 7) X dX9_feed_4 rfl fl_RX9_107 rfl (fun v2 hv2 => ?_)
  refine s_bipush (n := 20) (pc2 := 9) X dX9_feed_7 rfl rfl ?_
  refine s_iadd (pc2 := 10) X dX9_feed_9 rfl ?_
  refine s_sipush (n := 400) (pc2 := 13) X dX9_feed_10 rfl rfl ?_
  refine s_icle (tgt := 18) X dX9_feed_13 (by decide) rfl (w32_in _) (inI_c 400 rfl) ?_ ?_
  · refine s_aload_n (j := 0) (pc2 := 19) X dX9_feed_18 rfl rfl ?_
    refine s_getR (pc2 := 22) X dX9_feed_19 rfl fl_RX9_10 rfl (fun v3 => ?_)
    refine s_iload_n (j := 1) (pc2 := 23) X dX9_feed_22 rfl rfl ?_
    refine s_callVV (d2 := d - 1) (As := [vI l1]) (st := []) (pc2 := 26) X dX9_feed_23 rfl ml_RX9_110 im_X6_put se_X6_put kX6 rfl (c_X6_put (d - 1) (by omega) C.1 C.2.2.1 v3 l1 h1) hy_X6_put rfl rfl hf hlo (st_room (Nat.le_of_ble_eq_true rfl)) hcs (fun _ => ?_)
    refine s_aload_n (j := 0) (pc2 := 27) X dX9_feed_26 rfl rfl ?_
    refine s_getR (pc2 := 30) X dX9_feed_27 rfl fl_RX9_10 rfl (fun v4 => ?_)
    refine s_iload_n (j := 2) (pc2 := 31) X dX9_feed_30 rfl rfl ?_
    refine s_callVV (d2 := d - 1) (As := [vI l2]) (st := []) (pc2 := 34) X dX9_feed_31 rfl ml_RX9_110 im_X6_put se_X6_put kX6 rfl (c_X6_put (d - 1) (by omega) C.1 C.2.2.1 v4 l2 h2) hy_X6_put rfl rfl hf hlo (st_room (Nat.le_of_ble_eq_true rfl)) hcs (fun _ => ?_)
    refine s_aload_n (j := 0) (pc2 := 35) X dX9_feed_34 rfl rfl ?_
    refine s_getR (pc2 := 38) X dX9_feed_35 rfl fl_RX9_10 rfl (fun v5 => ?_)
    refine s_iload_n (j := 3) (pc2 := 39) X dX9_feed_38 rfl rfl ?_
    refine s_callVV (d2 := d - 1) (As := [vI l3]) (st := []) (pc2 := 42) X dX9_feed_39 rfl ml_RX9_110 im_X6_put se_X6_put kX6 rfl (c_X6_put (d - 1) (by omega) C.1 C.2.2.1 v5 l3 h3) hy_X6_put rfl rfl hf hlo (st_room (Nat.le_of_ble_eq_true rfl)) hcs (fun _ => ?_)
    refine s_aload_n (j := 0) (pc2 := 43) X dX9_feed_42 rfl rfl ?_
    refine s_getR (pc2 := 46) X dX9_feed_43 rfl fl_RX9_10 rfl (fun v6 => ?_)
    refine s_iload (j := 4) (pc2 := 48) X dX9_feed_46 rfl rfl ?_
    refine s_callVV (d2 := d - 1) (As := [vI l4]) (st := []) (pc2 := 51) X dX9_feed_48 rfl ml_RX9_110 im_X6_put se_X6_put kX6 rfl (c_X6_put (d - 1) (by omega) C.1 C.2.2.1 v6 l4 h4) hy_X6_put rfl rfl hf hlo (st_room (Nat.le_of_ble_eq_true rfl)) hcs (fun _ => ?_)
    refine s_aload_n (j := 0) (pc2 := 52) X dX9_feed_51 rfl rfl ?_
    refine s_getR (pc2 := 55) X dX9_feed_52 rfl fl_RX9_10 rfl (fun v7 => ?_)
    refine s_iload (j := 5) (pc2 := 57) X dX9_feed_55 rfl rfl ?_
    refine s_callVV (d2 := d - 1) (As := [vI l5]) (st := []) (pc2 := 60) X dX9_feed_57 rfl ml_RX9_110 im_X6_put se_X6_put kX6 rfl (c_X6_put (d - 1) (by omega) C.1 C.2.2.1 v7 l5 h5) hy_X6_put rfl rfl hf hlo (st_room (Nat.le_of_ble_eq_true rfl)) hcs (fun _ => ?_)
    refine s_aload_n (j := 0) (pc2 := 61) X dX9_feed_60 rfl rfl ?_
    refine s_getR (pc2 := 64) X dX9_feed_61 rfl fl_RX9_10 rfl (fun v8 => ?_)
    refine s_getI (pc2 := 67) X dX9_feed_64 rfl fl_RX9_107 rfl (fun v9 hv9 => ?_)
    exact s_iret X dX9_feed_67 hv9
  · refine s_iconst (n := (-1)) (pc2 := 17) X dX9_feed_16 rfl ?_
    exact s_iret X dX9_feed_17 (inI_c (-1) rfl)
theorem c_X9_feed (d : Nat) (hd : 2 ≤ d) (G : hG) (l : Launch) (l0 : Nat) (l1 : Int) (l2 : Int) (l3 : Int) (l4 : Int) (l5 : Int) (h1 : inI l1) (h2 : inI l2) (h3 : inI l3) (h4 : inI l4) (h5 : inI l5) : hMet G l yX9_feed cX9_feed 6 (some .int) d 0 0 [vR G.1 l0, vI l1, vI l2, vI l3, vI l4, vI l5] (m_X9_feed l0 l1 l2 l3 l4 l5) := by
  refine hMet.of (lv := [(0, vR G.1 l0), (1, vI l1), (2, vI l2), (3, vI l3), (4, vI l4), (5, vI l5)]) (by decide +kernel) (by simp [lg_sl, vR_cat, vI_cat, vL_cat, vS_cat2, vT_cat2]) (by simp [lv_args, vR_cat, vI_cat, vL_cat, vS_cat2, vT_cat2]) (fun C K X => ?_)
  obtain ⟨rfl, rfl, K⟩ := K
  exact z_X9_feed d hd ⟨rfl, rfl, K⟩ X l0 l1 l2 l3 l4 l5 h1 h2 h3 h4 h5
def m_X9_end_L15 : hM :=
  hret ((-1))
def m_X9_end (l0 : Nat) (l1 : Int) : hM :=
  hif (l1 < 0) (
m_X9_end_L15) (
hgR 9 l0 0 fun v1 =>
  hgI 6 v1 1 fun v2 =>
  hif (l1 ≤ v2) (
hgR 9 l0 0 fun v3 =>
  hpI 6 v3 1 l1 <|
  hret l1) (
m_X9_end_L15))
set_option maxRecDepth 4000 in
theorem z_X9_end_L15 (d : Nat) (hd : 1 ≤ d) {C : hCx} (K : hCtx C.1 C.2.2.1 d 0 0 "end" C) (X : hOK C cX9_end RX9 2 (some .int)) : hSim C (some .int) 0 0 2 15 [] [] 0 0 (m_X9_end_L15) := by
  obtain ⟨⟨hf, hlo⟩, ⟨hc1, hc2⟩, hf1, hl1⟩ := K_room K (by omega)
  have hcs : 0 ≤ C.2.2.2.2.1.cells ∧ 0 ≤ C.2.2.2.2.1.slots := ⟨Nat.zero_le _, Nat.zero_le _⟩
  unfold m_X9_end_L15
  refine s_iconst (n := (-1)) (pc2 := 16) X dX9_end_15 rfl ?_
  exact s_iret X dX9_end_16 (inI_c (-1) rfl)
set_option maxRecDepth 4000 in
set_option maxHeartbeats 20000000 in
theorem z_X9_end (d : Nat) (hd : 1 ≤ d) {C : hCx} (K : hCtx C.1 C.2.2.1 d 0 0 "end" C) (X : hOK C cX9_end RX9 2 (some .int)) (l0 : Nat) (l1 : Int) (h1 : inI l1) : hSim C (some .int) 0 0 2 0 [(0, vR C.1.1 l0), (1, vI l1)] [] 0 0 (m_X9_end l0 l1) := by
  obtain ⟨⟨hf, hlo⟩, ⟨hc1, hc2⟩, hf1, hl1⟩ := K_room K (by omega)
  have hcs : 0 ≤ C.2.2.2.2.1.cells ∧ 0 ≤ C.2.2.2.2.1.slots := ⟨Nat.zero_le _, Nat.zero_le _⟩
  unfold m_X9_end
  refine s_iload_n (j := 1) (pc2 := 1) X dX9_end_0 rfl rfl ?_
  refine s_iflt (tgt := 15) X dX9_end_1 (by decide) rfl h1 ?_ ?_
  · refine s_sub (lv2 := []) [] rfl ?_
    exact z_X9_end_L15 d hd K X
  · refine s_iload_n (j := 1) (pc2 := 5) X dX9_end_4 rfl rfl ?_
    refine s_aload_n (j := 0) (pc2 := 6) X dX9_end_5 rfl rfl ?_
    refine s_getR (pc2 := 9) X dX9_end_6 rfl fl_RX9_10 rfl (fun v1 => ?_)
    refine s_getI (pc2 := 12) X dX9_end_9 rfl fl_RX9_107 rfl (fun v2 hv2 => ?_)
    refine s_icle (tgt := 17) X dX9_end_12 (by decide) rfl h1 hv2 ?_ ?_
    · refine s_aload_n (j := 0) (pc2 := 18) X dX9_end_17 rfl rfl ?_
      refine s_getR (pc2 := 21) X dX9_end_18 rfl fl_RX9_10 rfl (fun v3 => ?_)
      refine s_iload_n (j := 1) (pc2 := 22) X dX9_end_21 rfl rfl ?_
      refine s_putI (pc2 := 25) X dX9_end_22 rfl fl_RX9_107 (Or.inl rfl) rfl h1 ?_
      refine s_iload_n (j := 1) (pc2 := 26) X dX9_end_25 rfl rfl ?_
      exact s_iret X dX9_end_26 h1
    · refine s_sub (lv2 := []) [] rfl ?_
      exact z_X9_end_L15 d hd K X
theorem c_X9_end (d : Nat) (hd : 1 ≤ d) (G : hG) (l : Launch) (l0 : Nat) (l1 : Int) (h1 : inI l1) : hMet G l yX9_end cX9_end 2 (some .int) d 0 0 [vR G.1 l0, vI l1] (m_X9_end l0 l1) := by
  refine hMet.of (lv := [(0, vR G.1 l0), (1, vI l1)]) (by decide +kernel) (by simp [lg_sl, vR_cat, vI_cat, vL_cat, vS_cat2, vT_cat2]) (by simp [lv_args, vR_cat, vI_cat, vL_cat, vS_cat2, vT_cat2]) (fun C K X => ?_)
  obtain ⟨rfl, rfl, K⟩ := K
  exact z_X9_end d hd ⟨rfl, rfl, K⟩ X l0 l1 h1
def m_X9_forgetActs (l0 : Nat) : hM :=
  hpI 9 l0 6 0 <|
  hpI 9 l0 7 0 <|
  hret 0
set_option maxRecDepth 4000 in
set_option maxHeartbeats 20000000 in
theorem z_X9_forgetActs (d : Nat) (hd : 1 ≤ d) {C : hCx} (K : hCtx C.1 C.2.2.1 d 0 0 "forgetActs" C) (X : hOK C cX9_forgetActs RX9 1 none) (l0 : Nat) : hSim C none 0 0 1 0 [(0, vR C.1.1 l0)] [] 0 0 (m_X9_forgetActs l0) := by
  obtain ⟨⟨hf, hlo⟩, ⟨hc1, hc2⟩, hf1, hl1⟩ := K_room K (by omega)
  have hcs : 0 ≤ C.2.2.2.2.1.cells ∧ 0 ≤ C.2.2.2.2.1.slots := ⟨Nat.zero_le _, Nat.zero_le _⟩
  unfold m_X9_forgetActs
  refine s_aload_n (j := 0) (pc2 := 1) X dX9_forgetActs_0 rfl rfl ?_
  refine s_iconst (n := 0) (pc2 := 2) X dX9_forgetActs_1 rfl ?_
  refine s_putI (pc2 := 5) X dX9_forgetActs_2 rfl fl_RX9_32 (Or.inl rfl) rfl (inI_c 0 rfl) ?_
  refine s_aload_n (j := 0) (pc2 := 6) X dX9_forgetActs_5 rfl rfl ?_
  refine s_iconst (n := 0) (pc2 := 7) X dX9_forgetActs_6 rfl ?_
  refine s_putI (pc2 := 10) X dX9_forgetActs_7 rfl fl_RX9_35 (Or.inl rfl) rfl (inI_c 0 rfl) ?_
  exact s_ret X dX9_forgetActs_10
theorem c_X9_forgetActs (d : Nat) (hd : 1 ≤ d) (G : hG) (l : Launch) (l0 : Nat) : hMet G l yX9_forgetActs cX9_forgetActs 1 none d 0 0 [vR G.1 l0] (m_X9_forgetActs l0) := by
  refine hMet.of (lv := [(0, vR G.1 l0)]) (by decide +kernel) (by simp [lg_sl, vR_cat, vI_cat, vL_cat, vS_cat2, vT_cat2]) (by simp [lv_args, vR_cat, vI_cat, vL_cat, vS_cat2, vT_cat2]) (fun C K X => ?_)
  obtain ⟨rfl, rfl, K⟩ := K
  exact z_X9_forgetActs d hd ⟨rfl, rfl, K⟩ X l0
def m_X9_town (l0 : Nat) : hM :=
  hnew 7 fun v1 =>
  hassert (0 < v1) <|
  hcall (m_X7_init v1) fun _ =>
  hgR 9 l0 0 fun v2 =>
  hcallV 7 v1 (m_X7_read v1 v2) fun _ =>
  hgR 9 l0 0 fun v3 =>
  hpI 6 v3 1 0 <|
  hgR 9 l0 0 fun v4 =>
  hgI 6 v4 4 fun v5 =>
  hif (v5 = 0) (
hgR 9 l0 3 fun v6 =>
  hcallV 4 v6 (m_X4_startIn v6 v1) fun _ =>
  hcallV 9 l0 (m_X9_forgetActs l0) fun _ =>
  hgR 7 v1 2 fun v7 =>
  hgI 1 v7 3 fun v8 =>
  hret v8) (
hgR 9 l0 0 fun v9 =>
  hgI 6 v9 4 fun v10 =>
  hret ((w32 (((-2)) - v10))))
set_option maxRecDepth 4000 in
set_option maxHeartbeats 20000000 in
theorem z_X9_town (d : Nat) (hd : 9 ≤ d) {C : hCx} (K : hCtx C.1 C.2.2.1 d 18 207 "town" C) (X : hOK C cX9_town RX9 2 (some .int)) (l0 : Nat) : hSim C (some .int) 18 207 2 0 [(0, vR C.1.1 l0)] [] 0 0 (m_X9_town l0) := by
  obtain ⟨⟨hf, hlo⟩, ⟨hc1, hc2⟩, hf1, hl1⟩ := K_room K (by omega)
  have hcs : 0 ≤ C.2.2.2.2.1.cells ∧ 0 ≤ C.2.2.2.2.1.slots := ⟨Nat.zero_le _, Nat.zero_le _⟩
  unfold m_X9_town
  refine s_new (pc2 := 3) X dX9_town_0 rfl kX7 cl_RX9_65 kdX7 (by rw [hc1]; exact Nat.le_of_ble_eq_true rfl) (by rw [hc2]; exact Nat.le_of_ble_eq_true rfl) (fun v1 => ?_)
  refine s_assert (fun pv1 => ?_)
  refine s_cs 1 16 rfl rfl ?_
  refine s_dup (pc2 := 4) X dX9_town_3 rfl (vR_cat _ _) ?_
  refine s_callN (d2 := d - 1) (mc2 := 17) (ms2 := 191) (As := []) (st := [vR C.1.1 v1]) (pc2 := 7) X dX9_town_4 rfl (by decide) rfl im_X7_init rfl (c_X7_init (d - 1) (by omega) C.1 C.2.2.1 v1 pv1) hy_X7_init rfl rfl pv1 hf hlo (st_room (Nat.le_of_ble_eq_true rfl)) ⟨by rw [hc1]; exact Nat.le_of_ble_eq_true rfl, by rw [hc2]; exact Nat.le_of_ble_eq_true rfl⟩ (fun _ => ?_)
  refine s_cs 18 207 rfl rfl ?_
  refine s_astore_n (pc2 := 8) X dX9_town_7 rfl (by decide) rfl rfl cat1_R ?_
  refine s_aload_n (j := 0) (pc2 := 9) X dX9_town_8 rfl rfl ?_
  refine s_aload_n (j := 1) (pc2 := 10) X dX9_town_9 rfl rfl ?_
  refine s_getR (pc2 := 13) X dX9_town_10 rfl fl_RX9_10 rfl (fun v2 => ?_)
  refine s_callVV (d2 := d - 1) (As := [vR C.1.1 v2]) (st := []) (pc2 := 16) X dX9_town_13 rfl ml_RX9_114 im_X7_read se_X7_read kX7 rfl (c_X7_read (d - 1) (by omega) C.1 C.2.2.1 v1 v2) hy_X7_read rfl rfl hf hlo (st_room (Nat.le_of_ble_eq_true rfl)) ⟨by rw [hc1]; exact Nat.le_of_ble_eq_true rfl, by rw [hc2]; exact Nat.le_of_ble_eq_true rfl⟩ (fun _ => ?_)
  refine s_aload_n (j := 1) (pc2 := 17) X dX9_town_16 rfl rfl ?_
  refine s_getR (pc2 := 20) X dX9_town_17 rfl fl_RX9_10 rfl (fun v3 => ?_)
  refine s_iconst (n := 0) (pc2 := 21) X dX9_town_20 rfl ?_
  refine s_putI (pc2 := 24) X dX9_town_21 rfl fl_RX9_107 (Or.inl rfl) rfl (inI_c 0 rfl) ?_
  refine s_aload_n (j := 1) (pc2 := 25) X dX9_town_24 rfl rfl ?_
  refine s_getR (pc2 := 28) X dX9_town_25 rfl fl_RX9_10 rfl (fun v4 => ?_)
  refine s_getI (pc2 := 31) X dX9_town_28 rfl fl_RX9_118 rfl (fun v5 hv5 => ?_)
  refine s_ifeq (tgt := 45) X dX9_town_31 (by decide) rfl hv5 ?_ ?_
  · refine s_aload_n (j := 1) (pc2 := 46) X dX9_town_45 rfl rfl ?_
    refine s_getR (pc2 := 49) X dX9_town_46 rfl fl_RX9_71 rfl (fun v6 => ?_)
    refine s_aload_n (j := 0) (pc2 := 50) X dX9_town_49 rfl rfl ?_
    refine s_callVV (d2 := d - 1) (As := [vR C.1.1 v1]) (st := []) (pc2 := 53) X dX9_town_50 rfl ml_RX9_121 im_X4_startIn se_X4_startIn kX4 rfl (c_X4_startIn (d - 1) (by omega) C.1 C.2.2.1 v6 v1) hy_X4_startIn rfl rfl hf hlo (st_room (Nat.le_of_ble_eq_true rfl)) ⟨by rw [hc1]; exact Nat.le_of_ble_eq_true rfl, by rw [hc2]; exact Nat.le_of_ble_eq_true rfl⟩ (fun _ => ?_)
    refine s_aload_n (j := 1) (pc2 := 54) X dX9_town_53 rfl rfl ?_
    refine s_callVV (d2 := d - 1) (As := []) (st := []) (pc2 := 57) X dX9_town_54 rfl ml_RX9_124 im_X9_forgetActs se_X9_forgetActs kX9 rfl (c_X9_forgetActs (d - 1) (by omega) C.1 C.2.2.1 l0) hy_X9_forgetActs rfl rfl hf hlo (st_room (Nat.le_of_ble_eq_true rfl)) ⟨by rw [hc1]; exact Nat.le_of_ble_eq_true rfl, by rw [hc2]; exact Nat.le_of_ble_eq_true rfl⟩ (fun _ => ?_)
    refine s_aload_n (j := 0) (pc2 := 58) X dX9_town_57 rfl rfl ?_
    refine s_getR (pc2 := 61) X dX9_town_58 rfl fl_RX9_87 rfl (fun v7 => ?_)
    refine s_getI (pc2 := 64) X dX9_town_61 rfl fl_RX9_127 rfl (fun v8 hv8 => ?_)
    exact s_iret X dX9_town_64 hv8
  · refine s_bipush (n := (-2)) (pc2 := 36) X dX9_town_34 rfl rfl ?_
    refine s_aload_n (j := 1) (pc2 := 37) X dX9_town_36 rfl rfl ?_
    refine s_getR (pc2 := 40) X dX9_town_37 rfl fl_RX9_10 rfl (fun v9 => ?_)
    refine s_getI (pc2 := 43) X dX9_town_40 rfl fl_RX9_118 rfl (fun v10 hv10 => ?_)
    refine s_isub (pc2 := 44) X dX9_town_43 rfl ?_
    exact s_iret X dX9_town_44 (w32_in _)
theorem c_X9_town (d : Nat) (hd : 9 ≤ d) (G : hG) (l : Launch) (l0 : Nat) : hMet G l yX9_town cX9_town 2 (some .int) d 18 207 [vR G.1 l0] (m_X9_town l0) := by
  refine hMet.of (lv := [(0, vR G.1 l0)]) (by decide +kernel) (by simp [lg_sl, vR_cat, vI_cat, vL_cat, vS_cat2, vT_cat2]) (by simp [lv_args, vR_cat, vI_cat, vL_cat, vS_cat2, vT_cat2]) (fun C K X => ?_)
  obtain ⟨rfl, rfl, K⟩ := K
  exact z_X9_town d hd ⟨rfl, rfl, K⟩ X l0
def m_X9_rule (l0 : Nat) : hM :=
  hgI 9 l0 2 fun v1 =>
  hif (v1 < 6) (
hgR 9 l0 1 fun v2 =>
  hgI 9 l0 2 fun v3 =>
  haR 24 v2 v3 fun v4 =>
  hgR 9 l0 0 fun v5 =>
  hcallV 3 v4 (m_X3_read v4 v5) fun _ =>
  hgR 9 l0 0 fun v6 =>
  hpI 6 v6 1 0 <|
  hgR 9 l0 0 fun v7 =>
  hgI 6 v7 4 fun v8 =>
  hif (v8 = 0) (
hgI 9 l0 2 fun v9 =>
  hpI 9 l0 2 ((w32 (v9 + 1))) <|
  hgI 9 l0 2 fun v10 =>
  hret ((w32 (v10 - 1)))) (
hgR 9 l0 0 fun v11 =>
  hgI 6 v11 4 fun v12 =>
  hret ((w32 (((-2)) - v12))))) (
hret ((-1)))
set_option maxRecDepth 4000 in
set_option maxHeartbeats 20000000 in
theorem z_X9_rule (d : Nat) (hd : 39 ≤ d) {C : hCx} (K : hCtx C.1 C.2.2.1 d 0 0 "rule" C) (X : hOK C cX9_rule RX9 1 (some .int)) (l0 : Nat) : hSim C (some .int) 0 0 1 0 [(0, vR C.1.1 l0)] [] 0 0 (m_X9_rule l0) := by
  obtain ⟨⟨hf, hlo⟩, ⟨hc1, hc2⟩, hf1, hl1⟩ := K_room K (by omega)
  have hcs : 0 ≤ C.2.2.2.2.1.cells ∧ 0 ≤ C.2.2.2.2.1.slots := ⟨Nat.zero_le _, Nat.zero_le _⟩
  unfold m_X9_rule
  refine s_aload_n (j := 0) (pc2 := 1) X dX9_rule_0 rfl rfl ?_
  refine s_getI (pc2 := 4) X dX9_rule_1 rfl fl_RX9_22 rfl (fun v1 hv1 => ?_)
  refine s_bipush (n := 6) (pc2 := 6) X dX9_rule_4 rfl rfl ?_
  refine s_iclt (tgt := 11) X dX9_rule_6 (by decide) rfl hv1 (inI_c 6 rfl) ?_ ?_
  · refine s_aload_n (j := 0) (pc2 := 12) X dX9_rule_11 rfl rfl ?_
    refine s_getR (pc2 := 15) X dX9_rule_12 rfl fl_RX9_18 rfl (fun v2 => ?_)
    refine s_aload_n (j := 0) (pc2 := 16) X dX9_rule_15 rfl rfl ?_
    refine s_getI (pc2 := 19) X dX9_rule_16 rfl fl_RX9_22 rfl (fun v3 hv3 => ?_)
    refine s_aald24 (pc2 := 20) X dX9_rule_19 rfl (fun v4 => ?_)
    refine s_aload_n (j := 0) (pc2 := 21) X dX9_rule_20 rfl rfl ?_
    refine s_getR (pc2 := 24) X dX9_rule_21 rfl fl_RX9_10 rfl (fun v5 => ?_)
    refine s_callVV (d2 := d - 1) (As := [vR C.1.1 v5]) (st := []) (pc2 := 27) X dX9_rule_24 rfl ml_RX9_132 im_X3_read se_X3_read kX3 rfl (c_X3_read (d - 1) (by omega) C.1 C.2.2.1 v4 v5) hy_X3_read rfl rfl hf hlo (st_room (Nat.le_of_ble_eq_true rfl)) hcs (fun _ => ?_)
    refine s_aload_n (j := 0) (pc2 := 28) X dX9_rule_27 rfl rfl ?_
    refine s_getR (pc2 := 31) X dX9_rule_28 rfl fl_RX9_10 rfl (fun v6 => ?_)
    refine s_iconst (n := 0) (pc2 := 32) X dX9_rule_31 rfl ?_
    refine s_putI (pc2 := 35) X dX9_rule_32 rfl fl_RX9_107 (Or.inl rfl) rfl (inI_c 0 rfl) ?_
    refine s_aload_n (j := 0) (pc2 := 36) X dX9_rule_35 rfl rfl ?_
    refine s_getR (pc2 := 39) X dX9_rule_36 rfl fl_RX9_10 rfl (fun v7 => ?_)
    refine s_getI (pc2 := 42) X dX9_rule_39 rfl fl_RX9_118 rfl (fun v8 hv8 => ?_)
    refine s_ifeq (tgt := 56) X dX9_rule_42 (by decide) rfl hv8 ?_ ?_
    · refine s_aload_n (j := 0) (pc2 := 57) X dX9_rule_56 rfl rfl ?_
      refine s_dup (pc2 := 58) X dX9_rule_57 rfl (vR_cat _ _) ?_
      refine s_getI (pc2 := 61) X dX9_rule_58 rfl fl_RX9_22 rfl (fun v9 hv9 => ?_)
      refine s_iconst (n := 1) (pc2 := 62) X dX9_rule_61 rfl ?_
      refine s_iadd (pc2 := 63) X dX9_rule_62 rfl ?_
      refine s_putI (pc2 := 66) X dX9_rule_63 rfl fl_RX9_22 (Or.inl rfl) rfl (w32_in _) ?_
      refine s_aload_n (j := 0) (pc2 := 67) X dX9_rule_66 rfl rfl ?_
      refine s_getI (pc2 := 70) X dX9_rule_67 rfl fl_RX9_22 rfl (fun v10 hv10 => ?_)
      refine s_iconst (n := 1) (pc2 := 71) X dX9_rule_70 rfl ?_
      refine s_isub (pc2 := 72) X dX9_rule_71 rfl ?_
      exact s_iret X dX9_rule_72 (w32_in _)
    · refine s_bipush (n := (-2)) (pc2 := 47) X dX9_rule_45 rfl rfl ?_
      refine s_aload_n (j := 0) (pc2 := 48) X dX9_rule_47 rfl rfl ?_
      refine s_getR (pc2 := 51) X dX9_rule_48 rfl fl_RX9_10 rfl (fun v11 => ?_)
      refine s_getI (pc2 := 54) X dX9_rule_51 rfl fl_RX9_118 rfl (fun v12 hv12 => ?_)
      refine s_isub (pc2 := 55) X dX9_rule_54 rfl ?_
      exact s_iret X dX9_rule_55 (w32_in _)
  · refine s_iconst (n := (-1)) (pc2 := 10) X dX9_rule_9 rfl ?_
    exact s_iret X dX9_rule_10 (inI_c (-1) rfl)
theorem c_X9_rule (d : Nat) (hd : 39 ≤ d) (G : hG) (l : Launch) (l0 : Nat) : hMet G l yX9_rule cX9_rule 1 (some .int) d 0 0 [vR G.1 l0] (m_X9_rule l0) := by
  refine hMet.of (lv := [(0, vR G.1 l0)]) (by decide +kernel) (by simp [lg_sl, vR_cat, vI_cat, vL_cat, vS_cat2, vT_cat2]) (by simp [lv_args, vR_cat, vI_cat, vL_cat, vS_cat2, vT_cat2]) (fun C K X => ?_)
  obtain ⟨rfl, rfl, K⟩ := K
  exact z_X9_rule d hd ⟨rfl, rfl, K⟩ X l0
def m_X9_isPerson_L23 (s0 : Int) : hM :=
  hretZ s0
def m_X9_isPerson_L22 : hM :=
  m_X9_isPerson_L23 0
def m_X9_isPerson (l0 : Nat) (l1 : Int) : hM :=
  hif (l1 < 0) (
m_X9_isPerson_L22) (
hgR 9 l0 3 fun v1 =>
  hgR 4 v1 0 fun v2 =>
  hgI 7 v2 7 fun v3 =>
  hif (l1 ≥ v3) (
m_X9_isPerson_L22) (
m_X9_isPerson_L23 1))
set_option maxRecDepth 4000 in
theorem z_X9_isPerson_L23 (d : Nat) (hd : 1 ≤ d) {C : hCx} (K : hCtx C.1 C.2.2.1 d 0 0 "isPerson" C) (X : hOK C cX9_isPerson RX9 2 (some .boolean)) (s0 : Int) (g0 : inI s0) : hSim C (some .boolean) 0 0 2 23 [] [vI s0] 0 0 (m_X9_isPerson_L23 s0) := by
  obtain ⟨⟨hf, hlo⟩, ⟨hc1, hc2⟩, hf1, hl1⟩ := K_room K (by omega)
  have hcs : 0 ≤ C.2.2.2.2.1.cells ∧ 0 ≤ C.2.2.2.2.1.slots := ⟨Nat.zero_le _, Nat.zero_le _⟩
  unfold m_X9_isPerson_L23
  exact s_zret X dX9_isPerson_23
set_option maxRecDepth 4000 in
theorem z_X9_isPerson_L22 (d : Nat) (hd : 1 ≤ d) {C : hCx} (K : hCtx C.1 C.2.2.1 d 0 0 "isPerson" C) (X : hOK C cX9_isPerson RX9 2 (some .boolean)) : hSim C (some .boolean) 0 0 2 22 [] [] 0 0 (m_X9_isPerson_L22) := by
  obtain ⟨⟨hf, hlo⟩, ⟨hc1, hc2⟩, hf1, hl1⟩ := K_room K (by omega)
  have hcs : 0 ≤ C.2.2.2.2.1.cells ∧ 0 ≤ C.2.2.2.2.1.slots := ⟨Nat.zero_le _, Nat.zero_le _⟩
  unfold m_X9_isPerson_L22
  refine s_iconst (n := 0) (pc2 := 23) X dX9_isPerson_22 rfl ?_
  exact z_X9_isPerson_L23 d hd K X 0 (inI_c 0 rfl)
set_option maxRecDepth 4000 in
set_option maxHeartbeats 20000000 in
theorem z_X9_isPerson (d : Nat) (hd : 1 ≤ d) {C : hCx} (K : hCtx C.1 C.2.2.1 d 0 0 "isPerson" C) (X : hOK C cX9_isPerson RX9 2 (some .boolean)) (l0 : Nat) (l1 : Int) (h1 : inI l1) : hSim C (some .boolean) 0 0 2 0 [(0, vR C.1.1 l0), (1, vI l1)] [] 0 0 (m_X9_isPerson l0 l1) := by
  obtain ⟨⟨hf, hlo⟩, ⟨hc1, hc2⟩, hf1, hl1⟩ := K_room K (by omega)
  have hcs : 0 ≤ C.2.2.2.2.1.cells ∧ 0 ≤ C.2.2.2.2.1.slots := ⟨Nat.zero_le _, Nat.zero_le _⟩
  unfold m_X9_isPerson
  refine s_iload_n (j := 1) (pc2 := 1) X dX9_isPerson_0 rfl rfl ?_
  refine s_iflt (tgt := 22) X dX9_isPerson_1 (by decide) rfl h1 ?_ ?_
  · refine s_sub (lv2 := []) [] rfl ?_
    exact z_X9_isPerson_L22 d hd K X
  · refine s_iload_n (j := 1) (pc2 := 5) X dX9_isPerson_4 rfl rfl ?_
    refine s_aload_n (j := 0) (pc2 := 6) X dX9_isPerson_5 rfl rfl ?_
    refine s_getR (pc2 := 9) X dX9_isPerson_6 rfl fl_RX9_71 rfl (fun v1 => ?_)
    refine s_getR (pc2 := 12) X dX9_isPerson_9 rfl fl_RX9_140 rfl (fun v2 => ?_)
    refine s_getI (pc2 := 15) X dX9_isPerson_12 rfl fl_RX9_185 rfl (fun v3 hv3 => ?_)
    refine s_icge (tgt := 22) X dX9_isPerson_15 (by decide) rfl h1 hv3 ?_ ?_
    · refine s_sub (lv2 := []) [] rfl ?_
      exact z_X9_isPerson_L22 d hd K X
    · refine s_iconst (n := 1) (pc2 := 19) X dX9_isPerson_18 rfl ?_
      refine s_goto (pc2 := 23) X dX9_isPerson_19 (by decide) ?_
      refine s_sub (lv2 := []) [] rfl ?_
      exact z_X9_isPerson_L23 d hd K X 1 (inI_c 1 rfl)
theorem c_X9_isPerson (d : Nat) (hd : 1 ≤ d) (G : hG) (l : Launch) (l0 : Nat) (l1 : Int) (h1 : inI l1) : hMet G l yX9_isPerson cX9_isPerson 2 (some .boolean) d 0 0 [vR G.1 l0, vI l1] (m_X9_isPerson l0 l1) := by
  refine hMet.of (lv := [(0, vR G.1 l0), (1, vI l1)]) (by decide +kernel) (by simp [lg_sl, vR_cat, vI_cat, vL_cat, vS_cat2, vT_cat2]) (by simp [lv_args, vR_cat, vI_cat, vL_cat, vS_cat2, vT_cat2]) (fun C K X => ?_)
  obtain ⟨rfl, rfl, K⟩ := K
  exact z_X9_isPerson d hd ⟨rfl, rfl, K⟩ X l0 l1 h1
def m_X9_person (l0 : Nat) (l1 : Int) (l2 : Int) : hM :=
  hcallV 9 l0 (m_X9_isPerson l0 l1) fun v1 =>
  hif (v1 ≠ 0) (
hif (l2 = 0) (
hgR 9 l0 3 fun v2 =>
  hgR 4 v2 2 fun v3 =>
  haI 20 v3 l1 fun v4 =>
  hret v4) <|
  hif (l2 = 1) (
hgR 9 l0 3 fun v5 =>
  hgR 4 v5 0 fun v6 =>
  hgR 7 v6 8 fun v7 =>
  haI 20 v7 l1 fun v8 =>
  hret v8) <|
  hif (l2 = 2) (
hgR 9 l0 3 fun v9 =>
  hgR 4 v9 3 fun v10 =>
  haI 20 v10 l1 fun v11 =>
  hret v11) <|
  hif (l2 = 3) (
hgR 9 l0 3 fun v12 =>
  hcallV 4 v12 (m_X4_reachOf v12 l1 ((-1))) fun v13 =>
  hret v13) <|
  hif (l2 = 4) (
hgR 9 l0 3 fun v14 =>
  hcallV 4 v14 (m_X4_lostBy v14 l1) fun v15 =>
  hret v15) <|
  hif (l2 = 5) (
hgR 9 l0 3 fun v16 =>
  hcallV 4 v16 (m_X4_goalOf v16 l1) fun v17 =>
  hret v17) <|
  hret ((-1))) (
hret ((-1)))
set_option maxRecDepth 4000 in
set_option maxHeartbeats 20000000 in
theorem z_X9_person (d : Nat) (hd : 3 ≤ d) {C : hCx} (K : hCtx C.1 C.2.2.1 d 0 0 "person" C) (X : hOK C cX9_person RX9 3 (some .int)) (l0 : Nat) (l1 : Int) (l2 : Int) (h1 : inI l1) (h2 : inI l2) : hSim C (some .int) 0 0 3 0 [(0, vR C.1.1 l0), (1, vI l1), (2, vI l2)] [] 0 0 (m_X9_person l0 l1 l2) := by
  obtain ⟨⟨hf, hlo⟩, ⟨hc1, hc2⟩, hf1, hl1⟩ := K_room K (by omega)
  have hcs : 0 ≤ C.2.2.2.2.1.cells ∧ 0 ≤ C.2.2.2.2.1.slots := ⟨Nat.zero_le _, Nat.zero_le _⟩
  unfold m_X9_person
  refine s_aload_n (j := 0) (pc2 := 1) X dX9_person_0 rfl rfl ?_
  refine s_iload_n (j := 1) (pc2 := 2) X dX9_person_1 rfl rfl ?_
  refine s_callVZ (d2 := d - 1) (As := [vI l1]) (st := []) (pc2 := 5) X dX9_person_2 rfl ml_RX9_133 im_X9_isPerson se_X9_isPerson kX9 rfl (c_X9_isPerson (d - 1) (by omega) C.1 C.2.2.1 l0 l1 h1) hy_X9_isPerson rfl rfl hf hlo (st_room (Nat.le_of_ble_eq_true rfl)) hcs (fun v1 hv1 => ?_)
  refine s_ifne (tgt := 10) X dX9_person_5 (by decide) rfl hv1 ?_ ?_
  · refine s_iload_n (j := 2) (pc2 := 11) X dX9_person_10 rfl rfl ?_
    refine s_split (fun e11_0 => ?_) (fun e11_0 => ?_)
    · refine s_tsin (tgt := 48) 0 X dX9_person_11 e11_0 (inI_c 0 rfl) (by decide) (by decide) rfl (by decide) ?_
      refine s_aload_n (j := 0) (pc2 := 49) X dX9_person_48 rfl rfl ?_
      refine s_getR (pc2 := 52) X dX9_person_49 rfl fl_RX9_71 rfl (fun v2 => ?_)
      refine s_getR (pc2 := 55) X dX9_person_52 rfl fl_RX9_137 rfl (fun v3 => ?_)
      refine s_iload_n (j := 1) (pc2 := 56) X dX9_person_55 rfl rfl ?_
      refine s_iald (pc2 := 57) X dX9_person_56 rfl (fun v4 hv4 => ?_)
      exact s_iret X dX9_person_57 hv4
    refine s_split (fun e11_1 => ?_) (fun e11_1 => ?_)
    · refine s_tsin (tgt := 58) 1 X dX9_person_11 e11_1 (inI_c 1 rfl) (by decide) (by decide) rfl (by decide) ?_
      refine s_aload_n (j := 0) (pc2 := 59) X dX9_person_58 rfl rfl ?_
      refine s_getR (pc2 := 62) X dX9_person_59 rfl fl_RX9_71 rfl (fun v5 => ?_)
      refine s_getR (pc2 := 65) X dX9_person_62 rfl fl_RX9_140 rfl (fun v6 => ?_)
      refine s_getR (pc2 := 68) X dX9_person_65 rfl fl_RX9_144 rfl (fun v7 => ?_)
      refine s_iload_n (j := 1) (pc2 := 69) X dX9_person_68 rfl rfl ?_
      refine s_iald (pc2 := 70) X dX9_person_69 rfl (fun v8 hv8 => ?_)
      exact s_iret X dX9_person_70 hv8
    refine s_split (fun e11_2 => ?_) (fun e11_2 => ?_)
    · refine s_tsin (tgt := 71) 2 X dX9_person_11 e11_2 (inI_c 2 rfl) (by decide) (by decide) rfl (by decide) ?_
      refine s_aload_n (j := 0) (pc2 := 72) X dX9_person_71 rfl rfl ?_
      refine s_getR (pc2 := 75) X dX9_person_72 rfl fl_RX9_71 rfl (fun v9 => ?_)
      refine s_getR (pc2 := 78) X dX9_person_75 rfl fl_RX9_147 rfl (fun v10 => ?_)
      refine s_iload_n (j := 1) (pc2 := 79) X dX9_person_78 rfl rfl ?_
      refine s_iald (pc2 := 80) X dX9_person_79 rfl (fun v11 hv11 => ?_)
      exact s_iret X dX9_person_80 hv11
    refine s_split (fun e11_3 => ?_) (fun e11_3 => ?_)
    · refine s_tsin (tgt := 81) 3 X dX9_person_11 e11_3 (inI_c 3 rfl) (by decide) (by decide) rfl (by decide) ?_
      refine s_aload_n (j := 0) (pc2 := 82) X dX9_person_81 rfl rfl ?_
      refine s_getR (pc2 := 85) X dX9_person_82 rfl fl_RX9_71 rfl (fun v12 => ?_)
      refine s_iload_n (j := 1) (pc2 := 86) X dX9_person_85 rfl rfl ?_
      refine s_iconst (n := (-1)) (pc2 := 87) X dX9_person_86 rfl ?_
      refine s_callVI (d2 := d - 1) (As := [vI l1, vI ((-1))]) (st := []) (pc2 := 90) X dX9_person_87 rfl ml_RX9_150 im_X4_reachOf se_X4_reachOf kX4 rfl (c_X4_reachOf (d - 1) (by omega) C.1 C.2.2.1 v12 l1 ((-1)) h1 (inI_c (-1) rfl)) hy_X4_reachOf rfl rfl hf hlo (st_room (Nat.le_of_ble_eq_true rfl)) hcs (fun v13 hv13 => ?_)
      exact s_iret X dX9_person_90 hv13
    refine s_split (fun e11_4 => ?_) (fun e11_4 => ?_)
    · refine s_tsin (tgt := 91) 4 X dX9_person_11 e11_4 (inI_c 4 rfl) (by decide) (by decide) rfl (by decide) ?_
      refine s_aload_n (j := 0) (pc2 := 92) X dX9_person_91 rfl rfl ?_
      refine s_getR (pc2 := 95) X dX9_person_92 rfl fl_RX9_71 rfl (fun v14 => ?_)
      refine s_iload_n (j := 1) (pc2 := 96) X dX9_person_95 rfl rfl ?_
      refine s_callVI (d2 := d - 1) (As := [vI l1]) (st := []) (pc2 := 99) X dX9_person_96 rfl ml_RX9_154 im_X4_lostBy se_X4_lostBy kX4 rfl (c_X4_lostBy (d - 1) (by omega) C.1 C.2.2.1 v14 l1 h1) hy_X4_lostBy rfl rfl hf hlo (st_room (Nat.le_of_ble_eq_true rfl)) hcs (fun v15 hv15 => ?_)
      exact s_iret X dX9_person_99 hv15
    refine s_split (fun e11_5 => ?_) (fun e11_5 => ?_)
    · refine s_tsin (tgt := 100) 5 X dX9_person_11 e11_5 (inI_c 5 rfl) (by decide) (by decide) rfl (by decide) ?_
      refine s_aload_n (j := 0) (pc2 := 101) X dX9_person_100 rfl rfl ?_
      refine s_getR (pc2 := 104) X dX9_person_101 rfl fl_RX9_71 rfl (fun v16 => ?_)
      refine s_iload_n (j := 1) (pc2 := 105) X dX9_person_104 rfl rfl ?_
      refine s_callVI (d2 := d - 1) (As := [vI l1]) (st := []) (pc2 := 108) X dX9_person_105 rfl ml_RX9_158 im_X4_goalOf se_X4_goalOf kX4 rfl (c_X4_goalOf (d - 1) (by omega) C.1 C.2.2.1 v16 l1 h1) hy_X4_goalOf rfl rfl hf hlo (st_room (Nat.le_of_ble_eq_true rfl)) hcs (fun v17 hv17 => ?_)
      exact s_iret X dX9_person_108 hv17
    refine s_tsout (tgt := 109) X dX9_person_11 h2 (by omega) (by decide) ?_
    refine s_iconst (n := (-1)) (pc2 := 110) X dX9_person_109 rfl ?_
    exact s_iret X dX9_person_110 (inI_c (-1) rfl)
  · refine s_iconst (n := (-1)) (pc2 := 9) X dX9_person_8 rfl ?_
    exact s_iret X dX9_person_9 (inI_c (-1) rfl)
theorem c_X9_person (d : Nat) (hd : 3 ≤ d) (G : hG) (l : Launch) (l0 : Nat) (l1 : Int) (l2 : Int) (h1 : inI l1) (h2 : inI l2) : hMet G l yX9_person cX9_person 3 (some .int) d 0 0 [vR G.1 l0, vI l1, vI l2] (m_X9_person l0 l1 l2) := by
  refine hMet.of (lv := [(0, vR G.1 l0), (1, vI l1), (2, vI l2)]) (by decide +kernel) (by simp [lg_sl, vR_cat, vI_cat, vL_cat, vS_cat2, vT_cat2]) (by simp [lv_args, vR_cat, vI_cat, vL_cat, vS_cat2, vT_cat2]) (fun C K X => ?_)
  obtain ⟨rfl, rfl, K⟩ := K
  exact z_X9_person d hd ⟨rfl, rfl, K⟩ X l0 l1 l2 h1 h2
def m_X9_isBridge_L26 (s0 : Int) : hM :=
  hretZ s0
def m_X9_isBridge_L25 : hM :=
  m_X9_isBridge_L26 0
def m_X9_isBridge (l0 : Nat) (l1 : Int) : hM :=
  hif (l1 < 0) (
m_X9_isBridge_L25) (
hgR 9 l0 3 fun v1 =>
  hgR 4 v1 0 fun v2 =>
  hgR 7 v2 2 fun v3 =>
  hgI 1 v3 3 fun v4 =>
  hif (l1 ≥ v4) (
m_X9_isBridge_L25) (
m_X9_isBridge_L26 1))
set_option maxRecDepth 4000 in
theorem z_X9_isBridge_L26 (d : Nat) (hd : 1 ≤ d) {C : hCx} (K : hCtx C.1 C.2.2.1 d 0 0 "isBridge" C) (X : hOK C cX9_isBridge RX9 2 (some .boolean)) (s0 : Int) (g0 : inI s0) : hSim C (some .boolean) 0 0 2 26 [] [vI s0] 0 0 (m_X9_isBridge_L26 s0) := by
  obtain ⟨⟨hf, hlo⟩, ⟨hc1, hc2⟩, hf1, hl1⟩ := K_room K (by omega)
  have hcs : 0 ≤ C.2.2.2.2.1.cells ∧ 0 ≤ C.2.2.2.2.1.slots := ⟨Nat.zero_le _, Nat.zero_le _⟩
  unfold m_X9_isBridge_L26
  exact s_zret X dX9_isBridge_26
set_option maxRecDepth 4000 in
theorem z_X9_isBridge_L25 (d : Nat) (hd : 1 ≤ d) {C : hCx} (K : hCtx C.1 C.2.2.1 d 0 0 "isBridge" C) (X : hOK C cX9_isBridge RX9 2 (some .boolean)) : hSim C (some .boolean) 0 0 2 25 [] [] 0 0 (m_X9_isBridge_L25) := by
  obtain ⟨⟨hf, hlo⟩, ⟨hc1, hc2⟩, hf1, hl1⟩ := K_room K (by omega)
  have hcs : 0 ≤ C.2.2.2.2.1.cells ∧ 0 ≤ C.2.2.2.2.1.slots := ⟨Nat.zero_le _, Nat.zero_le _⟩
  unfold m_X9_isBridge_L25
  refine s_iconst (n := 0) (pc2 := 26) X dX9_isBridge_25 rfl ?_
  exact z_X9_isBridge_L26 d hd K X 0 (inI_c 0 rfl)
set_option maxRecDepth 4000 in
set_option maxHeartbeats 20000000 in
theorem z_X9_isBridge (d : Nat) (hd : 1 ≤ d) {C : hCx} (K : hCtx C.1 C.2.2.1 d 0 0 "isBridge" C) (X : hOK C cX9_isBridge RX9 2 (some .boolean)) (l0 : Nat) (l1 : Int) (h1 : inI l1) : hSim C (some .boolean) 0 0 2 0 [(0, vR C.1.1 l0), (1, vI l1)] [] 0 0 (m_X9_isBridge l0 l1) := by
  obtain ⟨⟨hf, hlo⟩, ⟨hc1, hc2⟩, hf1, hl1⟩ := K_room K (by omega)
  have hcs : 0 ≤ C.2.2.2.2.1.cells ∧ 0 ≤ C.2.2.2.2.1.slots := ⟨Nat.zero_le _, Nat.zero_le _⟩
  unfold m_X9_isBridge
  refine s_iload_n (j := 1) (pc2 := 1) X dX9_isBridge_0 rfl rfl ?_
  refine s_iflt (tgt := 25) X dX9_isBridge_1 (by decide) rfl h1 ?_ ?_
  · refine s_sub (lv2 := []) [] rfl ?_
    exact z_X9_isBridge_L25 d hd K X
  · refine s_iload_n (j := 1) (pc2 := 5) X dX9_isBridge_4 rfl rfl ?_
    refine s_aload_n (j := 0) (pc2 := 6) X dX9_isBridge_5 rfl rfl ?_
    refine s_getR (pc2 := 9) X dX9_isBridge_6 rfl fl_RX9_71 rfl (fun v1 => ?_)
    refine s_getR (pc2 := 12) X dX9_isBridge_9 rfl fl_RX9_140 rfl (fun v2 => ?_)
    refine s_getR (pc2 := 15) X dX9_isBridge_12 rfl fl_RX9_87 rfl (fun v3 => ?_)
    refine s_getI (pc2 := 18) X dX9_isBridge_15 rfl fl_RX9_127 rfl (fun v4 hv4 => ?_)
    refine s_icge (tgt := 25) X dX9_isBridge_18 (by decide) rfl h1 hv4 ?_ ?_
    · refine s_sub (lv2 := []) [] rfl ?_
      exact z_X9_isBridge_L25 d hd K X
    · refine s_iconst (n := 1) (pc2 := 22) X dX9_isBridge_21 rfl ?_
      refine s_goto (pc2 := 26) X dX9_isBridge_22 (by decide) ?_
      refine s_sub (lv2 := []) [] rfl ?_
      exact z_X9_isBridge_L26 d hd K X 1 (inI_c 1 rfl)
theorem c_X9_isBridge (d : Nat) (hd : 1 ≤ d) (G : hG) (l : Launch) (l0 : Nat) (l1 : Int) (h1 : inI l1) : hMet G l yX9_isBridge cX9_isBridge 2 (some .boolean) d 0 0 [vR G.1 l0, vI l1] (m_X9_isBridge l0 l1) := by
  refine hMet.of (lv := [(0, vR G.1 l0), (1, vI l1)]) (by decide +kernel) (by simp [lg_sl, vR_cat, vI_cat, vL_cat, vS_cat2, vT_cat2]) (by simp [lv_args, vR_cat, vI_cat, vL_cat, vS_cat2, vT_cat2]) (fun C K X => ?_)
  obtain ⟨rfl, rfl, K⟩ := K
  exact z_X9_isBridge d hd ⟨rfl, rfl, K⟩ X l0 l1 h1
def m_X9_left_L16 : hM :=
  hret ((-1))
def m_X9_left (l0 : Nat) (l1 : Int) (l2 : Int) : hM :=
  hcallV 9 l0 (m_X9_isPerson l0 l1) fun v1 =>
  hif (v1 = 0) (
m_X9_left_L16) (
hcallV 9 l0 (m_X9_isBridge l0 l2) fun v2 =>
  hif (v2 ≠ 0) (
hgR 9 l0 3 fun v3 =>
  hcallV 4 v3 (m_X4_leftTo v3 l1 l2) fun v4 =>
  hret v4) (
m_X9_left_L16))
set_option maxRecDepth 4000 in
theorem z_X9_left_L16 (d : Nat) (hd : 2 ≤ d) {C : hCx} (K : hCtx C.1 C.2.2.1 d 0 0 "left" C) (X : hOK C cX9_left RX9 3 (some .int)) : hSim C (some .int) 0 0 3 16 [] [] 0 0 (m_X9_left_L16) := by
  obtain ⟨⟨hf, hlo⟩, ⟨hc1, hc2⟩, hf1, hl1⟩ := K_room K (by omega)
  have hcs : 0 ≤ C.2.2.2.2.1.cells ∧ 0 ≤ C.2.2.2.2.1.slots := ⟨Nat.zero_le _, Nat.zero_le _⟩
  unfold m_X9_left_L16
  refine s_iconst (n := (-1)) (pc2 := 17) X dX9_left_16 rfl ?_
  exact s_iret X dX9_left_17 (inI_c (-1) rfl)
set_option maxRecDepth 4000 in
set_option maxHeartbeats 20000000 in
theorem z_X9_left (d : Nat) (hd : 2 ≤ d) {C : hCx} (K : hCtx C.1 C.2.2.1 d 0 0 "left" C) (X : hOK C cX9_left RX9 3 (some .int)) (l0 : Nat) (l1 : Int) (l2 : Int) (h1 : inI l1) (h2 : inI l2) : hSim C (some .int) 0 0 3 0 [(0, vR C.1.1 l0), (1, vI l1), (2, vI l2)] [] 0 0 (m_X9_left l0 l1 l2) := by
  obtain ⟨⟨hf, hlo⟩, ⟨hc1, hc2⟩, hf1, hl1⟩ := K_room K (by omega)
  have hcs : 0 ≤ C.2.2.2.2.1.cells ∧ 0 ≤ C.2.2.2.2.1.slots := ⟨Nat.zero_le _, Nat.zero_le _⟩
  unfold m_X9_left
  refine s_aload_n (j := 0) (pc2 := 1) X dX9_left_0 rfl rfl ?_
  refine s_iload_n (j := 1) (pc2 := 2) X dX9_left_1 rfl rfl ?_
  refine s_callVZ (d2 := d - 1) (As := [vI l1]) (st := []) (pc2 := 5) X dX9_left_2 rfl ml_RX9_133 im_X9_isPerson se_X9_isPerson kX9 rfl (c_X9_isPerson (d - 1) (by omega) C.1 C.2.2.1 l0 l1 h1) hy_X9_isPerson rfl rfl hf hlo (st_room (Nat.le_of_ble_eq_true rfl)) hcs (fun v1 hv1 => ?_)
  refine s_ifeq (tgt := 16) X dX9_left_5 (by decide) rfl hv1 ?_ ?_
  · refine s_sub (lv2 := []) [] rfl ?_
    exact z_X9_left_L16 d hd K X
  · refine s_aload_n (j := 0) (pc2 := 9) X dX9_left_8 rfl rfl ?_
    refine s_iload_n (j := 2) (pc2 := 10) X dX9_left_9 rfl rfl ?_
    refine s_callVZ (d2 := d - 1) (As := [vI l2]) (st := []) (pc2 := 13) X dX9_left_10 rfl ml_RX9_161 im_X9_isBridge se_X9_isBridge kX9 rfl (c_X9_isBridge (d - 1) (by omega) C.1 C.2.2.1 l0 l2 h2) hy_X9_isBridge rfl rfl hf hlo (st_room (Nat.le_of_ble_eq_true rfl)) hcs (fun v2 hv2 => ?_)
    refine s_ifne (tgt := 18) X dX9_left_13 (by decide) rfl hv2 ?_ ?_
    · refine s_aload_n (j := 0) (pc2 := 19) X dX9_left_18 rfl rfl ?_
      refine s_getR (pc2 := 22) X dX9_left_19 rfl fl_RX9_71 rfl (fun v3 => ?_)
      refine s_iload_n (j := 1) (pc2 := 23) X dX9_left_22 rfl rfl ?_
      refine s_iload_n (j := 2) (pc2 := 24) X dX9_left_23 rfl rfl ?_
      refine s_callVI (d2 := d - 1) (As := [vI l1, vI l2]) (st := []) (pc2 := 27) X dX9_left_24 rfl ml_RX9_164 im_X4_leftTo se_X4_leftTo kX4 rfl (c_X4_leftTo (d - 1) (by omega) C.1 C.2.2.1 v3 l1 l2 h1 h2) hy_X4_leftTo rfl rfl hf hlo (st_room (Nat.le_of_ble_eq_true rfl)) hcs (fun v4 hv4 => ?_)
      exact s_iret X dX9_left_27 hv4
    · refine s_sub (lv2 := []) [] rfl ?_
      exact z_X9_left_L16 d hd K X
theorem c_X9_left (d : Nat) (hd : 2 ≤ d) (G : hG) (l : Launch) (l0 : Nat) (l1 : Int) (l2 : Int) (h1 : inI l1) (h2 : inI l2) : hMet G l yX9_left cX9_left 3 (some .int) d 0 0 [vR G.1 l0, vI l1, vI l2] (m_X9_left l0 l1 l2) := by
  refine hMet.of (lv := [(0, vR G.1 l0), (1, vI l1), (2, vI l2)]) (by decide +kernel) (by simp [lg_sl, vR_cat, vI_cat, vL_cat, vS_cat2, vT_cat2]) (by simp [lv_args, vR_cat, vI_cat, vL_cat, vS_cat2, vT_cat2]) (fun C K X => ?_)
  obtain ⟨rfl, rfl, K⟩ := K
  exact z_X9_left d hd ⟨rfl, rfl, K⟩ X l0 l1 l2 h1 h2
def m_X9_bridge (l0 : Nat) (l1 : Int) (l2 : Int) : hM :=
  hcallV 9 l0 (m_X9_isBridge l0 l1) fun v1 =>
  hif (v1 ≠ 0) (
hif (l2 = 0) (
hgR 9 l0 3 fun v2 =>
  hgR 4 v2 0 fun v3 =>
  hgR 7 v3 2 fun v4 =>
  hgR 1 v4 0 fun v5 =>
  haI 20 v5 l1 fun v6 =>
  hret v6) <|
  hif (l2 = 1) (
hgR 9 l0 3 fun v7 =>
  hgR 4 v7 0 fun v8 =>
  hgR 7 v8 2 fun v9 =>
  hgR 1 v9 1 fun v10 =>
  haI 20 v10 l1 fun v11 =>
  hret v11) <|
  hif (l2 = 2) (
hgR 9 l0 3 fun v12 =>
  hcallV 4 v12 (m_X4_crossedByAll v12 l1) fun v13 =>
  hret v13) <|
  hret ((-1))) (
hret ((-1)))
set_option maxRecDepth 4000 in
set_option maxHeartbeats 20000000 in
theorem z_X9_bridge (d : Nat) (hd : 2 ≤ d) {C : hCx} (K : hCtx C.1 C.2.2.1 d 0 0 "bridge" C) (X : hOK C cX9_bridge RX9 3 (some .int)) (l0 : Nat) (l1 : Int) (l2 : Int) (h1 : inI l1) (h2 : inI l2) : hSim C (some .int) 0 0 3 0 [(0, vR C.1.1 l0), (1, vI l1), (2, vI l2)] [] 0 0 (m_X9_bridge l0 l1 l2) := by
  obtain ⟨⟨hf, hlo⟩, ⟨hc1, hc2⟩, hf1, hl1⟩ := K_room K (by omega)
  have hcs : 0 ≤ C.2.2.2.2.1.cells ∧ 0 ≤ C.2.2.2.2.1.slots := ⟨Nat.zero_le _, Nat.zero_le _⟩
  unfold m_X9_bridge
  refine s_aload_n (j := 0) (pc2 := 1) X dX9_bridge_0 rfl rfl ?_
  refine s_iload_n (j := 1) (pc2 := 2) X dX9_bridge_1 rfl rfl ?_
  refine s_callVZ (d2 := d - 1) (As := [vI l1]) (st := []) (pc2 := 5) X dX9_bridge_2 rfl ml_RX9_161 im_X9_isBridge se_X9_isBridge kX9 rfl (c_X9_isBridge (d - 1) (by omega) C.1 C.2.2.1 l0 l1 h1) hy_X9_isBridge rfl rfl hf hlo (st_room (Nat.le_of_ble_eq_true rfl)) hcs (fun v1 hv1 => ?_)
  refine s_ifne (tgt := 10) X dX9_bridge_5 (by decide) rfl hv1 ?_ ?_
  · refine s_iload_n (j := 2) (pc2 := 11) X dX9_bridge_10 rfl rfl ?_
    refine s_split (fun e11_0 => ?_) (fun e11_0 => ?_)
    · refine s_tsin (tgt := 36) 0 X dX9_bridge_11 e11_0 (inI_c 0 rfl) (by decide) (by decide) rfl (by decide) ?_
      refine s_aload_n (j := 0) (pc2 := 37) X dX9_bridge_36 rfl rfl ?_
      refine s_getR (pc2 := 40) X dX9_bridge_37 rfl fl_RX9_71 rfl (fun v2 => ?_)
      refine s_getR (pc2 := 43) X dX9_bridge_40 rfl fl_RX9_140 rfl (fun v3 => ?_)
      refine s_getR (pc2 := 46) X dX9_bridge_43 rfl fl_RX9_87 rfl (fun v4 => ?_)
      refine s_getR (pc2 := 49) X dX9_bridge_46 rfl fl_RX9_167 rfl (fun v5 => ?_)
      refine s_iload_n (j := 1) (pc2 := 50) X dX9_bridge_49 rfl rfl ?_
      refine s_iald (pc2 := 51) X dX9_bridge_50 rfl (fun v6 hv6 => ?_)
      exact s_iret X dX9_bridge_51 hv6
    refine s_split (fun e11_1 => ?_) (fun e11_1 => ?_)
    · refine s_tsin (tgt := 52) 1 X dX9_bridge_11 e11_1 (inI_c 1 rfl) (by decide) (by decide) rfl (by decide) ?_
      refine s_aload_n (j := 0) (pc2 := 53) X dX9_bridge_52 rfl rfl ?_
      refine s_getR (pc2 := 56) X dX9_bridge_53 rfl fl_RX9_71 rfl (fun v7 => ?_)
      refine s_getR (pc2 := 59) X dX9_bridge_56 rfl fl_RX9_140 rfl (fun v8 => ?_)
      refine s_getR (pc2 := 62) X dX9_bridge_59 rfl fl_RX9_87 rfl (fun v9 => ?_)
      refine s_getR (pc2 := 65) X dX9_bridge_62 rfl fl_RX9_170 rfl (fun v10 => ?_)
      refine s_iload_n (j := 1) (pc2 := 66) X dX9_bridge_65 rfl rfl ?_
      refine s_iald (pc2 := 67) X dX9_bridge_66 rfl (fun v11 hv11 => ?_)
      exact s_iret X dX9_bridge_67 hv11
    refine s_split (fun e11_2 => ?_) (fun e11_2 => ?_)
    · refine s_tsin (tgt := 68) 2 X dX9_bridge_11 e11_2 (inI_c 2 rfl) (by decide) (by decide) rfl (by decide) ?_
      refine s_aload_n (j := 0) (pc2 := 69) X dX9_bridge_68 rfl rfl ?_
      refine s_getR (pc2 := 72) X dX9_bridge_69 rfl fl_RX9_71 rfl (fun v12 => ?_)
      refine s_iload_n (j := 1) (pc2 := 73) X dX9_bridge_72 rfl rfl ?_
      refine s_callVI (d2 := d - 1) (As := [vI l1]) (st := []) (pc2 := 76) X dX9_bridge_73 rfl ml_RX9_173 im_X4_crossedByAll se_X4_crossedByAll kX4 rfl (c_X4_crossedByAll (d - 1) (by omega) C.1 C.2.2.1 v12 l1 h1) hy_X4_crossedByAll rfl rfl hf hlo (st_room (Nat.le_of_ble_eq_true rfl)) hcs (fun v13 hv13 => ?_)
      exact s_iret X dX9_bridge_76 hv13
    refine s_tsout (tgt := 77) X dX9_bridge_11 h2 (by omega) (by decide) ?_
    refine s_iconst (n := (-1)) (pc2 := 78) X dX9_bridge_77 rfl ?_
    exact s_iret X dX9_bridge_78 (inI_c (-1) rfl)
  · refine s_iconst (n := (-1)) (pc2 := 9) X dX9_bridge_8 rfl ?_
    exact s_iret X dX9_bridge_9 (inI_c (-1) rfl)
theorem c_X9_bridge (d : Nat) (hd : 2 ≤ d) (G : hG) (l : Launch) (l0 : Nat) (l1 : Int) (l2 : Int) (h1 : inI l1) (h2 : inI l2) : hMet G l yX9_bridge cX9_bridge 3 (some .int) d 0 0 [vR G.1 l0, vI l1, vI l2] (m_X9_bridge l0 l1 l2) := by
  refine hMet.of (lv := [(0, vR G.1 l0), (1, vI l1), (2, vI l2)]) (by decide +kernel) (by simp [lg_sl, vR_cat, vI_cat, vL_cat, vS_cat2, vT_cat2]) (by simp [lv_args, vR_cat, vI_cat, vL_cat, vS_cat2, vT_cat2]) (fun C K X => ?_)
  obtain ⟨rfl, rfl, K⟩ := K
  exact z_X9_bridge d hd ⟨rfl, rfl, K⟩ X l0 l1 l2 h1 h2
def m_X9_count_L144 (s0 : Int) : hM :=
  hret s0
def m_X9_count (l0 : Nat) (l1 : Int) : hM :=
  hgR 9 l0 3 fun v1 =>
  hgR 4 v1 0 fun v2 =>
  hif (l1 = 0) (
hgI 7 v2 0 fun v3 =>
  hret v3) <|
  hif (l1 = 1) (
hgI 7 v2 1 fun v4 =>
  hret v4) <|
  hif (l1 = 2) (
hgR 7 v2 2 fun v5 =>
  hgI 1 v5 3 fun v6 =>
  hret v6) <|
  hif (l1 = 3) (
hgR 7 v2 3 fun v7 =>
  hgI 1 v7 3 fun v8 =>
  hret v8) <|
  hif (l1 = 4) (
hgI 7 v2 7 fun v9 =>
  hret v9) <|
  hif (l1 = 5) (
hgI 7 v2 10 fun v10 =>
  hret v10) <|
  hif (l1 = 6) (
hgI 9 l0 2 fun v11 =>
  hret v11) <|
  hif (l1 = 7) (
hgR 9 l0 3 fun v12 =>
  hgI 4 v12 1 fun v13 =>
  hret v13) <|
  hif (l1 = 8) (
hgR 9 l0 3 fun v14 =>
  hcallV 4 v14 (m_X4_isFrosty v14) fun v15 =>
  hif (v15 = 0) (
m_X9_count_L144 0) (
m_X9_count_L144 1)) <|
  hif (l1 = 9) (
hgR 9 l0 3 fun v16 =>
  hcallV 4 v16 (m_X4_paidToAll v16) fun v17 =>
  hret v17) <|
  hif (l1 = 10) (
hgR 9 l0 3 fun v18 =>
  hcallV 4 v18 (m_X4_whoIsHome v18) fun v19 =>
  hret v19) <|
  hif (l1 = 11) (
hgI 9 l0 7 fun v20 =>
  hret v20) <|
  hif (l1 = 12) (
hgI 9 l0 9 fun v21 =>
  hret ((w32 v21))) <|
  hif (l1 = 13) (
hgR 9 l0 0 fun v22 =>
  hgI 6 v22 1 fun v23 =>
  hret v23) <|
  hret ((-1))
set_option maxRecDepth 4000 in
theorem z_X9_count_L144 (d : Nat) (hd : 2 ≤ d) {C : hCx} (K : hCtx C.1 C.2.2.1 d 0 0 "count" C) (X : hOK C cX9_count RX9 3 (some .int)) (s0 : Int) (g0 : inI s0) : hSim C (some .int) 0 0 3 144 [] [vI s0] 0 0 (m_X9_count_L144 s0) := by
  obtain ⟨⟨hf, hlo⟩, ⟨hc1, hc2⟩, hf1, hl1⟩ := K_room K (by omega)
  have hcs : 0 ≤ C.2.2.2.2.1.cells ∧ 0 ≤ C.2.2.2.2.1.slots := ⟨Nat.zero_le _, Nat.zero_le _⟩
  unfold m_X9_count_L144
  exact s_iret X dX9_count_144 g0
set_option maxRecDepth 4000 in
set_option maxHeartbeats 20000000 in
theorem z_X9_count (d : Nat) (hd : 2 ≤ d) {C : hCx} (K : hCtx C.1 C.2.2.1 d 0 0 "count" C) (X : hOK C cX9_count RX9 3 (some .int)) (l0 : Nat) (l1 : Int) (h1 : inI l1) : hSim C (some .int) 0 0 3 0 [(0, vR C.1.1 l0), (1, vI l1)] [] 0 0 (m_X9_count l0 l1) := by
  obtain ⟨⟨hf, hlo⟩, ⟨hc1, hc2⟩, hf1, hl1⟩ := K_room K (by omega)
  have hcs : 0 ≤ C.2.2.2.2.1.cells ∧ 0 ≤ C.2.2.2.2.1.slots := ⟨Nat.zero_le _, Nat.zero_le _⟩
  unfold m_X9_count
  refine s_aload_n (j := 0) (pc2 := 1) X dX9_count_0 rfl rfl ?_
  refine s_getR (pc2 := 4) X dX9_count_1 rfl fl_RX9_71 rfl (fun v1 => ?_)
  refine s_getR (pc2 := 7) X dX9_count_4 rfl fl_RX9_140 rfl (fun v2 => ?_)
  refine s_astore_n (pc2 := 8) X dX9_count_7 rfl (by decide) rfl rfl cat1_I ?_
  refine s_iload_n (j := 2) (pc2 := 9) X dX9_count_8 rfl rfl ?_
  refine s_split (fun e9_0 => ?_) (fun e9_0 => ?_)
  · refine s_tsin (tgt := 80) 0 X dX9_count_9 e9_0 (inI_c 0 rfl) (by decide) (by decide) rfl (by decide) ?_
    refine s_aload_n (j := 0) (pc2 := 81) X dX9_count_80 rfl rfl ?_
    refine s_getI (pc2 := 84) X dX9_count_81 rfl fl_RX9_176 rfl (fun v3 hv3 => ?_)
    exact s_iret X dX9_count_84 hv3
  refine s_split (fun e9_1 => ?_) (fun e9_1 => ?_)
  · refine s_tsin (tgt := 85) 1 X dX9_count_9 e9_1 (inI_c 1 rfl) (by decide) (by decide) rfl (by decide) ?_
    refine s_aload_n (j := 0) (pc2 := 86) X dX9_count_85 rfl rfl ?_
    refine s_getI (pc2 := 89) X dX9_count_86 rfl fl_RX9_179 rfl (fun v4 hv4 => ?_)
    exact s_iret X dX9_count_89 hv4
  refine s_split (fun e9_2 => ?_) (fun e9_2 => ?_)
  · refine s_tsin (tgt := 90) 2 X dX9_count_9 e9_2 (inI_c 2 rfl) (by decide) (by decide) rfl (by decide) ?_
    refine s_aload_n (j := 0) (pc2 := 91) X dX9_count_90 rfl rfl ?_
    refine s_getR (pc2 := 94) X dX9_count_91 rfl fl_RX9_87 rfl (fun v5 => ?_)
    refine s_getI (pc2 := 97) X dX9_count_94 rfl fl_RX9_127 rfl (fun v6 hv6 => ?_)
    exact s_iret X dX9_count_97 hv6
  refine s_split (fun e9_3 => ?_) (fun e9_3 => ?_)
  · refine s_tsin (tgt := 98) 3 X dX9_count_9 e9_3 (inI_c 3 rfl) (by decide) (by decide) rfl (by decide) ?_
    refine s_aload_n (j := 0) (pc2 := 99) X dX9_count_98 rfl rfl ?_
    refine s_getR (pc2 := 102) X dX9_count_99 rfl fl_RX9_182 rfl (fun v7 => ?_)
    refine s_getI (pc2 := 105) X dX9_count_102 rfl fl_RX9_127 rfl (fun v8 hv8 => ?_)
    exact s_iret X dX9_count_105 hv8
  refine s_split (fun e9_4 => ?_) (fun e9_4 => ?_)
  · refine s_tsin (tgt := 106) 4 X dX9_count_9 e9_4 (inI_c 4 rfl) (by decide) (by decide) rfl (by decide) ?_
    refine s_aload_n (j := 0) (pc2 := 107) X dX9_count_106 rfl rfl ?_
    refine s_getI (pc2 := 110) X dX9_count_107 rfl fl_RX9_185 rfl (fun v9 hv9 => ?_)
    exact s_iret X dX9_count_110 hv9
  refine s_split (fun e9_5 => ?_) (fun e9_5 => ?_)
  · refine s_tsin (tgt := 111) 5 X dX9_count_9 e9_5 (inI_c 5 rfl) (by decide) (by decide) rfl (by decide) ?_
    refine s_aload_n (j := 0) (pc2 := 112) X dX9_count_111 rfl rfl ?_
    refine s_getI (pc2 := 115) X dX9_count_112 rfl fl_RX9_188 rfl (fun v10 hv10 => ?_)
    exact s_iret X dX9_count_115 hv10
  refine s_split (fun e9_6 => ?_) (fun e9_6 => ?_)
  · refine s_tsin (tgt := 116) 6 X dX9_count_9 e9_6 (inI_c 6 rfl) (by decide) (by decide) rfl (by decide) ?_
    refine s_aload_n (j := 1) (pc2 := 117) X dX9_count_116 rfl rfl ?_
    refine s_getI (pc2 := 120) X dX9_count_117 rfl fl_RX9_22 rfl (fun v11 hv11 => ?_)
    exact s_iret X dX9_count_120 hv11
  refine s_split (fun e9_7 => ?_) (fun e9_7 => ?_)
  · refine s_tsin (tgt := 121) 7 X dX9_count_9 e9_7 (inI_c 7 rfl) (by decide) (by decide) rfl (by decide) ?_
    refine s_aload_n (j := 1) (pc2 := 122) X dX9_count_121 rfl rfl ?_
    refine s_getR (pc2 := 125) X dX9_count_122 rfl fl_RX9_71 rfl (fun v12 => ?_)
    refine s_getI (pc2 := 128) X dX9_count_125 rfl fl_RX9_191 rfl (fun v13 hv13 => ?_)
    exact s_iret X dX9_count_128 hv13
  refine s_split (fun e9_8 => ?_) (fun e9_8 => ?_)
  · refine s_tsin (tgt := 129) 8 X dX9_count_9 e9_8 (inI_c 8 rfl) (by decide) (by decide) rfl (by decide) ?_
    refine s_aload_n (j := 1) (pc2 := 130) X dX9_count_129 rfl rfl ?_
    refine s_getR (pc2 := 133) X dX9_count_130 rfl fl_RX9_71 rfl (fun v14 => ?_)
    refine s_callVZ (d2 := d - 1) (As := []) (st := []) (pc2 := 136) X dX9_count_133 rfl ml_RX9_194 im_X4_isFrosty se_X4_isFrosty kX4 rfl (c_X4_isFrosty (d - 1) (by omega) C.1 C.2.2.1 v14) hy_X4_isFrosty rfl rfl hf hlo (st_room (Nat.le_of_ble_eq_true rfl)) hcs (fun v15 hv15 => ?_)
    refine s_ifeq (tgt := 143) X dX9_count_136 (by decide) rfl hv15 ?_ ?_
    · refine s_iconst (n := 0) (pc2 := 144) X dX9_count_143 rfl ?_
      refine s_sub (lv2 := []) [] rfl ?_
      exact z_X9_count_L144 d hd K X 0 (inI_c 0 rfl)
    · refine s_iconst (n := 1) (pc2 := 140) X dX9_count_139 rfl ?_
      refine s_goto (pc2 := 144) X dX9_count_140 (by decide) ?_
      refine s_sub (lv2 := []) [] rfl ?_
      exact z_X9_count_L144 d hd K X 1 (inI_c 1 rfl)
  refine s_split (fun e9_9 => ?_) (fun e9_9 => ?_)
  · refine s_tsin (tgt := 145) 9 X dX9_count_9 e9_9 (inI_c 9 rfl) (by decide) (by decide) rfl (by decide) ?_
    refine s_aload_n (j := 1) (pc2 := 146) X dX9_count_145 rfl rfl ?_
    refine s_getR (pc2 := 149) X dX9_count_146 rfl fl_RX9_71 rfl (fun v16 => ?_)
    refine s_callVI (d2 := d - 1) (As := []) (st := []) (pc2 := 152) X dX9_count_149 rfl ml_RX9_198 im_X4_paidToAll se_X4_paidToAll kX4 rfl (c_X4_paidToAll (d - 1) (by omega) C.1 C.2.2.1 v16) hy_X4_paidToAll rfl rfl hf hlo (st_room (Nat.le_of_ble_eq_true rfl)) hcs (fun v17 hv17 => ?_)
    exact s_iret X dX9_count_152 hv17
  refine s_split (fun e9_10 => ?_) (fun e9_10 => ?_)
  · refine s_tsin (tgt := 153) 10 X dX9_count_9 e9_10 (inI_c 10 rfl) (by decide) (by decide) rfl (by decide) ?_
    refine s_aload_n (j := 1) (pc2 := 154) X dX9_count_153 rfl rfl ?_
    refine s_getR (pc2 := 157) X dX9_count_154 rfl fl_RX9_71 rfl (fun v18 => ?_)
    refine s_callVI (d2 := d - 1) (As := []) (st := []) (pc2 := 160) X dX9_count_157 rfl ml_RX9_202 im_X4_whoIsHome se_X4_whoIsHome kX4 rfl (c_X4_whoIsHome (d - 1) (by omega) C.1 C.2.2.1 v18) hy_X4_whoIsHome rfl rfl hf hlo (st_room (Nat.le_of_ble_eq_true rfl)) hcs (fun v19 hv19 => ?_)
    exact s_iret X dX9_count_160 hv19
  refine s_split (fun e9_11 => ?_) (fun e9_11 => ?_)
  · refine s_tsin (tgt := 161) 11 X dX9_count_9 e9_11 (inI_c 11 rfl) (by decide) (by decide) rfl (by decide) ?_
    refine s_aload_n (j := 1) (pc2 := 162) X dX9_count_161 rfl rfl ?_
    refine s_getI (pc2 := 165) X dX9_count_162 rfl fl_RX9_35 rfl (fun v20 hv20 => ?_)
    exact s_iret X dX9_count_165 hv20
  refine s_split (fun e9_12 => ?_) (fun e9_12 => ?_)
  · refine s_tsin (tgt := 166) 12 X dX9_count_9 e9_12 (inI_c 12 rfl) (by decide) (by decide) rfl (by decide) ?_
    refine s_aload_n (j := 1) (pc2 := 167) X dX9_count_166 rfl rfl ?_
    refine s_getL (pc2 := 170) X dX9_count_167 rfl fl_RX9_44 rfl (fun v21 hv21 => ?_)
    refine s_l2i (pc2 := 171) X dX9_count_170 rfl hv21 ?_
    exact s_iret X dX9_count_171 (w32_in _)
  refine s_split (fun e9_13 => ?_) (fun e9_13 => ?_)
  · refine s_tsin (tgt := 172) 13 X dX9_count_9 e9_13 (inI_c 13 rfl) (by decide) (by decide) rfl (by decide) ?_
    refine s_aload_n (j := 1) (pc2 := 173) X dX9_count_172 rfl rfl ?_
    refine s_getR (pc2 := 176) X dX9_count_173 rfl fl_RX9_10 rfl (fun v22 => ?_)
    refine s_getI (pc2 := 179) X dX9_count_176 rfl fl_RX9_107 rfl (fun v23 hv23 => ?_)
    exact s_iret X dX9_count_179 hv23
  refine s_tsout (tgt := 180) X dX9_count_9 h1 (by omega) (by decide) ?_
  refine s_iconst (n := (-1)) (pc2 := 181) X dX9_count_180 rfl ?_
  exact s_iret X dX9_count_181 (inI_c (-1) rfl)
theorem c_X9_count (d : Nat) (hd : 2 ≤ d) (G : hG) (l : Launch) (l0 : Nat) (l1 : Int) (h1 : inI l1) : hMet G l yX9_count cX9_count 3 (some .int) d 0 0 [vR G.1 l0, vI l1] (m_X9_count l0 l1) := by
  refine hMet.of (lv := [(0, vR G.1 l0), (1, vI l1)]) (by decide +kernel) (by simp [lg_sl, vR_cat, vI_cat, vL_cat, vS_cat2, vT_cat2]) (by simp [lv_args, vR_cat, vI_cat, vL_cat, vS_cat2, vT_cat2]) (fun C K X => ?_)
  obtain ⟨rfl, rfl, K⟩ := K
  exact z_X9_count d hd ⟨rfl, rfl, K⟩ X l0 l1 h1
def m_X9_keepAct_L59 : hM :=
  hret 0
def m_X9_keepAct (l0 : Nat) : hM :=
  hgR 9 l0 5 fun v1 =>
  hgI 9 l0 6 fun v2 =>
  hgI 9 l0 7 fun v3 =>
  hnz 20 <|
  haR 25 v1 ((iremZ ((w32 (v2 + v3))) 20)) fun v4 =>
  hgR 9 l0 3 fun v5 =>
  hcallV 4 v4 (m_X4_copy v4 v5) fun _ =>
  hgI 9 l0 7 fun v6 =>
  hif (v6 ≥ 20) (
hgI 9 l0 6 fun v7 =>
  hnz 20 <|
  hpI 9 l0 6 ((iremZ ((w32 (v7 + 1))) 20)) <|
  m_X9_keepAct_L59) (
hgI 9 l0 7 fun v8 =>
  hpI 9 l0 7 ((w32 (v8 + 1))) <|
  m_X9_keepAct_L59)
set_option maxRecDepth 4000 in
theorem z_X9_keepAct_L59 (d : Nat) (hd : 2 ≤ d) {C : hCx} (K : hCtx C.1 C.2.2.1 d 0 0 "keepAct" C) (X : hOK C cX9_keepAct RX9 1 none) : hSim C none 0 0 1 59 [] [] 0 0 (m_X9_keepAct_L59) := by
  obtain ⟨⟨hf, hlo⟩, ⟨hc1, hc2⟩, hf1, hl1⟩ := K_room K (by omega)
  have hcs : 0 ≤ C.2.2.2.2.1.cells ∧ 0 ≤ C.2.2.2.2.1.slots := ⟨Nat.zero_le _, Nat.zero_le _⟩
  unfold m_X9_keepAct_L59
  exact s_ret X dX9_keepAct_59
set_option maxRecDepth 4000 in
set_option maxHeartbeats 20000000 in
theorem z_X9_keepAct (d : Nat) (hd : 2 ≤ d) {C : hCx} (K : hCtx C.1 C.2.2.1 d 0 0 "keepAct" C) (X : hOK C cX9_keepAct RX9 1 none) (l0 : Nat) : hSim C none 0 0 1 0 [(0, vR C.1.1 l0)] [] 0 0 (m_X9_keepAct l0) := by
  obtain ⟨⟨hf, hlo⟩, ⟨hc1, hc2⟩, hf1, hl1⟩ := K_room K (by omega)
  have hcs : 0 ≤ C.2.2.2.2.1.cells ∧ 0 ≤ C.2.2.2.2.1.slots := ⟨Nat.zero_le _, Nat.zero_le _⟩
  unfold m_X9_keepAct
  refine s_aload_n (j := 0) (pc2 := 1) X dX9_keepAct_0 rfl rfl ?_
  refine s_getR (pc2 := 4) X dX9_keepAct_1 rfl fl_RX9_28 rfl (fun v1 => ?_)
  refine s_aload_n (j := 0) (pc2 := 5) X dX9_keepAct_4 rfl rfl ?_
  refine s_getI (pc2 := 8) X dX9_keepAct_5 rfl fl_RX9_32 rfl (fun v2 hv2 => ?_)
  refine s_aload_n (j := 0) (pc2 := 9) X dX9_keepAct_8 rfl rfl ?_
  refine s_getI (pc2 := 12) X dX9_keepAct_9 rfl fl_RX9_35 rfl (fun v3 hv3 => ?_)
  refine s_iadd (pc2 := 13) X dX9_keepAct_12 rfl ?_
  refine s_bipush (n := 20) (pc2 := 15) X dX9_keepAct_13 rfl rfl ?_
  refine s_irem (pc2 := 16) X dX9_keepAct_15 rfl (w32_in _) (inI_c 20 rfl) ?_
  refine s_aald25 (pc2 := 17) X dX9_keepAct_16 rfl (fun v4 => ?_)
  refine s_aload_n (j := 0) (pc2 := 18) X dX9_keepAct_17 rfl rfl ?_
  refine s_getR (pc2 := 21) X dX9_keepAct_18 rfl fl_RX9_71 rfl (fun v5 => ?_)
  refine s_callVV (d2 := d - 1) (As := [vR C.1.1 v5]) (st := []) (pc2 := 24) X dX9_keepAct_21 rfl ml_RX9_231 im_X4_copy se_X4_copy kX4 rfl (c_X4_copy (d - 1) (by omega) C.1 C.2.2.1 v4 v5) hy_X4_copy rfl rfl hf hlo (st_room (Nat.le_of_ble_eq_true rfl)) hcs (fun _ => ?_)
  refine s_aload_n (j := 0) (pc2 := 25) X dX9_keepAct_24 rfl rfl ?_
  refine s_getI (pc2 := 28) X dX9_keepAct_25 rfl fl_RX9_35 rfl (fun v6 hv6 => ?_)
  refine s_bipush (n := 20) (pc2 := 30) X dX9_keepAct_28 rfl rfl ?_
  refine s_icge (tgt := 46) X dX9_keepAct_30 (by decide) rfl hv6 (inI_c 20 rfl) ?_ ?_
  · refine s_aload_n (j := 0) (pc2 := 47) X dX9_keepAct_46 rfl rfl ?_
    refine s_aload_n (j := 0) (pc2 := 48) X dX9_keepAct_47 rfl rfl ?_
    refine s_getI (pc2 := 51) X dX9_keepAct_48 rfl fl_RX9_32 rfl (fun v7 hv7 => ?_)
    refine s_iconst (n := 1) (pc2 := 52) X dX9_keepAct_51 rfl ?_
    refine s_iadd (pc2 := 53) X dX9_keepAct_52 rfl ?_
    refine s_bipush (n := 20) (pc2 := 55) X dX9_keepAct_53 rfl rfl ?_
    refine s_irem (pc2 := 56) X dX9_keepAct_55 rfl (w32_in _) (inI_c 20 rfl) ?_
    refine s_putI (pc2 := 59) X dX9_keepAct_56 rfl fl_RX9_32 (Or.inl rfl) rfl (iremZ_in (w32_in _) (inI_c 20 rfl)) ?_
    refine s_sub (lv2 := []) [] rfl ?_
    exact z_X9_keepAct_L59 d hd K X
  · refine s_aload_n (j := 0) (pc2 := 34) X dX9_keepAct_33 rfl rfl ?_
    refine s_dup (pc2 := 35) X dX9_keepAct_34 rfl (vR_cat _ _) ?_
    refine s_getI (pc2 := 38) X dX9_keepAct_35 rfl fl_RX9_35 rfl (fun v8 hv8 => ?_)
    refine s_iconst (n := 1) (pc2 := 39) X dX9_keepAct_38 rfl ?_
    refine s_iadd (pc2 := 40) X dX9_keepAct_39 rfl ?_
    refine s_putI (pc2 := 43) X dX9_keepAct_40 rfl fl_RX9_35 (Or.inl rfl) rfl (w32_in _) ?_
    refine s_goto (pc2 := 59) X dX9_keepAct_43 (by decide) ?_
    refine s_sub (lv2 := []) [] rfl ?_
    exact z_X9_keepAct_L59 d hd K X
theorem c_X9_keepAct (d : Nat) (hd : 2 ≤ d) (G : hG) (l : Launch) (l0 : Nat) : hMet G l yX9_keepAct cX9_keepAct 1 none d 0 0 [vR G.1 l0] (m_X9_keepAct l0) := by
  refine hMet.of (lv := [(0, vR G.1 l0)]) (by decide +kernel) (by simp [lg_sl, vR_cat, vI_cat, vL_cat, vS_cat2, vT_cat2]) (by simp [lv_args, vR_cat, vI_cat, vL_cat, vS_cat2, vT_cat2]) (fun C K X => ?_)
  obtain ⟨rfl, rfl, K⟩ := K
  exact z_X9_keepAct d hd ⟨rfl, rfl, K⟩ X l0
def m_X9_cross_L28 : hM :=
  hret ((-1))
def m_X9_cross (l0 : Nat) (l1 : Int) (l2 : Int) : hM :=
  hcallV 9 l0 (m_X9_isPerson l0 l1) fun v1 =>
  hif (v1 = 0) (
m_X9_cross_L28) (
hcallV 9 l0 (m_X9_isBridge l0 l2) fun v2 =>
  hif (v2 = 0) (
m_X9_cross_L28) (
hgR 9 l0 3 fun v3 =>
  hcallV 4 v3 (m_X4_canCross v3 l1 l2) fun v4 =>
  hif (v4 ≠ 0) (
hcallV 9 l0 (m_X9_keepAct l0) fun _ =>
  hgR 9 l0 3 fun v5 =>
  hcallV 4 v5 (m_X4_goOver v5 l1 l2) fun _ =>
  hgR 9 l0 3 fun v6 =>
  hgR 4 v6 2 fun v7 =>
  haI 20 v7 l1 fun v8 =>
  hret v8) (
m_X9_cross_L28)))
set_option maxRecDepth 4000 in
theorem z_X9_cross_L28 (d : Nat) (hd : 3 ≤ d) {C : hCx} (K : hCtx C.1 C.2.2.1 d 0 0 "cross" C) (X : hOK C cX9_cross RX9 3 (some .int)) : hSim C (some .int) 0 0 3 28 [] [] 0 0 (m_X9_cross_L28) := by
  obtain ⟨⟨hf, hlo⟩, ⟨hc1, hc2⟩, hf1, hl1⟩ := K_room K (by omega)
  have hcs : 0 ≤ C.2.2.2.2.1.cells ∧ 0 ≤ C.2.2.2.2.1.slots := ⟨Nat.zero_le _, Nat.zero_le _⟩
  unfold m_X9_cross_L28
  refine s_iconst (n := (-1)) (pc2 := 29) X dX9_cross_28 rfl ?_
  exact s_iret X dX9_cross_29 (inI_c (-1) rfl)
set_option maxRecDepth 4000 in
set_option maxHeartbeats 20000000 in
theorem z_X9_cross (d : Nat) (hd : 3 ≤ d) {C : hCx} (K : hCtx C.1 C.2.2.1 d 0 0 "cross" C) (X : hOK C cX9_cross RX9 3 (some .int)) (l0 : Nat) (l1 : Int) (l2 : Int) (h1 : inI l1) (h2 : inI l2) : hSim C (some .int) 0 0 3 0 [(0, vR C.1.1 l0), (1, vI l1), (2, vI l2)] [] 0 0 (m_X9_cross l0 l1 l2) := by
  obtain ⟨⟨hf, hlo⟩, ⟨hc1, hc2⟩, hf1, hl1⟩ := K_room K (by omega)
  have hcs : 0 ≤ C.2.2.2.2.1.cells ∧ 0 ≤ C.2.2.2.2.1.slots := ⟨Nat.zero_le _, Nat.zero_le _⟩
  unfold m_X9_cross
  refine s_aload_n (j := 0) (pc2 := 1) X dX9_cross_0 rfl rfl ?_
  refine s_iload_n (j := 1) (pc2 := 2) X dX9_cross_1 rfl rfl ?_
  refine s_callVZ (d2 := d - 1) (As := [vI l1]) (st := []) (pc2 := 5) X dX9_cross_2 rfl ml_RX9_133 im_X9_isPerson se_X9_isPerson kX9 rfl (c_X9_isPerson (d - 1) (by omega) C.1 C.2.2.1 l0 l1 h1) hy_X9_isPerson rfl rfl hf hlo (st_room (Nat.le_of_ble_eq_true rfl)) hcs (fun v1 hv1 => ?_)
  refine s_ifeq (tgt := 28) X dX9_cross_5 (by decide) rfl hv1 ?_ ?_
  · refine s_sub (lv2 := []) [] rfl ?_
    exact z_X9_cross_L28 d hd K X
  · refine s_aload_n (j := 0) (pc2 := 9) X dX9_cross_8 rfl rfl ?_
    refine s_iload_n (j := 2) (pc2 := 10) X dX9_cross_9 rfl rfl ?_
    refine s_callVZ (d2 := d - 1) (As := [vI l2]) (st := []) (pc2 := 13) X dX9_cross_10 rfl ml_RX9_161 im_X9_isBridge se_X9_isBridge kX9 rfl (c_X9_isBridge (d - 1) (by omega) C.1 C.2.2.1 l0 l2 h2) hy_X9_isBridge rfl rfl hf hlo (st_room (Nat.le_of_ble_eq_true rfl)) hcs (fun v2 hv2 => ?_)
    refine s_ifeq (tgt := 28) X dX9_cross_13 (by decide) rfl hv2 ?_ ?_
    · refine s_sub (lv2 := []) [] rfl ?_
      exact z_X9_cross_L28 d hd K X
    · refine s_aload_n (j := 0) (pc2 := 17) X dX9_cross_16 rfl rfl ?_
      refine s_getR (pc2 := 20) X dX9_cross_17 rfl fl_RX9_71 rfl (fun v3 => ?_)
      refine s_iload_n (j := 1) (pc2 := 21) X dX9_cross_20 rfl rfl ?_
      refine s_iload_n (j := 2) (pc2 := 22) X dX9_cross_21 rfl rfl ?_
      refine s_callVZ (d2 := d - 1) (As := [vI l1, vI l2]) (st := []) (pc2 := 25) X dX9_cross_22 rfl ml_RX9_205 im_X4_canCross se_X4_canCross kX4 rfl (c_X4_canCross (d - 1) (by omega) C.1 C.2.2.1 v3 l1 l2 h1 h2) hy_X4_canCross rfl rfl hf hlo (st_room (Nat.le_of_ble_eq_true rfl)) hcs (fun v4 hv4 => ?_)
      refine s_ifne (tgt := 30) X dX9_cross_25 (by decide) rfl hv4 ?_ ?_
      · refine s_aload_n (j := 0) (pc2 := 31) X dX9_cross_30 rfl rfl ?_
        refine s_callVV (d2 := d - 1) (As := []) (st := []) (pc2 := 34) X dX9_cross_31 rfl ml_RX9_209 im_X9_keepAct se_X9_keepAct kX9 rfl (c_X9_keepAct (d - 1) (by omega) C.1 C.2.2.1 l0) hy_X9_keepAct rfl rfl hf hlo (st_room (Nat.le_of_ble_eq_true rfl)) hcs (fun _ => ?_)
        refine s_aload_n (j := 0) (pc2 := 35) X dX9_cross_34 rfl rfl ?_
        refine s_getR (pc2 := 38) X dX9_cross_35 rfl fl_RX9_71 rfl (fun v5 => ?_)
        refine s_iload_n (j := 1) (pc2 := 39) X dX9_cross_38 rfl rfl ?_
        refine s_iload_n (j := 2) (pc2 := 40) X dX9_cross_39 rfl rfl ?_
        refine s_callVV (d2 := d - 1) (As := [vI l1, vI l2]) (st := []) (pc2 := 43) X dX9_cross_40 rfl ml_RX9_212 im_X4_goOver se_X4_goOver kX4 rfl (c_X4_goOver (d - 1) (by omega) C.1 C.2.2.1 v5 l1 l2 h1 h2) hy_X4_goOver rfl rfl hf hlo (st_room (Nat.le_of_ble_eq_true rfl)) hcs (fun _ => ?_)
        refine s_aload_n (j := 0) (pc2 := 44) X dX9_cross_43 rfl rfl ?_
        refine s_getR (pc2 := 47) X dX9_cross_44 rfl fl_RX9_71 rfl (fun v6 => ?_)
        refine s_getR (pc2 := 50) X dX9_cross_47 rfl fl_RX9_137 rfl (fun v7 => ?_)
        refine s_iload_n (j := 1) (pc2 := 51) X dX9_cross_50 rfl rfl ?_
        refine s_iald (pc2 := 52) X dX9_cross_51 rfl (fun v8 hv8 => ?_)
        exact s_iret X dX9_cross_52 hv8
      · refine s_sub (lv2 := []) [] rfl ?_
        exact z_X9_cross_L28 d hd K X
theorem c_X9_cross (d : Nat) (hd : 3 ≤ d) (G : hG) (l : Launch) (l0 : Nat) (l1 : Int) (l2 : Int) (h1 : inI l1) (h2 : inI l2) : hMet G l yX9_cross cX9_cross 3 (some .int) d 0 0 [vR G.1 l0, vI l1, vI l2] (m_X9_cross l0 l1 l2) := by
  refine hMet.of (lv := [(0, vR G.1 l0), (1, vI l1), (2, vI l2)]) (by decide +kernel) (by simp [lg_sl, vR_cat, vI_cat, vL_cat, vS_cat2, vT_cat2]) (by simp [lv_args, vR_cat, vI_cat, vL_cat, vS_cat2, vT_cat2]) (fun C K X => ?_)
  obtain ⟨rfl, rfl, K⟩ := K
  exact z_X9_cross d hd ⟨rfl, rfl, K⟩ X l0 l1 l2 h1 h2
def m_X9_sail_L41 : hM :=
  hret ((-1))
def m_X9_sail (l0 : Nat) (l1 : Int) (l2 : Int) : hM :=
  hgR 9 l0 3 fun v1 =>
  hgR 4 v1 0 fun v2 =>
  hgR 7 v2 3 fun v3 =>
  hcallV 9 l0 (m_X9_isPerson l0 l1) fun v4 =>
  hif (v4 = 0) (
m_X9_sail_L41) (
hif (l2 < 0) (
m_X9_sail_L41) (
hgI 1 v3 3 fun v5 =>
  hif (l2 ≥ v5) (
m_X9_sail_L41) (
hgR 9 l0 3 fun v6 =>
  hcallV 4 v6 (m_X4_isFrosty v6) fun v7 =>
  hif (v7 = 0) (
hgR 9 l0 3 fun v8 =>
  hgR 4 v8 2 fun v9 =>
  haI 20 v9 l1 fun v10 =>
  hcallV 1 v3 (m_X1_across v3 l2 v10) fun v11 =>
  hlet v11 fun (w12 : Int) =>
  hif (w12 ≠ ((-1))) (
hcallV 9 l0 (m_X9_keepAct l0) fun _ =>
  hgR 9 l0 3 fun v13 =>
  hgR 4 v13 2 fun v14 =>
  hsI 20 v14 l1 w12 <|
  hret w12) (
hret ((-1)))) (
m_X9_sail_L41))))
set_option maxRecDepth 4000 in
theorem z_X9_sail_L41 (d : Nat) (hd : 3 ≤ d) {C : hCx} (K : hCtx C.1 C.2.2.1 d 0 0 "sail" C) (X : hOK C cX9_sail RX9 5 (some .int)) : hSim C (some .int) 0 0 5 41 [] [] 0 0 (m_X9_sail_L41) := by
  obtain ⟨⟨hf, hlo⟩, ⟨hc1, hc2⟩, hf1, hl1⟩ := K_room K (by omega)
  have hcs : 0 ≤ C.2.2.2.2.1.cells ∧ 0 ≤ C.2.2.2.2.1.slots := ⟨Nat.zero_le _, Nat.zero_le _⟩
  unfold m_X9_sail_L41
  refine s_iconst (n := (-1)) (pc2 := 42) X dX9_sail_41 rfl ?_
  exact s_iret X dX9_sail_42 (inI_c (-1) rfl)
set_option maxRecDepth 4000 in
set_option maxHeartbeats 20000000 in
theorem z_X9_sail (d : Nat) (hd : 3 ≤ d) {C : hCx} (K : hCtx C.1 C.2.2.1 d 0 0 "sail" C) (X : hOK C cX9_sail RX9 5 (some .int)) (l0 : Nat) (l1 : Int) (l2 : Int) (h1 : inI l1) (h2 : inI l2) : hSim C (some .int) 0 0 5 0 [(0, vR C.1.1 l0), (1, vI l1), (2, vI l2)] [] 0 0 (m_X9_sail l0 l1 l2) := by
  obtain ⟨⟨hf, hlo⟩, ⟨hc1, hc2⟩, hf1, hl1⟩ := K_room K (by omega)
  have hcs : 0 ≤ C.2.2.2.2.1.cells ∧ 0 ≤ C.2.2.2.2.1.slots := ⟨Nat.zero_le _, Nat.zero_le _⟩
  unfold m_X9_sail
  refine s_aload_n (j := 0) (pc2 := 1) X dX9_sail_0 rfl rfl ?_
  refine s_getR (pc2 := 4) X dX9_sail_1 rfl fl_RX9_71 rfl (fun v1 => ?_)
  refine s_getR (pc2 := 7) X dX9_sail_4 rfl fl_RX9_140 rfl (fun v2 => ?_)
  refine s_getR (pc2 := 10) X dX9_sail_7 rfl fl_RX9_182 rfl (fun v3 => ?_)
  refine s_astore_n (pc2 := 11) X dX9_sail_10 rfl (by decide) rfl rfl cat1_I ?_
  refine s_aload_n (j := 1) (pc2 := 12) X dX9_sail_11 rfl rfl ?_
  refine s_iload_n (j := 2) (pc2 := 13) X dX9_sail_12 rfl rfl ?_
  refine s_callVZ (d2 := d - 1) (As := [vI l1]) (st := []) (pc2 := 16) X dX9_sail_13 rfl ml_RX9_133 im_X9_isPerson se_X9_isPerson kX9 rfl (c_X9_isPerson (d - 1) (by omega) C.1 C.2.2.1 l0 l1 h1) hy_X9_isPerson rfl rfl hf hlo (st_room (Nat.le_of_ble_eq_true rfl)) hcs (fun v4 hv4 => ?_)
  refine s_ifeq (tgt := 41) X dX9_sail_16 (by decide) rfl hv4 ?_ ?_
  · refine s_sub (lv2 := []) [] rfl ?_
    exact z_X9_sail_L41 d hd K X
  · refine s_iload_n (j := 3) (pc2 := 20) X dX9_sail_19 rfl rfl ?_
    refine s_iflt (tgt := 41) X dX9_sail_20 (by decide) rfl h2 ?_ ?_
    · refine s_sub (lv2 := []) [] rfl ?_
      exact z_X9_sail_L41 d hd K X
    · refine s_iload_n (j := 3) (pc2 := 24) X dX9_sail_23 rfl rfl ?_
      refine s_aload_n (j := 0) (pc2 := 25) X dX9_sail_24 rfl rfl ?_
      refine s_getI (pc2 := 28) X dX9_sail_25 rfl fl_RX9_127 rfl (fun v5 hv5 => ?_)
      refine s_icge (tgt := 41) X dX9_sail_28 (by decide) rfl h2 hv5 ?_ ?_
      · refine s_sub (lv2 := []) [] rfl ?_
        exact z_X9_sail_L41 d hd K X
      · refine s_aload_n (j := 1) (pc2 := 32) X dX9_sail_31 rfl rfl ?_
        refine s_getR (pc2 := 35) X dX9_sail_32 rfl fl_RX9_71 rfl (fun v6 => ?_)
        refine s_callVZ (d2 := d - 1) (As := []) (st := []) (pc2 := 38) X dX9_sail_35 rfl ml_RX9_194 im_X4_isFrosty se_X4_isFrosty kX4 rfl (c_X4_isFrosty (d - 1) (by omega) C.1 C.2.2.1 v6) hy_X4_isFrosty rfl rfl hf hlo (st_room (Nat.le_of_ble_eq_true rfl)) hcs (fun v7 hv7 => ?_)
        refine s_ifeq (tgt := 43) X dX9_sail_38 (by decide) rfl hv7 ?_ ?_
        · refine s_aload_n (j := 0) (pc2 := 44) X dX9_sail_43 rfl rfl ?_
          refine s_iload_n (j := 3) (pc2 := 45) X dX9_sail_44 rfl rfl ?_
          refine s_aload_n (j := 1) (pc2 := 46) X dX9_sail_45 rfl rfl ?_
          refine s_getR (pc2 := 49) X dX9_sail_46 rfl fl_RX9_71 rfl (fun v8 => ?_)
          refine s_getR (pc2 := 52) X dX9_sail_49 rfl fl_RX9_137 rfl (fun v9 => ?_)
          refine s_iload_n (j := 2) (pc2 := 53) X dX9_sail_52 rfl rfl ?_
          refine s_iald (pc2 := 54) X dX9_sail_53 rfl (fun v10 hv10 => ?_)
          refine s_callVI (d2 := d - 1) (As := [vI l2, vI v10]) (st := []) (pc2 := 57) X dX9_sail_54 rfl ml_RX9_216 im_X1_across se_X1_across kX1 rfl (c_X1_across (d - 1) (by omega) C.1 C.2.2.1 v3 l2 v10 h2 hv10) hy_X1_across rfl rfl hf hlo (st_room (Nat.le_of_ble_eq_true rfl)) hcs (fun v11 hv11 => ?_)
          refine s_istore (pc2 := 59) X dX9_sail_57 rfl (by decide) rfl rfl cat1_R hv11 (fun w12 hw12 => ?_)
          refine s_iload (j := 0) (pc2 := 61) X dX9_sail_59 rfl rfl ?_
          refine s_iconst (n := (-1)) (pc2 := 62) X dX9_sail_61 rfl ?_
          refine s_icne (tgt := 67) X dX9_sail_62 (by decide) rfl hw12 (inI_c (-1) rfl) ?_ ?_
          · refine s_aload_n (j := 2) (pc2 := 68) X dX9_sail_67 rfl rfl ?_
            refine s_callVV (d2 := d - 1) (As := []) (st := []) (pc2 := 71) X dX9_sail_68 rfl ml_RX9_209 im_X9_keepAct se_X9_keepAct kX9 rfl (c_X9_keepAct (d - 1) (by omega) C.1 C.2.2.1 l0) hy_X9_keepAct rfl rfl hf hlo (st_room (Nat.le_of_ble_eq_true rfl)) hcs (fun _ => ?_)
            refine s_aload_n (j := 2) (pc2 := 72) X dX9_sail_71 rfl rfl ?_
            refine s_getR (pc2 := 75) X dX9_sail_72 rfl fl_RX9_71 rfl (fun v13 => ?_)
            refine s_getR (pc2 := 78) X dX9_sail_75 rfl fl_RX9_137 rfl (fun v14 => ?_)
            refine s_iload_n (j := 3) (pc2 := 79) X dX9_sail_78 rfl rfl ?_
            refine s_iload (j := 0) (pc2 := 81) X dX9_sail_79 rfl rfl ?_
            refine s_iast (pc2 := 82) X dX9_sail_81 rfl hw12 ?_
            refine s_iload (j := 0) (pc2 := 84) X dX9_sail_82 rfl rfl ?_
            exact s_iret X dX9_sail_84 hw12
          · refine s_iconst (n := (-1)) (pc2 := 66) X dX9_sail_65 rfl ?_
            exact s_iret X dX9_sail_66 (inI_c (-1) rfl)
        · refine s_sub (lv2 := []) [] rfl ?_
          exact z_X9_sail_L41 d hd K X
theorem c_X9_sail (d : Nat) (hd : 3 ≤ d) (G : hG) (l : Launch) (l0 : Nat) (l1 : Int) (l2 : Int) (h1 : inI l1) (h2 : inI l2) : hMet G l yX9_sail cX9_sail 5 (some .int) d 0 0 [vR G.1 l0, vI l1, vI l2] (m_X9_sail l0 l1 l2) := by
  refine hMet.of (lv := [(0, vR G.1 l0), (1, vI l1), (2, vI l2)]) (by decide +kernel) (by simp [lg_sl, vR_cat, vI_cat, vL_cat, vS_cat2, vT_cat2]) (by simp [lv_args, vR_cat, vI_cat, vL_cat, vS_cat2, vT_cat2]) (fun C K X => ?_)
  obtain ⟨rfl, rfl, K⟩ := K
  exact z_X9_sail d hd ⟨rfl, rfl, K⟩ X l0 l1 l2 h1 h2
def m_X9_arePair_L26 (s0 : Int) : hM :=
  hretZ s0
def m_X9_arePair_L25 : hM :=
  m_X9_arePair_L26 0
def m_X9_arePair (l0 : Nat) (l1 : Int) (l2 : Int) : hM :=
  hcallV 9 l0 (m_X9_isPerson l0 l1) fun v1 =>
  hif (v1 = 0) (
m_X9_arePair_L25) (
hcallV 9 l0 (m_X9_isPerson l0 l2) fun v2 =>
  hif (v2 = 0) (
m_X9_arePair_L25) (
hif (l1 = l2) (
m_X9_arePair_L25) (
m_X9_arePair_L26 1)))
set_option maxRecDepth 4000 in
theorem z_X9_arePair_L26 (d : Nat) (hd : 2 ≤ d) {C : hCx} (K : hCtx C.1 C.2.2.1 d 0 0 "arePair" C) (X : hOK C cX9_arePair RX9 3 (some .boolean)) (s0 : Int) (g0 : inI s0) : hSim C (some .boolean) 0 0 3 26 [] [vI s0] 0 0 (m_X9_arePair_L26 s0) := by
  obtain ⟨⟨hf, hlo⟩, ⟨hc1, hc2⟩, hf1, hl1⟩ := K_room K (by omega)
  have hcs : 0 ≤ C.2.2.2.2.1.cells ∧ 0 ≤ C.2.2.2.2.1.slots := ⟨Nat.zero_le _, Nat.zero_le _⟩
  unfold m_X9_arePair_L26
  exact s_zret X dX9_arePair_26
set_option maxRecDepth 4000 in
theorem z_X9_arePair_L25 (d : Nat) (hd : 2 ≤ d) {C : hCx} (K : hCtx C.1 C.2.2.1 d 0 0 "arePair" C) (X : hOK C cX9_arePair RX9 3 (some .boolean)) : hSim C (some .boolean) 0 0 3 25 [] [] 0 0 (m_X9_arePair_L25) := by
  obtain ⟨⟨hf, hlo⟩, ⟨hc1, hc2⟩, hf1, hl1⟩ := K_room K (by omega)
  have hcs : 0 ≤ C.2.2.2.2.1.cells ∧ 0 ≤ C.2.2.2.2.1.slots := ⟨Nat.zero_le _, Nat.zero_le _⟩
  unfold m_X9_arePair_L25
  refine s_iconst (n := 0) (pc2 := 26) X dX9_arePair_25 rfl ?_
  exact z_X9_arePair_L26 d hd K X 0 (inI_c 0 rfl)
set_option maxRecDepth 4000 in
set_option maxHeartbeats 20000000 in
theorem z_X9_arePair (d : Nat) (hd : 2 ≤ d) {C : hCx} (K : hCtx C.1 C.2.2.1 d 0 0 "arePair" C) (X : hOK C cX9_arePair RX9 3 (some .boolean)) (l0 : Nat) (l1 : Int) (l2 : Int) (h1 : inI l1) (h2 : inI l2) : hSim C (some .boolean) 0 0 3 0 [(0, vR C.1.1 l0), (1, vI l1), (2, vI l2)] [] 0 0 (m_X9_arePair l0 l1 l2) := by
  obtain ⟨⟨hf, hlo⟩, ⟨hc1, hc2⟩, hf1, hl1⟩ := K_room K (by omega)
  have hcs : 0 ≤ C.2.2.2.2.1.cells ∧ 0 ≤ C.2.2.2.2.1.slots := ⟨Nat.zero_le _, Nat.zero_le _⟩
  unfold m_X9_arePair
  refine s_aload_n (j := 0) (pc2 := 1) X dX9_arePair_0 rfl rfl ?_
  refine s_iload_n (j := 1) (pc2 := 2) X dX9_arePair_1 rfl rfl ?_
  refine s_callVZ (d2 := d - 1) (As := [vI l1]) (st := []) (pc2 := 5) X dX9_arePair_2 rfl ml_RX9_133 im_X9_isPerson se_X9_isPerson kX9 rfl (c_X9_isPerson (d - 1) (by omega) C.1 C.2.2.1 l0 l1 h1) hy_X9_isPerson rfl rfl hf hlo (st_room (Nat.le_of_ble_eq_true rfl)) hcs (fun v1 hv1 => ?_)
  refine s_ifeq (tgt := 25) X dX9_arePair_5 (by decide) rfl hv1 ?_ ?_
  · refine s_sub (lv2 := []) [] rfl ?_
    exact z_X9_arePair_L25 d hd K X
  · refine s_aload_n (j := 0) (pc2 := 9) X dX9_arePair_8 rfl rfl ?_
    refine s_iload_n (j := 2) (pc2 := 10) X dX9_arePair_9 rfl rfl ?_
    refine s_callVZ (d2 := d - 1) (As := [vI l2]) (st := []) (pc2 := 13) X dX9_arePair_10 rfl ml_RX9_133 im_X9_isPerson se_X9_isPerson kX9 rfl (c_X9_isPerson (d - 1) (by omega) C.1 C.2.2.1 l0 l2 h2) hy_X9_isPerson rfl rfl hf hlo (st_room (Nat.le_of_ble_eq_true rfl)) hcs (fun v2 hv2 => ?_)
    refine s_ifeq (tgt := 25) X dX9_arePair_13 (by decide) rfl hv2 ?_ ?_
    · refine s_sub (lv2 := []) [] rfl ?_
      exact z_X9_arePair_L25 d hd K X
    · refine s_iload_n (j := 1) (pc2 := 17) X dX9_arePair_16 rfl rfl ?_
      refine s_iload_n (j := 2) (pc2 := 18) X dX9_arePair_17 rfl rfl ?_
      refine s_iceq (tgt := 25) X dX9_arePair_18 (by decide) rfl h1 h2 ?_ ?_
      · refine s_sub (lv2 := []) [] rfl ?_
        exact z_X9_arePair_L25 d hd K X
      · refine s_iconst (n := 1) (pc2 := 22) X dX9_arePair_21 rfl ?_
        refine s_goto (pc2 := 26) X dX9_arePair_22 (by decide) ?_
        refine s_sub (lv2 := []) [] rfl ?_
        exact z_X9_arePair_L26 d hd K X 1 (inI_c 1 rfl)
theorem c_X9_arePair (d : Nat) (hd : 2 ≤ d) (G : hG) (l : Launch) (l0 : Nat) (l1 : Int) (l2 : Int) (h1 : inI l1) (h2 : inI l2) : hMet G l yX9_arePair cX9_arePair 3 (some .boolean) d 0 0 [vR G.1 l0, vI l1, vI l2] (m_X9_arePair l0 l1 l2) := by
  refine hMet.of (lv := [(0, vR G.1 l0), (1, vI l1), (2, vI l2)]) (by decide +kernel) (by simp [lg_sl, vR_cat, vI_cat, vL_cat, vS_cat2, vT_cat2]) (by simp [lv_args, vR_cat, vI_cat, vL_cat, vS_cat2, vT_cat2]) (fun C K X => ?_)
  obtain ⟨rfl, rfl, K⟩ := K
  exact z_X9_arePair d hd ⟨rfl, rfl, K⟩ X l0 l1 l2 h1 h2
def m_X9_carry_L17 : hM :=
  hret ((-1))
def m_X9_carry_L52 : hM :=
  hret ((-1))
def m_X9_carry (l0 : Nat) (l1 : Int) (l2 : Int) (l3 : Int) : hM :=
  hcallV 9 l0 (m_X9_arePair l0 l1 l2) fun v1 =>
  hif (v1 = 0) (
m_X9_carry_L17) (
hcallV 9 l0 (m_X9_isBridge l0 l3) fun v2 =>
  hif (v2 ≠ 0) (
hgR 9 l0 3 fun v3 =>
  hgR 4 v3 2 fun v4 =>
  haI 20 v4 l1 fun v5 =>
  hgR 9 l0 3 fun v6 =>
  hgR 4 v6 2 fun v7 =>
  haI 20 v7 l2 fun v8 =>
  hif (v5 ≠ v8) (
m_X9_carry_L52) (
hgR 9 l0 3 fun v9 =>
  hcallV 4 v9 (m_X4_canCross v9 l1 l3) fun v10 =>
  hif (v10 ≠ 0) (
hcallV 9 l0 (m_X9_keepAct l0) fun _ =>
  hgR 9 l0 3 fun v11 =>
  hcallV 4 v11 (m_X4_goOver v11 l1 l3) fun _ =>
  hgR 9 l0 3 fun v12 =>
  hgR 4 v12 2 fun v13 =>
  hgR 9 l0 3 fun v14 =>
  hgR 4 v14 2 fun v15 =>
  haI 20 v15 l1 fun v16 =>
  hsI 20 v13 l2 v16 <|
  hgR 9 l0 3 fun v17 =>
  hgR 4 v17 2 fun v18 =>
  haI 20 v18 l1 fun v19 =>
  hret v19) (
m_X9_carry_L52))) (
m_X9_carry_L17))
set_option maxRecDepth 4000 in
theorem z_X9_carry_L17 (d : Nat) (hd : 3 ≤ d) {C : hCx} (K : hCtx C.1 C.2.2.1 d 0 0 "carry" C) (X : hOK C cX9_carry RX9 4 (some .int)) : hSim C (some .int) 0 0 4 17 [] [] 0 0 (m_X9_carry_L17) := by
  obtain ⟨⟨hf, hlo⟩, ⟨hc1, hc2⟩, hf1, hl1⟩ := K_room K (by omega)
  have hcs : 0 ≤ C.2.2.2.2.1.cells ∧ 0 ≤ C.2.2.2.2.1.slots := ⟨Nat.zero_le _, Nat.zero_le _⟩
  unfold m_X9_carry_L17
  refine s_iconst (n := (-1)) (pc2 := 18) X dX9_carry_17 rfl ?_
  exact s_iret X dX9_carry_18 (inI_c (-1) rfl)
set_option maxRecDepth 4000 in
theorem z_X9_carry_L52 (d : Nat) (hd : 3 ≤ d) {C : hCx} (K : hCtx C.1 C.2.2.1 d 0 0 "carry" C) (X : hOK C cX9_carry RX9 4 (some .int)) : hSim C (some .int) 0 0 4 52 [] [] 0 0 (m_X9_carry_L52) := by
  obtain ⟨⟨hf, hlo⟩, ⟨hc1, hc2⟩, hf1, hl1⟩ := K_room K (by omega)
  have hcs : 0 ≤ C.2.2.2.2.1.cells ∧ 0 ≤ C.2.2.2.2.1.slots := ⟨Nat.zero_le _, Nat.zero_le _⟩
  unfold m_X9_carry_L52
  refine s_iconst (n := (-1)) (pc2 := 53) X dX9_carry_52 rfl ?_
  exact s_iret X dX9_carry_53 (inI_c (-1) rfl)
set_option maxRecDepth 4000 in
set_option maxHeartbeats 20000000 in
theorem z_X9_carry (d : Nat) (hd : 3 ≤ d) {C : hCx} (K : hCtx C.1 C.2.2.1 d 0 0 "carry" C) (X : hOK C cX9_carry RX9 4 (some .int)) (l0 : Nat) (l1 : Int) (l2 : Int) (l3 : Int) (h1 : inI l1) (h2 : inI l2) (h3 : inI l3) : hSim C (some .int) 0 0 4 0 [(0, vR C.1.1 l0), (1, vI l1), (2, vI l2), (3, vI l3)] [] 0 0 (m_X9_carry l0 l1 l2 l3) := by
  obtain ⟨⟨hf, hlo⟩, ⟨hc1, hc2⟩, hf1, hl1⟩ := K_room K (by omega)
  have hcs : 0 ≤ C.2.2.2.2.1.cells ∧ 0 ≤ C.2.2.2.2.1.slots := ⟨Nat.zero_le _, Nat.zero_le _⟩
  unfold m_X9_carry
  refine s_aload_n (j := 0) (pc2 := 1) X dX9_carry_0 rfl rfl ?_
  refine s_iload_n (j := 1) (pc2 := 2) X dX9_carry_1 rfl rfl ?_
  refine s_iload_n (j := 2) (pc2 := 3) X dX9_carry_2 rfl rfl ?_
  refine s_callVZ (d2 := d - 1) (As := [vI l1, vI l2]) (st := []) (pc2 := 6) X dX9_carry_3 rfl ml_RX9_219 im_X9_arePair se_X9_arePair kX9 rfl (c_X9_arePair (d - 1) (by omega) C.1 C.2.2.1 l0 l1 l2 h1 h2) hy_X9_arePair rfl rfl hf hlo (st_room (Nat.le_of_ble_eq_true rfl)) hcs (fun v1 hv1 => ?_)
  refine s_ifeq (tgt := 17) X dX9_carry_6 (by decide) rfl hv1 ?_ ?_
  · refine s_sub (lv2 := []) [] rfl ?_
    exact z_X9_carry_L17 d hd K X
  · refine s_aload_n (j := 0) (pc2 := 10) X dX9_carry_9 rfl rfl ?_
    refine s_iload_n (j := 3) (pc2 := 11) X dX9_carry_10 rfl rfl ?_
    refine s_callVZ (d2 := d - 1) (As := [vI l3]) (st := []) (pc2 := 14) X dX9_carry_11 rfl ml_RX9_161 im_X9_isBridge se_X9_isBridge kX9 rfl (c_X9_isBridge (d - 1) (by omega) C.1 C.2.2.1 l0 l3 h3) hy_X9_isBridge rfl rfl hf hlo (st_room (Nat.le_of_ble_eq_true rfl)) hcs (fun v2 hv2 => ?_)
    refine s_ifne (tgt := 19) X dX9_carry_14 (by decide) rfl hv2 ?_ ?_
    · refine s_aload_n (j := 0) (pc2 := 20) X dX9_carry_19 rfl rfl ?_
      refine s_getR (pc2 := 23) X dX9_carry_20 rfl fl_RX9_71 rfl (fun v3 => ?_)
      refine s_getR (pc2 := 26) X dX9_carry_23 rfl fl_RX9_137 rfl (fun v4 => ?_)
      refine s_iload_n (j := 1) (pc2 := 27) X dX9_carry_26 rfl rfl ?_
      refine s_iald (pc2 := 28) X dX9_carry_27 rfl (fun v5 hv5 => ?_)
      refine s_aload_n (j := 0) (pc2 := 29) X dX9_carry_28 rfl rfl ?_
      refine s_getR (pc2 := 32) X dX9_carry_29 rfl fl_RX9_71 rfl (fun v6 => ?_)
      refine s_getR (pc2 := 35) X dX9_carry_32 rfl fl_RX9_137 rfl (fun v7 => ?_)
      refine s_iload_n (j := 2) (pc2 := 36) X dX9_carry_35 rfl rfl ?_
      refine s_iald (pc2 := 37) X dX9_carry_36 rfl (fun v8 hv8 => ?_)
      refine s_icne (tgt := 52) X dX9_carry_37 (by decide) rfl hv5 hv8 ?_ ?_
      · refine s_sub (lv2 := []) [] rfl ?_
        exact z_X9_carry_L52 d hd K X
      · refine s_aload_n (j := 0) (pc2 := 41) X dX9_carry_40 rfl rfl ?_
        refine s_getR (pc2 := 44) X dX9_carry_41 rfl fl_RX9_71 rfl (fun v9 => ?_)
        refine s_iload_n (j := 1) (pc2 := 45) X dX9_carry_44 rfl rfl ?_
        refine s_iload_n (j := 3) (pc2 := 46) X dX9_carry_45 rfl rfl ?_
        refine s_callVZ (d2 := d - 1) (As := [vI l1, vI l3]) (st := []) (pc2 := 49) X dX9_carry_46 rfl ml_RX9_205 im_X4_canCross se_X4_canCross kX4 rfl (c_X4_canCross (d - 1) (by omega) C.1 C.2.2.1 v9 l1 l3 h1 h3) hy_X4_canCross rfl rfl hf hlo (st_room (Nat.le_of_ble_eq_true rfl)) hcs (fun v10 hv10 => ?_)
        refine s_ifne (tgt := 54) X dX9_carry_49 (by decide) rfl hv10 ?_ ?_
        · refine s_aload_n (j := 0) (pc2 := 55) X dX9_carry_54 rfl rfl ?_
          refine s_callVV (d2 := d - 1) (As := []) (st := []) (pc2 := 58) X dX9_carry_55 rfl ml_RX9_209 im_X9_keepAct se_X9_keepAct kX9 rfl (c_X9_keepAct (d - 1) (by omega) C.1 C.2.2.1 l0) hy_X9_keepAct rfl rfl hf hlo (st_room (Nat.le_of_ble_eq_true rfl)) hcs (fun _ => ?_)
          refine s_aload_n (j := 0) (pc2 := 59) X dX9_carry_58 rfl rfl ?_
          refine s_getR (pc2 := 62) X dX9_carry_59 rfl fl_RX9_71 rfl (fun v11 => ?_)
          refine s_iload_n (j := 1) (pc2 := 63) X dX9_carry_62 rfl rfl ?_
          refine s_iload_n (j := 3) (pc2 := 64) X dX9_carry_63 rfl rfl ?_
          refine s_callVV (d2 := d - 1) (As := [vI l1, vI l3]) (st := []) (pc2 := 67) X dX9_carry_64 rfl ml_RX9_212 im_X4_goOver se_X4_goOver kX4 rfl (c_X4_goOver (d - 1) (by omega) C.1 C.2.2.1 v11 l1 l3 h1 h3) hy_X4_goOver rfl rfl hf hlo (st_room (Nat.le_of_ble_eq_true rfl)) hcs (fun _ => ?_)
          refine s_aload_n (j := 0) (pc2 := 68) X dX9_carry_67 rfl rfl ?_
          refine s_getR (pc2 := 71) X dX9_carry_68 rfl fl_RX9_71 rfl (fun v12 => ?_)
          refine s_getR (pc2 := 74) X dX9_carry_71 rfl fl_RX9_137 rfl (fun v13 => ?_)
          refine s_iload_n (j := 2) (pc2 := 75) X dX9_carry_74 rfl rfl ?_
          refine s_aload_n (j := 0) (pc2 := 76) X dX9_carry_75 rfl rfl ?_
          refine s_getR (pc2 := 79) X dX9_carry_76 rfl fl_RX9_71 rfl (fun v14 => ?_)
          refine s_getR (pc2 := 82) X dX9_carry_79 rfl fl_RX9_137 rfl (fun v15 => ?_)
          refine s_iload_n (j := 1) (pc2 := 83) X dX9_carry_82 rfl rfl ?_
          refine s_iald (pc2 := 84) X dX9_carry_83 rfl (fun v16 hv16 => ?_)
          refine s_iast (pc2 := 85) X dX9_carry_84 rfl hv16 ?_
          refine s_aload_n (j := 0) (pc2 := 86) X dX9_carry_85 rfl rfl ?_
          refine s_getR (pc2 := 89) X dX9_carry_86 rfl fl_RX9_71 rfl (fun v17 => ?_)
          refine s_getR (pc2 := 92) X dX9_carry_89 rfl fl_RX9_137 rfl (fun v18 => ?_)
          refine s_iload_n (j := 1) (pc2 := 93) X dX9_carry_92 rfl rfl ?_
          refine s_iald (pc2 := 94) X dX9_carry_93 rfl (fun v19 hv19 => ?_)
          exact s_iret X dX9_carry_94 hv19
        · refine s_sub (lv2 := []) [] rfl ?_
          exact z_X9_carry_L52 d hd K X
    · refine s_sub (lv2 := []) [] rfl ?_
      exact z_X9_carry_L17 d hd K X
theorem c_X9_carry (d : Nat) (hd : 3 ≤ d) (G : hG) (l : Launch) (l0 : Nat) (l1 : Int) (l2 : Int) (l3 : Int) (h1 : inI l1) (h2 : inI l2) (h3 : inI l3) : hMet G l yX9_carry cX9_carry 4 (some .int) d 0 0 [vR G.1 l0, vI l1, vI l2, vI l3] (m_X9_carry l0 l1 l2 l3) := by
  refine hMet.of (lv := [(0, vR G.1 l0), (1, vI l1), (2, vI l2), (3, vI l3)]) (by decide +kernel) (by simp [lg_sl, vR_cat, vI_cat, vL_cat, vS_cat2, vT_cat2]) (by simp [lv_args, vR_cat, vI_cat, vL_cat, vS_cat2, vT_cat2]) (fun C K X => ?_)
  obtain ⟨rfl, rfl, K⟩ := K
  exact z_X9_carry d hd ⟨rfl, rfl, K⟩ X l0 l1 l2 l3 h1 h2 h3
def m_X9_rebuild (l0 : Nat) (l1 : Int) : hM :=
  hcallV 9 l0 (m_X9_isBridge l0 l1) fun v1 =>
  hif (v1 ≠ 0) (
hgR 9 l0 3 fun v2 =>
  hcallV 4 v2 (m_X4_crossedByAll v2 l1) fun v3 =>
  hlet v3 fun (w4 : Int) =>
  hif (w4 ≠ 0) (
hcallV 9 l0 (m_X9_keepAct l0) fun _ =>
  hgR 9 l0 3 fun v5 =>
  hcallV 4 v5 (m_X4_forget v5 l1) fun _ =>
  hret w4) (
hret ((-1)))) (
hret ((-1)))
set_option maxRecDepth 4000 in
set_option maxHeartbeats 20000000 in
theorem z_X9_rebuild (d : Nat) (hd : 3 ≤ d) {C : hCx} (K : hCtx C.1 C.2.2.1 d 0 0 "rebuild" C) (X : hOK C cX9_rebuild RX9 3 (some .int)) (l0 : Nat) (l1 : Int) (h1 : inI l1) : hSim C (some .int) 0 0 3 0 [(0, vR C.1.1 l0), (1, vI l1)] [] 0 0 (m_X9_rebuild l0 l1) := by
  obtain ⟨⟨hf, hlo⟩, ⟨hc1, hc2⟩, hf1, hl1⟩ := K_room K (by omega)
  have hcs : 0 ≤ C.2.2.2.2.1.cells ∧ 0 ≤ C.2.2.2.2.1.slots := ⟨Nat.zero_le _, Nat.zero_le _⟩
  unfold m_X9_rebuild
  refine s_aload_n (j := 0) (pc2 := 1) X dX9_rebuild_0 rfl rfl ?_
  refine s_iload_n (j := 1) (pc2 := 2) X dX9_rebuild_1 rfl rfl ?_
  refine s_callVZ (d2 := d - 1) (As := [vI l1]) (st := []) (pc2 := 5) X dX9_rebuild_2 rfl ml_RX9_161 im_X9_isBridge se_X9_isBridge kX9 rfl (c_X9_isBridge (d - 1) (by omega) C.1 C.2.2.1 l0 l1 h1) hy_X9_isBridge rfl rfl hf hlo (st_room (Nat.le_of_ble_eq_true rfl)) hcs (fun v1 hv1 => ?_)
  refine s_ifne (tgt := 10) X dX9_rebuild_5 (by decide) rfl hv1 ?_ ?_
  · refine s_aload_n (j := 0) (pc2 := 11) X dX9_rebuild_10 rfl rfl ?_
    refine s_getR (pc2 := 14) X dX9_rebuild_11 rfl fl_RX9_71 rfl (fun v2 => ?_)
    refine s_iload_n (j := 1) (pc2 := 15) X dX9_rebuild_14 rfl rfl ?_
    refine s_callVI (d2 := d - 1) (As := [vI l1]) (st := []) (pc2 := 18) X dX9_rebuild_15 rfl ml_RX9_173 im_X4_crossedByAll se_X4_crossedByAll kX4 rfl (c_X4_crossedByAll (d - 1) (by omega) C.1 C.2.2.1 v2 l1 h1) hy_X4_crossedByAll rfl rfl hf hlo (st_room (Nat.le_of_ble_eq_true rfl)) hcs (fun v3 hv3 => ?_)
    refine s_istore_n (pc2 := 19) X dX9_rebuild_18 rfl (by decide) rfl rfl cat1_I hv3 (fun w4 hw4 => ?_)
    refine s_iload_n (j := 0) (pc2 := 20) X dX9_rebuild_19 rfl rfl ?_
    refine s_ifne (tgt := 25) X dX9_rebuild_20 (by decide) rfl hw4 ?_ ?_
    · refine s_aload_n (j := 1) (pc2 := 26) X dX9_rebuild_25 rfl rfl ?_
      refine s_callVV (d2 := d - 1) (As := []) (st := []) (pc2 := 29) X dX9_rebuild_26 rfl ml_RX9_209 im_X9_keepAct se_X9_keepAct kX9 rfl (c_X9_keepAct (d - 1) (by omega) C.1 C.2.2.1 l0) hy_X9_keepAct rfl rfl hf hlo (st_room (Nat.le_of_ble_eq_true rfl)) hcs (fun _ => ?_)
      refine s_aload_n (j := 1) (pc2 := 30) X dX9_rebuild_29 rfl rfl ?_
      refine s_getR (pc2 := 33) X dX9_rebuild_30 rfl fl_RX9_71 rfl (fun v5 => ?_)
      refine s_iload_n (j := 2) (pc2 := 34) X dX9_rebuild_33 rfl rfl ?_
      refine s_callVV (d2 := d - 1) (As := [vI l1]) (st := []) (pc2 := 37) X dX9_rebuild_34 rfl ml_RX9_222 im_X4_forget se_X4_forget kX4 rfl (c_X4_forget (d - 1) (by omega) C.1 C.2.2.1 v5 l1 h1) hy_X4_forget rfl rfl hf hlo (st_room (Nat.le_of_ble_eq_true rfl)) hcs (fun _ => ?_)
      refine s_iload_n (j := 0) (pc2 := 38) X dX9_rebuild_37 rfl rfl ?_
      exact s_iret X dX9_rebuild_38 hw4
    · refine s_iconst (n := (-1)) (pc2 := 24) X dX9_rebuild_23 rfl ?_
      exact s_iret X dX9_rebuild_24 (inI_c (-1) rfl)
  · refine s_iconst (n := (-1)) (pc2 := 9) X dX9_rebuild_8 rfl ?_
    exact s_iret X dX9_rebuild_9 (inI_c (-1) rfl)
theorem c_X9_rebuild (d : Nat) (hd : 3 ≤ d) (G : hG) (l : Launch) (l0 : Nat) (l1 : Int) (h1 : inI l1) : hMet G l yX9_rebuild cX9_rebuild 3 (some .int) d 0 0 [vR G.1 l0, vI l1] (m_X9_rebuild l0 l1) := by
  refine hMet.of (lv := [(0, vR G.1 l0), (1, vI l1)]) (by decide +kernel) (by simp [lg_sl, vR_cat, vI_cat, vL_cat, vS_cat2, vT_cat2]) (by simp [lv_args, vR_cat, vI_cat, vL_cat, vS_cat2, vT_cat2]) (fun C K X => ?_)
  obtain ⟨rfl, rfl, K⟩ := K
  exact z_X9_rebuild d hd ⟨rfl, rfl, K⟩ X l0 l1 h1
def m_X9_hasTown_L18 (s0 : Int) : hM :=
  hretZ s0
def m_X9_hasTown (l0 : Nat) : hM :=
  hgR 9 l0 3 fun v1 =>
  hgR 4 v1 0 fun v2 =>
  hgI 7 v2 0 fun v3 =>
  hif (v3 ≤ 0) (
m_X9_hasTown_L18 0) (
m_X9_hasTown_L18 1)
set_option maxRecDepth 4000 in
theorem z_X9_hasTown_L18 (d : Nat) (hd : 1 ≤ d) {C : hCx} (K : hCtx C.1 C.2.2.1 d 0 0 "hasTown" C) (X : hOK C cX9_hasTown RX9 1 (some .boolean)) (s0 : Int) (g0 : inI s0) : hSim C (some .boolean) 0 0 1 18 [] [vI s0] 0 0 (m_X9_hasTown_L18 s0) := by
  obtain ⟨⟨hf, hlo⟩, ⟨hc1, hc2⟩, hf1, hl1⟩ := K_room K (by omega)
  have hcs : 0 ≤ C.2.2.2.2.1.cells ∧ 0 ≤ C.2.2.2.2.1.slots := ⟨Nat.zero_le _, Nat.zero_le _⟩
  unfold m_X9_hasTown_L18
  exact s_zret X dX9_hasTown_18
set_option maxRecDepth 4000 in
set_option maxHeartbeats 20000000 in
theorem z_X9_hasTown (d : Nat) (hd : 1 ≤ d) {C : hCx} (K : hCtx C.1 C.2.2.1 d 0 0 "hasTown" C) (X : hOK C cX9_hasTown RX9 1 (some .boolean)) (l0 : Nat) : hSim C (some .boolean) 0 0 1 0 [(0, vR C.1.1 l0)] [] 0 0 (m_X9_hasTown l0) := by
  obtain ⟨⟨hf, hlo⟩, ⟨hc1, hc2⟩, hf1, hl1⟩ := K_room K (by omega)
  have hcs : 0 ≤ C.2.2.2.2.1.cells ∧ 0 ≤ C.2.2.2.2.1.slots := ⟨Nat.zero_le _, Nat.zero_le _⟩
  unfold m_X9_hasTown
  refine s_aload_n (j := 0) (pc2 := 1) X dX9_hasTown_0 rfl rfl ?_
  refine s_getR (pc2 := 4) X dX9_hasTown_1 rfl fl_RX9_71 rfl (fun v1 => ?_)
  refine s_getR (pc2 := 7) X dX9_hasTown_4 rfl fl_RX9_140 rfl (fun v2 => ?_)
  refine s_getI (pc2 := 10) X dX9_hasTown_7 rfl fl_RX9_176 rfl (fun v3 hv3 => ?_)
  refine s_ifle (tgt := 17) X dX9_hasTown_10 (by decide) rfl hv3 ?_ ?_
  · refine s_iconst (n := 0) (pc2 := 18) X dX9_hasTown_17 rfl ?_
    refine s_sub (lv2 := []) [] rfl ?_
    exact z_X9_hasTown_L18 d hd K X 0 (inI_c 0 rfl)
  · refine s_iconst (n := 1) (pc2 := 14) X dX9_hasTown_13 rfl ?_
    refine s_goto (pc2 := 18) X dX9_hasTown_14 (by decide) ?_
    refine s_sub (lv2 := []) [] rfl ?_
    exact z_X9_hasTown_L18 d hd K X 1 (inI_c 1 rfl)
theorem c_X9_hasTown (d : Nat) (hd : 1 ≤ d) (G : hG) (l : Launch) (l0 : Nat) : hMet G l yX9_hasTown cX9_hasTown 1 (some .boolean) d 0 0 [vR G.1 l0] (m_X9_hasTown l0) := by
  refine hMet.of (lv := [(0, vR G.1 l0)]) (by decide +kernel) (by simp [lg_sl, vR_cat, vI_cat, vL_cat, vS_cat2, vT_cat2]) (by simp [lv_args, vR_cat, vI_cat, vL_cat, vS_cat2, vT_cat2]) (fun C K X => ?_)
  obtain ⟨rfl, rfl, K⟩ := K
  exact z_X9_hasTown d hd ⟨rfl, rfl, K⟩ X l0
def m_X9_day_L20 : hM :=
  hret ((-1))
def m_X9_day (l0 : Nat) : hM :=
  hcallV 9 l0 (m_X9_hasTown l0) fun v1 =>
  hif (v1 = 0) (
m_X9_day_L20) (
hgR 9 l0 3 fun v2 =>
  hgI 4 v2 1 fun v3 =>
  hif (v3 < 999) (
hcallV 9 l0 (m_X9_keepAct l0) fun _ =>
  hgR 9 l0 3 fun v4 =>
  hcallV 4 v4 (m_X4_endDay v4) fun v5 =>
  hret v5) (
m_X9_day_L20))
set_option maxRecDepth 4000 in
theorem z_X9_day_L20 (d : Nat) (hd : 3 ≤ d) {C : hCx} (K : hCtx C.1 C.2.2.1 d 0 0 "day" C) (X : hOK C cX9_day RX9 1 (some .int)) : hSim C (some .int) 0 0 1 20 [] [] 0 0 (m_X9_day_L20) := by
  obtain ⟨⟨hf, hlo⟩, ⟨hc1, hc2⟩, hf1, hl1⟩ := K_room K (by omega)
  have hcs : 0 ≤ C.2.2.2.2.1.cells ∧ 0 ≤ C.2.2.2.2.1.slots := ⟨Nat.zero_le _, Nat.zero_le _⟩
  unfold m_X9_day_L20
  refine s_iconst (n := (-1)) (pc2 := 21) X dX9_day_20 rfl ?_
  exact s_iret X dX9_day_21 (inI_c (-1) rfl)
set_option maxRecDepth 4000 in
set_option maxHeartbeats 20000000 in
theorem z_X9_day (d : Nat) (hd : 3 ≤ d) {C : hCx} (K : hCtx C.1 C.2.2.1 d 0 0 "day" C) (X : hOK C cX9_day RX9 1 (some .int)) (l0 : Nat) : hSim C (some .int) 0 0 1 0 [(0, vR C.1.1 l0)] [] 0 0 (m_X9_day l0) := by
  obtain ⟨⟨hf, hlo⟩, ⟨hc1, hc2⟩, hf1, hl1⟩ := K_room K (by omega)
  have hcs : 0 ≤ C.2.2.2.2.1.cells ∧ 0 ≤ C.2.2.2.2.1.slots := ⟨Nat.zero_le _, Nat.zero_le _⟩
  unfold m_X9_day
  refine s_aload_n (j := 0) (pc2 := 1) X dX9_day_0 rfl rfl ?_
  refine s_callVZ (d2 := d - 1) (As := []) (st := []) (pc2 := 4) X dX9_day_1 rfl ml_RX9_225 im_X9_hasTown se_X9_hasTown kX9 rfl (c_X9_hasTown (d - 1) (by omega) C.1 C.2.2.1 l0) hy_X9_hasTown rfl rfl hf hlo (st_room (Nat.le_of_ble_eq_true rfl)) hcs (fun v1 hv1 => ?_)
  refine s_ifeq (tgt := 20) X dX9_day_4 (by decide) rfl hv1 ?_ ?_
  · refine s_sub (lv2 := []) [] rfl ?_
    exact z_X9_day_L20 d hd K X
  · refine s_aload_n (j := 0) (pc2 := 8) X dX9_day_7 rfl rfl ?_
    refine s_getR (pc2 := 11) X dX9_day_8 rfl fl_RX9_71 rfl (fun v2 => ?_)
    refine s_getI (pc2 := 14) X dX9_day_11 rfl fl_RX9_191 rfl (fun v3 hv3 => ?_)
    refine s_sipush (n := 999) (pc2 := 17) X dX9_day_14 rfl rfl ?_
    refine s_iclt (tgt := 22) X dX9_day_17 (by decide) rfl hv3 (inI_c 999 rfl) ?_ ?_
    · refine s_aload_n (j := 0) (pc2 := 23) X dX9_day_22 rfl rfl ?_
      refine s_callVV (d2 := d - 1) (As := []) (st := []) (pc2 := 26) X dX9_day_23 rfl ml_RX9_209 im_X9_keepAct se_X9_keepAct kX9 rfl (c_X9_keepAct (d - 1) (by omega) C.1 C.2.2.1 l0) hy_X9_keepAct rfl rfl hf hlo (st_room (Nat.le_of_ble_eq_true rfl)) hcs (fun _ => ?_)
      refine s_aload_n (j := 0) (pc2 := 27) X dX9_day_26 rfl rfl ?_
      refine s_getR (pc2 := 30) X dX9_day_27 rfl fl_RX9_71 rfl (fun v4 => ?_)
      refine s_callVI (d2 := d - 1) (As := []) (st := []) (pc2 := 33) X dX9_day_30 rfl ml_RX9_228 im_X4_endDay se_X4_endDay kX4 rfl (c_X4_endDay (d - 1) (by omega) C.1 C.2.2.1 v4) hy_X4_endDay rfl rfl hf hlo (st_room (Nat.le_of_ble_eq_true rfl)) hcs (fun v5 hv5 => ?_)
      exact s_iret X dX9_day_33 hv5
    · refine s_sub (lv2 := []) [] rfl ?_
      exact z_X9_day_L20 d hd K X
theorem c_X9_day (d : Nat) (hd : 3 ≤ d) (G : hG) (l : Launch) (l0 : Nat) : hMet G l yX9_day cX9_day 1 (some .int) d 0 0 [vR G.1 l0] (m_X9_day l0) := by
  refine hMet.of (lv := [(0, vR G.1 l0)]) (by decide +kernel) (by simp [lg_sl, vR_cat, vI_cat, vL_cat, vS_cat2, vT_cat2]) (by simp [lv_args, vR_cat, vI_cat, vL_cat, vS_cat2, vT_cat2]) (fun C K X => ?_)
  obtain ⟨rfl, rfl, K⟩ := K
  exact z_X9_day d hd ⟨rfl, rfl, K⟩ X l0
def m_X9_undo (l0 : Nat) : hM :=
  hgI 9 l0 7 fun v1 =>
  hif (v1 ≠ 0) (
hgI 9 l0 7 fun v2 =>
  hpI 9 l0 7 ((w32 (v2 - 1))) <|
  hgR 9 l0 3 fun v3 =>
  hgR 9 l0 5 fun v4 =>
  hgI 9 l0 6 fun v5 =>
  hgI 9 l0 7 fun v6 =>
  hnz 20 <|
  haR 25 v4 ((iremZ ((w32 (v5 + v6))) 20)) fun v7 =>
  hcallV 4 v3 (m_X4_copy v3 v7) fun _ =>
  hgI 9 l0 7 fun v8 =>
  hret v8) (
hret ((-1)))
set_option maxRecDepth 4000 in
set_option maxHeartbeats 20000000 in
theorem z_X9_undo (d : Nat) (hd : 2 ≤ d) {C : hCx} (K : hCtx C.1 C.2.2.1 d 0 0 "undo" C) (X : hOK C cX9_undo RX9 1 (some .int)) (l0 : Nat) : hSim C (some .int) 0 0 1 0 [(0, vR C.1.1 l0)] [] 0 0 (m_X9_undo l0) := by
  obtain ⟨⟨hf, hlo⟩, ⟨hc1, hc2⟩, hf1, hl1⟩ := K_room K (by omega)
  have hcs : 0 ≤ C.2.2.2.2.1.cells ∧ 0 ≤ C.2.2.2.2.1.slots := ⟨Nat.zero_le _, Nat.zero_le _⟩
  unfold m_X9_undo
  refine s_aload_n (j := 0) (pc2 := 1) X dX9_undo_0 rfl rfl ?_
  refine s_getI (pc2 := 4) X dX9_undo_1 rfl fl_RX9_35 rfl (fun v1 hv1 => ?_)
  refine s_ifne (tgt := 9) X dX9_undo_4 (by decide) rfl hv1 ?_ ?_
  · refine s_aload_n (j := 0) (pc2 := 10) X dX9_undo_9 rfl rfl ?_
    refine s_dup (pc2 := 11) X dX9_undo_10 rfl (vR_cat _ _) ?_
    refine s_getI (pc2 := 14) X dX9_undo_11 rfl fl_RX9_35 rfl (fun v2 hv2 => ?_)
    refine s_iconst (n := 1) (pc2 := 15) X dX9_undo_14 rfl ?_
    refine s_isub (pc2 := 16) X dX9_undo_15 rfl ?_
    refine s_putI (pc2 := 19) X dX9_undo_16 rfl fl_RX9_35 (Or.inl rfl) rfl (w32_in _) ?_
    refine s_aload_n (j := 0) (pc2 := 20) X dX9_undo_19 rfl rfl ?_
    refine s_getR (pc2 := 23) X dX9_undo_20 rfl fl_RX9_71 rfl (fun v3 => ?_)
    refine s_aload_n (j := 0) (pc2 := 24) X dX9_undo_23 rfl rfl ?_
    refine s_getR (pc2 := 27) X dX9_undo_24 rfl fl_RX9_28 rfl (fun v4 => ?_)
    refine s_aload_n (j := 0) (pc2 := 28) X dX9_undo_27 rfl rfl ?_
    refine s_getI (pc2 := 31) X dX9_undo_28 rfl fl_RX9_32 rfl (fun v5 hv5 => ?_)
    refine s_aload_n (j := 0) (pc2 := 32) X dX9_undo_31 rfl rfl ?_
    refine s_getI (pc2 := 35) X dX9_undo_32 rfl fl_RX9_35 rfl (fun v6 hv6 => ?_)
    refine s_iadd (pc2 := 36) X dX9_undo_35 rfl ?_
    refine s_bipush (n := 20) (pc2 := 38) X dX9_undo_36 rfl rfl ?_
    refine s_irem (pc2 := 39) X dX9_undo_38 rfl (w32_in _) (inI_c 20 rfl) ?_
    refine s_aald25 (pc2 := 40) X dX9_undo_39 rfl (fun v7 => ?_)
    refine s_callVV (d2 := d - 1) (As := [vR C.1.1 v7]) (st := []) (pc2 := 43) X dX9_undo_40 rfl ml_RX9_231 im_X4_copy se_X4_copy kX4 rfl (c_X4_copy (d - 1) (by omega) C.1 C.2.2.1 v3 v7) hy_X4_copy rfl rfl hf hlo (st_room (Nat.le_of_ble_eq_true rfl)) hcs (fun _ => ?_)
    refine s_aload_n (j := 0) (pc2 := 44) X dX9_undo_43 rfl rfl ?_
    refine s_getI (pc2 := 47) X dX9_undo_44 rfl fl_RX9_35 rfl (fun v8 hv8 => ?_)
    exact s_iret X dX9_undo_47 hv8
  · refine s_iconst (n := (-1)) (pc2 := 8) X dX9_undo_7 rfl ?_
    exact s_iret X dX9_undo_8 (inI_c (-1) rfl)
theorem c_X9_undo (d : Nat) (hd : 2 ≤ d) (G : hG) (l : Launch) (l0 : Nat) : hMet G l yX9_undo cX9_undo 1 (some .int) d 0 0 [vR G.1 l0] (m_X9_undo l0) := by
  refine hMet.of (lv := [(0, vR G.1 l0)]) (by decide +kernel) (by simp [lg_sl, vR_cat, vI_cat, vL_cat, vS_cat2, vT_cat2]) (by simp [lv_args, vR_cat, vI_cat, vL_cat, vS_cat2, vT_cat2]) (fun C K X => ?_)
  obtain ⟨rfl, rfl, K⟩ := K
  exact z_X9_undo d hd ⟨rfl, rfl, K⟩ X l0
def m_X9_obey_L110 : hM :=
  hret 0
def m_X9_obey_L90 (k18 : Nat → Nat → Int → Int → Int → Int → Int → hM) (l0 : Nat) (l1 : Nat) (l2 : Int) (l3 : Int) (l4 : Int) (l6 : Int) (l7 : Int) : hM :=
  hlet (w32 (l7 + 1)) fun (w1 : Int) =>
  k18 l0 l1 l2 l3 l4 l6 w1
def m_X9_obey_L18 : Nat → Nat → Nat → Int → Int → Int → Int → Int → hM
  | 0, _, _, _, _, _, _, _ => hfail
  | n + 1, l0, l1, l2, l3, l4, l6, l7 =>
    hgR 9 l0 3 fun v1 =>
  hgR 4 v1 0 fun v2 =>
  hgR 7 v2 2 fun v3 =>
  hgI 1 v3 3 fun v4 =>
  hif (l7 ≥ v4) (
hif (l3 = ((-1))) (
m_X9_obey_L110) (
hgR 9 l0 3 fun v5 =>
  hcallV 4 v5 (m_X4_goOver v5 l2 l3) fun _ =>
  m_X9_obey_L110)) (
hgR 9 l0 3 fun v6 =>
  hcallV 4 v6 (m_X4_canCross v6 l2 l7) fun v7 =>
  hif (v7 = 0) (
m_X9_obey_L90 (m_X9_obey_L18 n) l0 l1 l2 l3 l4 l6 l7) (
hgR 9 l0 3 fun v8 =>
  hgR 9 l0 13 fun v9 =>
  hcallV 4 v8 (m_X4_tellWords v8 l2 l7 l6 v9) fun _ =>
  hgR 9 l0 13 fun v10 =>
  hcallV 3 l1 (m_X3_valueFor l1 v10) fun v11 =>
  hlet v11 fun (w12 : Int) =>
  hif (((lcmpZ w12 l4)) ≤ 0) (
m_X9_obey_L90 (m_X9_obey_L18 n) l0 l1 l2 l3 l4 l6 l7) (
hlet w12 fun (w13 : Int) =>
  hlet l7 fun (w14 : Int) =>
  m_X9_obey_L90 (m_X9_obey_L18 n) l0 l1 l2 w14 w13 l6 l7)))
def m_X9_obey (l0 : Nat) (l1 : Nat) (l2 : Int) : hM :=
  hlet ((-1) : Int) fun (w1 : Int) =>
  hlet (0 : Int) fun (w2 : Int) =>
  hgR 9 l0 3 fun v3 =>
  hcallV 4 v3 (m_X4_nextWant v3 l2) fun v4 =>
  hlet v4 fun (w5 : Int) =>
  hlet (0 : Int) fun (w6 : Int) =>
  m_X9_obey_L18 1000000000 l0 l1 l2 w1 w2 w5 w6
set_option maxRecDepth 4000 in
theorem z_X9_obey_L110 (d : Nat) (hd : 5 ≤ d) {C : hCx} (K : hCtx C.1 C.2.2.1 d 0 0 "obey" C) (X : hOK C cX9_obey RX9 10 none) : hSim C none 0 0 10 110 [] [] 0 0 (m_X9_obey_L110) := by
  obtain ⟨⟨hf, hlo⟩, ⟨hc1, hc2⟩, hf1, hl1⟩ := K_room K (by omega)
  have hcs : 0 ≤ C.2.2.2.2.1.cells ∧ 0 ≤ C.2.2.2.2.1.slots := ⟨Nat.zero_le _, Nat.zero_le _⟩
  unfold m_X9_obey_L110
  exact s_ret X dX9_obey_110
set_option maxRecDepth 4000 in
theorem z_X9_obey_L90 (d : Nat) (hd : 5 ≤ d) {C : hCx} (K : hCtx C.1 C.2.2.1 d 0 0 "obey" C) (X : hOK C cX9_obey RX9 10 none) (k18 : Nat → Nat → Int → Int → Int → Int → Int → hM) (hk18 : ∀ (l0 : Nat) (l1 : Nat) (l2 : Int) (l3 : Int) (l4 : Int) (l6 : Int) (l7 : Int), inI l2 → inI l3 → inL l4 → inI l6 → inI l7 → hSim C none 0 0 10 18 [(0, vR C.1.1 l0), (1, vR C.1.1 l1), (2, vI l2), (3, vI l3), (4, vL l4), (6, vI l6), (7, vI l7)] [] 0 0 (k18 l0 l1 l2 l3 l4 l6 l7)) (l0 : Nat) (l1 : Nat) (l2 : Int) (l3 : Int) (l4 : Int) (l6 : Int) (l7 : Int) (h2 : inI l2) (h3 : inI l3) (h4 : inL l4) (h6 : inI l6) (h7 : inI l7) : hSim C none 0 0 10 90 [(0, vR C.1.1 l0), (1, vR C.1.1 l1), (2, vI l2), (3, vI l3), (4, vL l4), (6, vI l6), (7, vI l7)] [] 0 0 (m_X9_obey_L90 k18 l0 l1 l2 l3 l4 l6 l7) := by
  obtain ⟨⟨hf, hlo⟩, ⟨hc1, hc2⟩, hf1, hl1⟩ := K_room K (by omega)
  have hcs : 0 ≤ C.2.2.2.2.1.cells ∧ 0 ≤ C.2.2.2.2.1.slots := ⟨Nat.zero_le _, Nat.zero_le _⟩
  unfold m_X9_obey_L90
  refine s_iinc (j := 6) (pc2 := 93) X dX9_obey_90 rfl (by decide) rfl rfl rfl cat1_I (fun w1 hw1 => ?_)
  refine s_goto (pc2 := 18) X dX9_obey_93 (by decide) ?_
  refine s_sub (lv2 := [(0, vR C.1.1 l0), (1, vR C.1.1 l1), (2, vI l2), (3, vI l3), (4, vL l4), (6, vI l6), (7, vI w1)]) [1, 2, 3, 4, 5, 6, 0] rfl ?_
  exact hk18 l0 l1 l2 l3 l4 l6 w1 h2 h3 h4 h6 hw1
set_option maxRecDepth 4000 in
theorem z_X9_obey_L18 (d : Nat) (hd : 5 ≤ d) {C : hCx} (K : hCtx C.1 C.2.2.1 d 0 0 "obey" C) (X : hOK C cX9_obey RX9 10 none) : ∀ (n : Nat) (l0 : Nat) (l1 : Nat) (l2 : Int) (l3 : Int) (l4 : Int) (l6 : Int) (l7 : Int) (h2 : inI l2) (h3 : inI l3) (h4 : inL l4) (h6 : inI l6) (h7 : inI l7), hSim C none 0 0 10 18 [(0, vR C.1.1 l0), (1, vR C.1.1 l1), (2, vI l2), (3, vI l3), (4, vL l4), (6, vI l6), (7, vI l7)] [] 0 0 (m_X9_obey_L18 n l0 l1 l2 l3 l4 l6 l7) := by
  obtain ⟨⟨hf, hlo⟩, ⟨hc1, hc2⟩, hf1, hl1⟩ := K_room K (by omega)
  have hcs : 0 ≤ C.2.2.2.2.1.cells ∧ 0 ≤ C.2.2.2.2.1.slots := ⟨Nat.zero_le _, Nat.zero_le _⟩
  intro n
  induction n with
  | zero => intros; exact s_none (fun _ => rfl)
  | succ n ih =>
    intro l0 l1 l2 l3 l4 l6 l7 h2 h3 h4 h6 h7
    unfold m_X9_obey_L18
    refine s_iload (j := 6) (pc2 := 20) X dX9_obey_18 rfl rfl ?_
    refine s_aload_n (j := 0) (pc2 := 21) X dX9_obey_20 rfl rfl ?_
    refine s_getR (pc2 := 24) X dX9_obey_21 rfl fl_RX9_71 rfl (fun v1 => ?_)
    refine s_getR (pc2 := 27) X dX9_obey_24 rfl fl_RX9_140 rfl (fun v2 => ?_)
    refine s_getR (pc2 := 30) X dX9_obey_27 rfl fl_RX9_87 rfl (fun v3 => ?_)
    refine s_getI (pc2 := 33) X dX9_obey_30 rfl fl_RX9_127 rfl (fun v4 hv4 => ?_)
    refine s_icge (tgt := 96) X dX9_obey_33 (by decide) rfl h7 hv4 ?_ ?_
    · refine s_iload_n (j := 3) (pc2 := 97) X dX9_obey_96 rfl rfl ?_
      refine s_iconst (n := (-1)) (pc2 := 98) X dX9_obey_97 rfl ?_
      refine s_iceq (tgt := 110) X dX9_obey_98 (by decide) rfl h3 (inI_c (-1) rfl) ?_ ?_
      · refine s_sub (lv2 := []) [] rfl ?_
        exact z_X9_obey_L110 d hd K X
      · refine s_aload_n (j := 0) (pc2 := 102) X dX9_obey_101 rfl rfl ?_
        refine s_getR (pc2 := 105) X dX9_obey_102 rfl fl_RX9_71 rfl (fun v5 => ?_)
        refine s_iload_n (j := 2) (pc2 := 106) X dX9_obey_105 rfl rfl ?_
        refine s_iload_n (j := 3) (pc2 := 107) X dX9_obey_106 rfl rfl ?_
        refine s_callVV (d2 := d - 1) (As := [vI l2, vI l3]) (st := []) (pc2 := 110) X dX9_obey_107 rfl ml_RX9_212 im_X4_goOver se_X4_goOver kX4 rfl (c_X4_goOver (d - 1) (by omega) C.1 C.2.2.1 v5 l2 l3 h2 h3) hy_X4_goOver rfl rfl hf hlo (st_room (Nat.le_of_ble_eq_true rfl)) hcs (fun _ => ?_)
        refine s_sub (lv2 := []) [] rfl ?_
        exact z_X9_obey_L110 d hd K X
    · refine s_aload_n (j := 0) (pc2 := 37) X dX9_obey_36 rfl rfl ?_
      refine s_getR (pc2 := 40) X dX9_obey_37 rfl fl_RX9_71 rfl (fun v6 => ?_)
      refine s_iload_n (j := 2) (pc2 := 41) X dX9_obey_40 rfl rfl ?_
      refine s_iload (j := 6) (pc2 := 43) X dX9_obey_41 rfl rfl ?_
      refine s_callVZ (d2 := d - 1) (As := [vI l2, vI l7]) (st := []) (pc2 := 46) X dX9_obey_43 rfl ml_RX9_205 im_X4_canCross se_X4_canCross kX4 rfl (c_X4_canCross (d - 1) (by omega) C.1 C.2.2.1 v6 l2 l7 h2 h7) hy_X4_canCross rfl rfl hf hlo (st_room (Nat.le_of_ble_eq_true rfl)) hcs (fun v7 hv7 => ?_)
      refine s_ifeq (tgt := 90) X dX9_obey_46 (by decide) rfl hv7 ?_ ?_
      · exact z_X9_obey_L90 d hd K X (m_X9_obey_L18 n) ih l0 l1 l2 l3 l4 l6 l7 h2 h3 h4 h6 h7
      · refine s_aload_n (j := 0) (pc2 := 50) X dX9_obey_49 rfl rfl ?_
        refine s_getR (pc2 := 53) X dX9_obey_50 rfl fl_RX9_71 rfl (fun v8 => ?_)
        refine s_iload_n (j := 2) (pc2 := 54) X dX9_obey_53 rfl rfl ?_
        refine s_iload (j := 6) (pc2 := 56) X dX9_obey_54 rfl rfl ?_
        refine s_iload (j := 5) (pc2 := 58) X dX9_obey_56 rfl rfl ?_
        refine s_aload_n (j := 0) (pc2 := 59) X dX9_obey_58 rfl rfl ?_
        refine s_getR (pc2 := 62) X dX9_obey_59 rfl fl_RX9_48 rfl (fun v9 => ?_)
        refine s_callVV (d2 := d - 1) (As := [vI l2, vI l7, vI l6, vR C.1.1 v9]) (st := []) (pc2 := 65) X dX9_obey_62 rfl ml_RX9_327 im_X4_tellWords se_X4_tellWords kX4 rfl (c_X4_tellWords (d - 1) (by omega) C.1 C.2.2.1 v8 l2 l7 l6 v9 h2 h7 h6) hy_X4_tellWords rfl rfl hf hlo (st_room (Nat.le_of_ble_eq_true rfl)) hcs (fun _ => ?_)
        refine s_aload_n (j := 1) (pc2 := 66) X dX9_obey_65 rfl rfl ?_
        refine s_aload_n (j := 0) (pc2 := 67) X dX9_obey_66 rfl rfl ?_
        refine s_getR (pc2 := 70) X dX9_obey_67 rfl fl_RX9_48 rfl (fun v10 => ?_)
        refine s_callVL (d2 := d - 1) (As := [vR C.1.1 v10]) (st := []) (pc2 := 73) X dX9_obey_70 rfl ml_RX9_331 im_X3_valueFor se_X3_valueFor kX3 rfl (c_X3_valueFor (d - 1) (by omega) C.1 C.2.2.1 l1 v10) hy_X3_valueFor rfl rfl hf hlo (st_room (Nat.le_of_ble_eq_true rfl)) hcs (fun v11 hv11 => ?_)
        refine s_lstore (pc2 := 75) X dX9_obey_73 rfl (by decide) rfl rfl cat1_I hv11 (fun w12 hw12 => ?_)
        refine s_lload (j := 0) (pc2 := 77) X dX9_obey_75 rfl rfl ?_
        refine s_lload (j := 5) (pc2 := 79) X dX9_obey_77 rfl rfl ?_
        refine s_lcmp (pc2 := 80) X dX9_obey_79 rfl hw12 h4 ?_
        refine s_ifle (tgt := 90) X dX9_obey_80 (by decide) rfl (lcmpZ_in _ _) ?_ ?_
        · refine s_sub (lv2 := [(0, vR C.1.1 l0), (1, vR C.1.1 l1), (2, vI l2), (3, vI l3), (4, vL l4), (6, vI l6), (7, vI l7)]) [1, 2, 3, 4, 5, 6, 7] rfl ?_
          exact z_X9_obey_L90 d hd K X (m_X9_obey_L18 n) ih l0 l1 l2 l3 l4 l6 l7 h2 h3 h4 h6 h7
        · refine s_lload (j := 0) (pc2 := 85) X dX9_obey_83 rfl rfl ?_
          refine s_lstore (pc2 := 87) X dX9_obey_85 rfl (by decide) rfl rfl cat1_I hw12 (fun w13 hw13 => ?_)
          refine s_iload (j := 7) (pc2 := 89) X dX9_obey_87 rfl rfl ?_
          refine s_istore_n (pc2 := 90) X dX9_obey_89 rfl (by decide) rfl rfl cat1_I h7 (fun w14 hw14 => ?_)
          refine s_sub (lv2 := [(0, vR C.1.1 l0), (1, vR C.1.1 l1), (2, vI l2), (3, vI w14), (4, vL w13), (6, vI l6), (7, vI l7)]) [3, 4, 5, 0, 1, 6, 7] rfl ?_
          exact z_X9_obey_L90 d hd K X (m_X9_obey_L18 n) ih l0 l1 l2 w14 w13 l6 l7 h2 hw14 hw13 h6 h7
set_option maxRecDepth 4000 in
set_option maxHeartbeats 20000000 in
theorem z_X9_obey (d : Nat) (hd : 5 ≤ d) {C : hCx} (K : hCtx C.1 C.2.2.1 d 0 0 "obey" C) (X : hOK C cX9_obey RX9 10 none) (l0 : Nat) (l1 : Nat) (l2 : Int) (h2 : inI l2) : hSim C none 0 0 10 0 [(0, vR C.1.1 l0), (1, vR C.1.1 l1), (2, vI l2)] [] 0 0 (m_X9_obey l0 l1 l2) := by
  obtain ⟨⟨hf, hlo⟩, ⟨hc1, hc2⟩, hf1, hl1⟩ := K_room K (by omega)
  have hcs : 0 ≤ C.2.2.2.2.1.cells ∧ 0 ≤ C.2.2.2.2.1.slots := ⟨Nat.zero_le _, Nat.zero_le _⟩
  unfold m_X9_obey
  refine s_iconst (n := (-1)) (pc2 := 1) X dX9_obey_0 rfl ?_
  refine s_istore_n (pc2 := 2) X dX9_obey_1 rfl (by decide) rfl rfl cat1_I (inI_c (-1) rfl) (fun w1 hw1 => ?_)
  refine s_lconst (z := 0) (pc2 := 3) X dX9_obey_2 rfl rfl ?_
  refine s_lstore (pc2 := 5) X dX9_obey_3 rfl (by decide) rfl rfl cat1_I (inL_c 0 rfl) (fun w2 hw2 => ?_)
  refine s_aload_n (j := 2) (pc2 := 6) X dX9_obey_5 rfl rfl ?_
  refine s_getR (pc2 := 9) X dX9_obey_6 rfl fl_RX9_71 rfl (fun v3 => ?_)
  refine s_iload_n (j := 4) (pc2 := 10) X dX9_obey_9 rfl rfl ?_
  refine s_callVI (d2 := d - 1) (As := [vI l2]) (st := []) (pc2 := 13) X dX9_obey_10 rfl ml_RX9_324 im_X4_nextWant se_X4_nextWant kX4 rfl (c_X4_nextWant (d - 1) (by omega) C.1 C.2.2.1 v3 l2 h2) hy_X4_nextWant rfl rfl hf hlo (st_room (Nat.le_of_ble_eq_true rfl)) hcs (fun v4 hv4 => ?_)
  refine s_istore (pc2 := 15) X dX9_obey_13 rfl (by decide) rfl rfl cat1_N hv4 (fun w5 hw5 => ?_)
  refine s_iconst (n := 0) (pc2 := 16) X dX9_obey_15 rfl ?_
  refine s_istore (pc2 := 18) X dX9_obey_16 rfl (by decide) rfl rfl cat1_I (inI_c 0 rfl) (fun w6 hw6 => ?_)
  refine s_sub (lv2 := [(0, vR C.1.1 l0), (1, vR C.1.1 l1), (2, vI l2), (3, vI w1), (4, vL w2), (6, vI w5), (7, vI w6)]) [4, 5, 6, 3, 2, 1, 0] rfl ?_
  exact z_X9_obey_L18 d hd K X 1000000000 l0 l1 l2 w1 w2 w5 w6 h2 hw1 hw2 hw5 hw6
theorem c_X9_obey (d : Nat) (hd : 5 ≤ d) (G : hG) (l : Launch) (l0 : Nat) (l1 : Nat) (l2 : Int) (h2 : inI l2) : hMet G l yX9_obey cX9_obey 10 none d 0 0 [vR G.1 l0, vR G.1 l1, vI l2] (m_X9_obey l0 l1 l2) := by
  refine hMet.of (lv := [(0, vR G.1 l0), (1, vR G.1 l1), (2, vI l2)]) (by decide +kernel) (by simp [lg_sl, vR_cat, vI_cat, vL_cat, vS_cat2, vT_cat2]) (by simp [lv_args, vR_cat, vI_cat, vL_cat, vS_cat2, vT_cat2]) (fun C K X => ?_)
  obtain ⟨rfl, rfl, K⟩ := K
  exact z_X9_obey d hd ⟨rfl, rfl, K⟩ X l0 l1 l2 h2
def m_X9_run_L30 : hM :=
  hret ((-1))
def m_X9_run_L67 (k58 : Nat → Int → Int → Int → Int → hM) : Nat → Nat → Int → Int → Int → Int → Int → hM
  | 0, _, _, _, _, _, _ => hfail
  | n + 1, l0, l1, l2, l3, l4, l5 =>
    hgR 9 l0 3 fun v1 =>
  hgR 4 v1 0 fun v2 =>
  hgI 7 v2 7 fun v3 =>
  hif (l5 ≥ v3) (
hgR 9 l0 3 fun v4 =>
  hcallV 4 v4 (m_X4_endDay v4) fun v5 =>
  hlet ((w32 (l3 + v5))) fun (w6 : Int) =>
  hlet (w32 (l4 + 1)) fun (w7 : Int) =>
  k58 l0 l1 l2 w6 w7) (
hgR 9 l0 1 fun v8 =>
  haR 24 v8 l1 fun v9 =>
  hcallV 9 l0 (m_X9_obey l0 v9 l5) fun _ =>
  hlet (w32 (l5 + 1)) fun (w10 : Int) =>
  m_X9_run_L67 k58 n l0 l1 l2 l3 l4 w10)
def m_X9_run_L58 : Nat → Nat → Int → Int → Int → Int → hM
  | 0, _, _, _, _, _ => hfail
  | n + 1, l0, l1, l2, l3, l4 =>
    hif (l4 ≥ l2) (
hret l3) (
hlet (0 : Int) fun (w1 : Int) =>
  m_X9_run_L67 (m_X9_run_L58 n) 1000000000 l0 l1 l2 l3 l4 w1)
def m_X9_run (l0 : Nat) (l1 : Int) (l2 : Int) : hM :=
  hcallV 9 l0 (m_X9_hasTown l0) fun v1 =>
  hif (v1 = 0) (
m_X9_run_L30) (
hif (l1 < 0) (
m_X9_run_L30) (
hgI 9 l0 2 fun v2 =>
  hif (l1 ≥ v2) (
m_X9_run_L30) (
hif (l2 < 1) (
m_X9_run_L30) (
hif (l2 ≤ 60) (
hgR 9 l0 3 fun v3 =>
  hgI 4 v3 1 fun v4 =>
  hif (((w32 (v4 + l2))) ≤ 999) (
hcallV 9 l0 (m_X9_forgetActs l0) fun _ =>
  hlet (0 : Int) fun (w5 : Int) =>
  hlet (0 : Int) fun (w6 : Int) =>
  m_X9_run_L58 1000000000 l0 l1 l2 w5 w6) (
hret ((-1)))) (
m_X9_run_L30)))))
set_option maxRecDepth 4000 in
theorem z_X9_run_L30 (d : Nat) (hd : 6 ≤ d) {C : hCx} (K : hCtx C.1 C.2.2.1 d 0 0 "run" C) (X : hOK C cX9_run RX9 6 (some .int)) : hSim C (some .int) 0 0 6 30 [] [] 0 0 (m_X9_run_L30) := by
  obtain ⟨⟨hf, hlo⟩, ⟨hc1, hc2⟩, hf1, hl1⟩ := K_room K (by omega)
  have hcs : 0 ≤ C.2.2.2.2.1.cells ∧ 0 ≤ C.2.2.2.2.1.slots := ⟨Nat.zero_le _, Nat.zero_le _⟩
  unfold m_X9_run_L30
  refine s_iconst (n := (-1)) (pc2 := 31) X dX9_run_30 rfl ?_
  exact s_iret X dX9_run_31 (inI_c (-1) rfl)
set_option maxRecDepth 4000 in
theorem z_X9_run_L67 (d : Nat) (hd : 6 ≤ d) {C : hCx} (K : hCtx C.1 C.2.2.1 d 0 0 "run" C) (X : hOK C cX9_run RX9 6 (some .int)) (k58 : Nat → Int → Int → Int → Int → hM) (hk58 : ∀ (l0 : Nat) (l1 : Int) (l2 : Int) (l3 : Int) (l4 : Int), inI l1 → inI l2 → inI l3 → inI l4 → hSim C (some .int) 0 0 6 58 [(0, vR C.1.1 l0), (1, vI l1), (2, vI l2), (3, vI l3), (4, vI l4)] [] 0 0 (k58 l0 l1 l2 l3 l4)) : ∀ (n : Nat) (l0 : Nat) (l1 : Int) (l2 : Int) (l3 : Int) (l4 : Int) (l5 : Int) (h1 : inI l1) (h2 : inI l2) (h3 : inI l3) (h4 : inI l4) (h5 : inI l5), hSim C (some .int) 0 0 6 67 [(0, vR C.1.1 l0), (1, vI l1), (2, vI l2), (3, vI l3), (4, vI l4), (5, vI l5)] [] 0 0 (m_X9_run_L67 k58 n l0 l1 l2 l3 l4 l5) := by
  obtain ⟨⟨hf, hlo⟩, ⟨hc1, hc2⟩, hf1, hl1⟩ := K_room K (by omega)
  have hcs : 0 ≤ C.2.2.2.2.1.cells ∧ 0 ≤ C.2.2.2.2.1.slots := ⟨Nat.zero_le _, Nat.zero_le _⟩
  intro n
  induction n with
  | zero => intros; exact s_none (fun _ => rfl)
  | succ n ih =>
    intro l0 l1 l2 l3 l4 l5 h1 h2 h3 h4 h5
    unfold m_X9_run_L67
    refine s_iload (j := 5) (pc2 := 69) X dX9_run_67 rfl rfl ?_
    refine s_aload_n (j := 0) (pc2 := 70) X dX9_run_69 rfl rfl ?_
    refine s_getR (pc2 := 73) X dX9_run_70 rfl fl_RX9_71 rfl (fun v1 => ?_)
    refine s_getR (pc2 := 76) X dX9_run_73 rfl fl_RX9_140 rfl (fun v2 => ?_)
    refine s_getI (pc2 := 79) X dX9_run_76 rfl fl_RX9_185 rfl (fun v3 hv3 => ?_)
    refine s_icge (tgt := 100) X dX9_run_79 (by decide) rfl h5 hv3 ?_ ?_
    · refine s_iload_n (j := 3) (pc2 := 101) X dX9_run_100 rfl rfl ?_
      refine s_aload_n (j := 0) (pc2 := 102) X dX9_run_101 rfl rfl ?_
      refine s_getR (pc2 := 105) X dX9_run_102 rfl fl_RX9_71 rfl (fun v4 => ?_)
      refine s_callVI (d2 := d - 1) (As := []) (st := [vI l3]) (pc2 := 108) X dX9_run_105 rfl ml_RX9_228 im_X4_endDay se_X4_endDay kX4 rfl (c_X4_endDay (d - 1) (by omega) C.1 C.2.2.1 v4) hy_X4_endDay rfl rfl hf hlo (st_room (Nat.le_of_ble_eq_true rfl)) hcs (fun v5 hv5 => ?_)
      refine s_iadd (pc2 := 109) X dX9_run_108 rfl ?_
      refine s_istore_n (pc2 := 110) X dX9_run_109 rfl (by decide) rfl rfl cat1_I (w32_in _) (fun w6 hw6 => ?_)
      refine s_iinc (j := 4) (pc2 := 113) X dX9_run_110 rfl (by decide) rfl rfl rfl cat1_I (fun w7 hw7 => ?_)
      refine s_goto (pc2 := 58) X dX9_run_113 (by decide) ?_
      refine s_sub (lv2 := [(0, vR C.1.1 l0), (1, vI l1), (2, vI l2), (3, vI w6), (4, vI w7)]) [2, 3, 4, 1, 0] rfl ?_
      exact hk58 l0 l1 l2 w6 w7 h1 h2 hw6 hw7
    · refine s_aload_n (j := 0) (pc2 := 83) X dX9_run_82 rfl rfl ?_
      refine s_aload_n (j := 0) (pc2 := 84) X dX9_run_83 rfl rfl ?_
      refine s_getR (pc2 := 87) X dX9_run_84 rfl fl_RX9_18 rfl (fun v8 => ?_)
      refine s_iload_n (j := 1) (pc2 := 88) X dX9_run_87 rfl rfl ?_
      refine s_aald24 (pc2 := 89) X dX9_run_88 rfl (fun v9 => ?_)
      refine s_iload (j := 5) (pc2 := 91) X dX9_run_89 rfl rfl ?_
      refine s_callVV (d2 := d - 1) (As := [vR C.1.1 v9, vI l5]) (st := []) (pc2 := 94) X dX9_run_91 rfl ml_RX9_235 im_X9_obey se_X9_obey kX9 rfl (c_X9_obey (d - 1) (by omega) C.1 C.2.2.1 l0 v9 l5 h5) hy_X9_obey rfl rfl hf hlo (st_room (Nat.le_of_ble_eq_true rfl)) hcs (fun _ => ?_)
      refine s_iinc (j := 5) (pc2 := 97) X dX9_run_94 rfl (by decide) rfl rfl rfl cat1_I (fun w10 hw10 => ?_)
      refine s_goto (pc2 := 67) X dX9_run_97 (by decide) ?_
      refine s_sub (lv2 := [(0, vR C.1.1 l0), (1, vI l1), (2, vI l2), (3, vI l3), (4, vI l4), (5, vI w10)]) [1, 2, 3, 4, 5, 0] rfl ?_
      exact ih l0 l1 l2 l3 l4 w10 h1 h2 h3 h4 hw10
set_option maxRecDepth 4000 in
theorem z_X9_run_L58 (d : Nat) (hd : 6 ≤ d) {C : hCx} (K : hCtx C.1 C.2.2.1 d 0 0 "run" C) (X : hOK C cX9_run RX9 6 (some .int)) : ∀ (n : Nat) (l0 : Nat) (l1 : Int) (l2 : Int) (l3 : Int) (l4 : Int) (h1 : inI l1) (h2 : inI l2) (h3 : inI l3) (h4 : inI l4), hSim C (some .int) 0 0 6 58 [(0, vR C.1.1 l0), (1, vI l1), (2, vI l2), (3, vI l3), (4, vI l4)] [] 0 0 (m_X9_run_L58 n l0 l1 l2 l3 l4) := by
  obtain ⟨⟨hf, hlo⟩, ⟨hc1, hc2⟩, hf1, hl1⟩ := K_room K (by omega)
  have hcs : 0 ≤ C.2.2.2.2.1.cells ∧ 0 ≤ C.2.2.2.2.1.slots := ⟨Nat.zero_le _, Nat.zero_le _⟩
  intro n
  induction n with
  | zero => intros; exact s_none (fun _ => rfl)
  | succ n ih =>
    intro l0 l1 l2 l3 l4 h1 h2 h3 h4
    unfold m_X9_run_L58
    refine s_iload (j := 4) (pc2 := 60) X dX9_run_58 rfl rfl ?_
    refine s_iload_n (j := 2) (pc2 := 61) X dX9_run_60 rfl rfl ?_
    refine s_icge (tgt := 116) X dX9_run_61 (by decide) rfl h4 h2 ?_ ?_
    · refine s_iload_n (j := 3) (pc2 := 117) X dX9_run_116 rfl rfl ?_
      exact s_iret X dX9_run_117 h3
    · refine s_iconst (n := 0) (pc2 := 65) X dX9_run_64 rfl ?_
      refine s_istore (pc2 := 67) X dX9_run_65 rfl (by decide) rfl rfl cat1_I (inI_c 0 rfl) (fun w1 hw1 => ?_)
      refine s_sub (lv2 := [(0, vR C.1.1 l0), (1, vI l1), (2, vI l2), (3, vI l3), (4, vI l4), (5, vI w1)]) [1, 2, 3, 4, 5, 0] rfl ?_
      exact z_X9_run_L67 d hd K X (m_X9_run_L58 n) ih 1000000000 l0 l1 l2 l3 l4 w1 h1 h2 h3 h4 hw1
set_option maxRecDepth 4000 in
set_option maxHeartbeats 20000000 in
theorem z_X9_run (d : Nat) (hd : 6 ≤ d) {C : hCx} (K : hCtx C.1 C.2.2.1 d 0 0 "run" C) (X : hOK C cX9_run RX9 6 (some .int)) (l0 : Nat) (l1 : Int) (l2 : Int) (h1 : inI l1) (h2 : inI l2) : hSim C (some .int) 0 0 6 0 [(0, vR C.1.1 l0), (1, vI l1), (2, vI l2)] [] 0 0 (m_X9_run l0 l1 l2) := by
  obtain ⟨⟨hf, hlo⟩, ⟨hc1, hc2⟩, hf1, hl1⟩ := K_room K (by omega)
  have hcs : 0 ≤ C.2.2.2.2.1.cells ∧ 0 ≤ C.2.2.2.2.1.slots := ⟨Nat.zero_le _, Nat.zero_le _⟩
  unfold m_X9_run
  refine s_aload_n (j := 0) (pc2 := 1) X dX9_run_0 rfl rfl ?_
  refine s_callVZ (d2 := d - 1) (As := []) (st := []) (pc2 := 4) X dX9_run_1 rfl ml_RX9_225 im_X9_hasTown se_X9_hasTown kX9 rfl (c_X9_hasTown (d - 1) (by omega) C.1 C.2.2.1 l0) hy_X9_hasTown rfl rfl hf hlo (st_room (Nat.le_of_ble_eq_true rfl)) hcs (fun v1 hv1 => ?_)
  refine s_ifeq (tgt := 30) X dX9_run_4 (by decide) rfl hv1 ?_ ?_
  · refine s_sub (lv2 := []) [] rfl ?_
    exact z_X9_run_L30 d hd K X
  · refine s_iload_n (j := 1) (pc2 := 8) X dX9_run_7 rfl rfl ?_
    refine s_iflt (tgt := 30) X dX9_run_8 (by decide) rfl h1 ?_ ?_
    · refine s_sub (lv2 := []) [] rfl ?_
      exact z_X9_run_L30 d hd K X
    · refine s_iload_n (j := 1) (pc2 := 12) X dX9_run_11 rfl rfl ?_
      refine s_aload_n (j := 0) (pc2 := 13) X dX9_run_12 rfl rfl ?_
      refine s_getI (pc2 := 16) X dX9_run_13 rfl fl_RX9_22 rfl (fun v2 hv2 => ?_)
      refine s_icge (tgt := 30) X dX9_run_16 (by decide) rfl h1 hv2 ?_ ?_
      · refine s_sub (lv2 := []) [] rfl ?_
        exact z_X9_run_L30 d hd K X
      · refine s_iload_n (j := 2) (pc2 := 20) X dX9_run_19 rfl rfl ?_
        refine s_iconst (n := 1) (pc2 := 21) X dX9_run_20 rfl ?_
        refine s_iclt (tgt := 30) X dX9_run_21 (by decide) rfl h2 (inI_c 1 rfl) ?_ ?_
        · refine s_sub (lv2 := []) [] rfl ?_
          exact z_X9_run_L30 d hd K X
        · refine s_iload_n (j := 2) (pc2 := 25) X dX9_run_24 rfl rfl ?_
          refine s_bipush (n := 60) (pc2 := 27) X dX9_run_25 rfl rfl ?_
          refine s_icle (tgt := 32) X dX9_run_27 (by decide) rfl h2 (inI_c 60 rfl) ?_ ?_
          · refine s_aload_n (j := 0) (pc2 := 33) X dX9_run_32 rfl rfl ?_
            refine s_getR (pc2 := 36) X dX9_run_33 rfl fl_RX9_71 rfl (fun v3 => ?_)
            refine s_getI (pc2 := 39) X dX9_run_36 rfl fl_RX9_191 rfl (fun v4 hv4 => ?_)
            refine s_iload_n (j := 2) (pc2 := 40) X dX9_run_39 rfl rfl ?_
            refine s_iadd (pc2 := 41) X dX9_run_40 rfl ?_
            refine s_sipush (n := 999) (pc2 := 44) X dX9_run_41 rfl rfl ?_
            refine s_icle (tgt := 49) X dX9_run_44 (by decide) rfl (w32_in _) (inI_c 999 rfl) ?_ ?_
            · refine s_aload_n (j := 0) (pc2 := 50) X dX9_run_49 rfl rfl ?_
              refine s_callVV (d2 := d - 1) (As := []) (st := []) (pc2 := 53) X dX9_run_50 rfl ml_RX9_124 im_X9_forgetActs se_X9_forgetActs kX9 rfl (c_X9_forgetActs (d - 1) (by omega) C.1 C.2.2.1 l0) hy_X9_forgetActs rfl rfl hf hlo (st_room (Nat.le_of_ble_eq_true rfl)) hcs (fun _ => ?_)
              refine s_iconst (n := 0) (pc2 := 54) X dX9_run_53 rfl ?_
              refine s_istore_n (pc2 := 55) X dX9_run_54 rfl (by decide) rfl rfl cat1_I (inI_c 0 rfl) (fun w5 hw5 => ?_)
              refine s_iconst (n := 0) (pc2 := 56) X dX9_run_55 rfl ?_
              refine s_istore (pc2 := 58) X dX9_run_56 rfl (by decide) rfl rfl cat1_I (inI_c 0 rfl) (fun w6 hw6 => ?_)
              refine s_sub (lv2 := [(0, vR C.1.1 l0), (1, vI l1), (2, vI l2), (3, vI w5), (4, vI w6)]) [2, 3, 4, 1, 0] rfl ?_
              exact z_X9_run_L58 d hd K X 1000000000 l0 l1 l2 w5 w6 h1 h2 hw5 hw6
            · refine s_iconst (n := (-1)) (pc2 := 48) X dX9_run_47 rfl ?_
              exact s_iret X dX9_run_48 (inI_c (-1) rfl)
          · refine s_sub (lv2 := []) [] rfl ?_
            exact z_X9_run_L30 d hd K X
theorem c_X9_run (d : Nat) (hd : 6 ≤ d) (G : hG) (l : Launch) (l0 : Nat) (l1 : Int) (l2 : Int) (h1 : inI l1) (h2 : inI l2) : hMet G l yX9_run cX9_run 6 (some .int) d 0 0 [vR G.1 l0, vI l1, vI l2] (m_X9_run l0 l1 l2) := by
  refine hMet.of (lv := [(0, vR G.1 l0), (1, vI l1), (2, vI l2)]) (by decide +kernel) (by simp [lg_sl, vR_cat, vI_cat, vL_cat, vS_cat2, vT_cat2]) (by simp [lv_args, vR_cat, vI_cat, vL_cat, vS_cat2, vT_cat2]) (fun C K X => ?_)
  obtain ⟨rfl, rfl, K⟩ := K
  exact z_X9_run d hd ⟨rfl, rfl, K⟩ X l0 l1 l2 h1 h2
def m_X9_way_L35 : hM :=
  hret ((-3))
def m_X9_way_L98 (s0 : Int) : hM :=
  hret s0
def m_X9_way (l0 : Nat) (l1 : Int) (l2 : Int) (l3 : Int) : hM :=
  hcallV 9 l0 (m_X9_isPerson l0 l1) fun v1 =>
  hif (v1 = 0) (
m_X9_way_L35) (
hif (l2 < 0) (
m_X9_way_L35) (
hgR 9 l0 3 fun v2 =>
  hgR 4 v2 0 fun v3 =>
  hgI 7 v3 0 fun v4 =>
  hif (l2 ≥ v4) (
m_X9_way_L35) (
hif (l3 < 0) (
m_X9_way_L35) (
hif (l3 ≤ 1) (
hgR 9 l0 3 fun v5 =>
  hgR 9 l0 14 fun v6 =>
  hcallV 4 v5 (m_X4_measure v5 l1 l2 v6) fun _ =>
  hgR 9 l0 14 fun v7 =>
  hgR 9 l0 3 fun v8 =>
  hgR 4 v8 2 fun v9 =>
  haI 20 v9 l1 fun v10 =>
  haI 20 v7 v10 fun v11 =>
  hlet v11 fun (w12 : Int) =>
  hif (w12 ≠ 99) (
hif (l3 ≠ 0) (
hgR 9 l0 3 fun v13 =>
  hgR 9 l0 14 fun v14 =>
  hcallV 4 v13 (m_X4_firstStep v13 l1 v14) fun v15 =>
  m_X9_way_L98 v15) (
m_X9_way_L98 w12)) (
hret ((-2)))) (
m_X9_way_L35)))))
set_option maxRecDepth 4000 in
theorem z_X9_way_L35 (d : Nat) (hd : 4 ≤ d) {C : hCx} (K : hCtx C.1 C.2.2.1 d 0 0 "way" C) (X : hOK C cX9_way RX9 5 (some .int)) : hSim C (some .int) 0 0 5 35 [] [] 0 0 (m_X9_way_L35) := by
  obtain ⟨⟨hf, hlo⟩, ⟨hc1, hc2⟩, hf1, hl1⟩ := K_room K (by omega)
  have hcs : 0 ≤ C.2.2.2.2.1.cells ∧ 0 ≤ C.2.2.2.2.1.slots := ⟨Nat.zero_le _, Nat.zero_le _⟩
  unfold m_X9_way_L35
  refine s_bipush (n := (-3)) (pc2 := 37) X dX9_way_35 rfl rfl ?_
  exact s_iret X dX9_way_37 (inI_c (-3) rfl)
set_option maxRecDepth 4000 in
theorem z_X9_way_L98 (d : Nat) (hd : 4 ≤ d) {C : hCx} (K : hCtx C.1 C.2.2.1 d 0 0 "way" C) (X : hOK C cX9_way RX9 5 (some .int)) (s0 : Int) (g0 : inI s0) : hSim C (some .int) 0 0 5 98 [] [vI s0] 0 0 (m_X9_way_L98 s0) := by
  obtain ⟨⟨hf, hlo⟩, ⟨hc1, hc2⟩, hf1, hl1⟩ := K_room K (by omega)
  have hcs : 0 ≤ C.2.2.2.2.1.cells ∧ 0 ≤ C.2.2.2.2.1.slots := ⟨Nat.zero_le _, Nat.zero_le _⟩
  unfold m_X9_way_L98
  exact s_iret X dX9_way_98 g0
set_option maxRecDepth 4000 in
set_option maxHeartbeats 20000000 in
theorem z_X9_way (d : Nat) (hd : 4 ≤ d) {C : hCx} (K : hCtx C.1 C.2.2.1 d 0 0 "way" C) (X : hOK C cX9_way RX9 5 (some .int)) (l0 : Nat) (l1 : Int) (l2 : Int) (l3 : Int) (h1 : inI l1) (h2 : inI l2) (h3 : inI l3) : hSim C (some .int) 0 0 5 0 [(0, vR C.1.1 l0), (1, vI l1), (2, vI l2), (3, vI l3)] [] 0 0 (m_X9_way l0 l1 l2 l3) := by
  obtain ⟨⟨hf, hlo⟩, ⟨hc1, hc2⟩, hf1, hl1⟩ := K_room K (by omega)
  have hcs : 0 ≤ C.2.2.2.2.1.cells ∧ 0 ≤ C.2.2.2.2.1.slots := ⟨Nat.zero_le _, Nat.zero_le _⟩
  unfold m_X9_way
  refine s_aload_n (j := 0) (pc2 := 1) X dX9_way_0 rfl rfl ?_
  refine s_iload_n (j := 1) (pc2 := 2) X dX9_way_1 rfl rfl ?_
  refine s_callVZ (d2 := d - 1) (As := [vI l1]) (st := []) (pc2 := 5) X dX9_way_2 rfl ml_RX9_133 im_X9_isPerson se_X9_isPerson kX9 rfl (c_X9_isPerson (d - 1) (by omega) C.1 C.2.2.1 l0 l1 h1) hy_X9_isPerson rfl rfl hf hlo (st_room (Nat.le_of_ble_eq_true rfl)) hcs (fun v1 hv1 => ?_)
  refine s_ifeq (tgt := 35) X dX9_way_5 (by decide) rfl hv1 ?_ ?_
  · refine s_sub (lv2 := []) [] rfl ?_
    exact z_X9_way_L35 d hd K X
  · refine s_iload_n (j := 2) (pc2 := 9) X dX9_way_8 rfl rfl ?_
    refine s_iflt (tgt := 35) X dX9_way_9 (by decide) rfl h2 ?_ ?_
    · refine s_sub (lv2 := []) [] rfl ?_
      exact z_X9_way_L35 d hd K X
    · refine s_iload_n (j := 2) (pc2 := 13) X dX9_way_12 rfl rfl ?_
      refine s_aload_n (j := 0) (pc2 := 14) X dX9_way_13 rfl rfl ?_
      refine s_getR (pc2 := 17) X dX9_way_14 rfl fl_RX9_71 rfl (fun v2 => ?_)
      refine s_getR (pc2 := 20) X dX9_way_17 rfl fl_RX9_140 rfl (fun v3 => ?_)
      refine s_getI (pc2 := 23) X dX9_way_20 rfl fl_RX9_176 rfl (fun v4 hv4 => ?_)
      refine s_icge (tgt := 35) X dX9_way_23 (by decide) rfl h2 hv4 ?_ ?_
      · refine s_sub (lv2 := []) [] rfl ?_
        exact z_X9_way_L35 d hd K X
      · refine s_iload_n (j := 3) (pc2 := 27) X dX9_way_26 rfl rfl ?_
        refine s_iflt (tgt := 35) X dX9_way_27 (by decide) rfl h3 ?_ ?_
        · refine s_sub (lv2 := []) [] rfl ?_
          exact z_X9_way_L35 d hd K X
        · refine s_iload_n (j := 3) (pc2 := 31) X dX9_way_30 rfl rfl ?_
          refine s_iconst (n := 1) (pc2 := 32) X dX9_way_31 rfl ?_
          refine s_icle (tgt := 38) X dX9_way_32 (by decide) rfl h3 (inI_c 1 rfl) ?_ ?_
          · refine s_aload_n (j := 0) (pc2 := 39) X dX9_way_38 rfl rfl ?_
            refine s_getR (pc2 := 42) X dX9_way_39 rfl fl_RX9_71 rfl (fun v5 => ?_)
            refine s_iload_n (j := 1) (pc2 := 43) X dX9_way_42 rfl rfl ?_
            refine s_iload_n (j := 2) (pc2 := 44) X dX9_way_43 rfl rfl ?_
            refine s_aload_n (j := 0) (pc2 := 45) X dX9_way_44 rfl rfl ?_
            refine s_getR (pc2 := 48) X dX9_way_45 rfl fl_RX9_52 rfl (fun v6 => ?_)
            refine s_callVV (d2 := d - 1) (As := [vI l1, vI l2, vR C.1.1 v6]) (st := []) (pc2 := 51) X dX9_way_48 rfl ml_RX9_239 im_X4_measure se_X4_measure kX4 rfl (c_X4_measure (d - 1) (by omega) C.1 C.2.2.1 v5 l1 l2 v6 h1 h2) hy_X4_measure rfl rfl hf hlo (st_room (Nat.le_of_ble_eq_true rfl)) hcs (fun _ => ?_)
            refine s_aload_n (j := 0) (pc2 := 52) X dX9_way_51 rfl rfl ?_
            refine s_getR (pc2 := 55) X dX9_way_52 rfl fl_RX9_52 rfl (fun v7 => ?_)
            refine s_aload_n (j := 0) (pc2 := 56) X dX9_way_55 rfl rfl ?_
            refine s_getR (pc2 := 59) X dX9_way_56 rfl fl_RX9_71 rfl (fun v8 => ?_)
            refine s_getR (pc2 := 62) X dX9_way_59 rfl fl_RX9_137 rfl (fun v9 => ?_)
            refine s_iload_n (j := 1) (pc2 := 63) X dX9_way_62 rfl rfl ?_
            refine s_iald (pc2 := 64) X dX9_way_63 rfl (fun v10 hv10 => ?_)
            refine s_iald (pc2 := 65) X dX9_way_64 rfl (fun v11 hv11 => ?_)
            refine s_istore (pc2 := 67) X dX9_way_65 rfl (by decide) rfl rfl cat1_I hv11 (fun w12 hw12 => ?_)
            refine s_iload (j := 0) (pc2 := 69) X dX9_way_67 rfl rfl ?_
            refine s_bipush (n := 99) (pc2 := 71) X dX9_way_69 rfl rfl ?_
            refine s_icne (tgt := 77) X dX9_way_71 (by decide) rfl hw12 (inI_c 99 rfl) ?_ ?_
            · refine s_iload_n (j := 4) (pc2 := 78) X dX9_way_77 rfl rfl ?_
              refine s_ifne (tgt := 86) X dX9_way_78 (by decide) rfl h3 ?_ ?_
              · refine s_aload_n (j := 1) (pc2 := 87) X dX9_way_86 rfl rfl ?_
                refine s_getR (pc2 := 90) X dX9_way_87 rfl fl_RX9_71 rfl (fun v13 => ?_)
                refine s_iload_n (j := 2) (pc2 := 91) X dX9_way_90 rfl rfl ?_
                refine s_aload_n (j := 1) (pc2 := 92) X dX9_way_91 rfl rfl ?_
                refine s_getR (pc2 := 95) X dX9_way_92 rfl fl_RX9_52 rfl (fun v14 => ?_)
                refine s_callVI (d2 := d - 1) (As := [vI l1, vR C.1.1 v14]) (st := []) (pc2 := 98) X dX9_way_95 rfl ml_RX9_243 im_X4_firstStep se_X4_firstStep kX4 rfl (c_X4_firstStep (d - 1) (by omega) C.1 C.2.2.1 v13 l1 v14 h1) hy_X4_firstStep rfl rfl hf hlo (st_room (Nat.le_of_ble_eq_true rfl)) hcs (fun v15 hv15 => ?_)
                refine s_sub (lv2 := []) [] rfl ?_
                exact z_X9_way_L98 d hd K X v15 hv15
              · refine s_iload (j := 0) (pc2 := 83) X dX9_way_81 rfl rfl ?_
                refine s_goto (pc2 := 98) X dX9_way_83 (by decide) ?_
                refine s_sub (lv2 := []) [] rfl ?_
                exact z_X9_way_L98 d hd K X w12 hw12
            · refine s_bipush (n := (-2)) (pc2 := 76) X dX9_way_74 rfl rfl ?_
              exact s_iret X dX9_way_76 (inI_c (-2) rfl)
          · refine s_sub (lv2 := []) [] rfl ?_
            exact z_X9_way_L35 d hd K X
theorem c_X9_way (d : Nat) (hd : 4 ≤ d) (G : hG) (l : Launch) (l0 : Nat) (l1 : Int) (l2 : Int) (l3 : Int) (h1 : inI l1) (h2 : inI l2) (h3 : inI l3) : hMet G l yX9_way cX9_way 5 (some .int) d 0 0 [vR G.1 l0, vI l1, vI l2, vI l3] (m_X9_way l0 l1 l2 l3) := by
  refine hMet.of (lv := [(0, vR G.1 l0), (1, vI l1), (2, vI l2), (3, vI l3)]) (by decide +kernel) (by simp [lg_sl, vR_cat, vI_cat, vL_cat, vS_cat2, vT_cat2]) (by simp [lv_args, vR_cat, vI_cat, vL_cat, vS_cat2, vT_cat2]) (fun C K X => ?_)
  obtain ⟨rfl, rfl, K⟩ := K
  exact z_X9_way d hd ⟨rfl, rfl, K⟩ X l0 l1 l2 l3 h1 h2 h3
def m_X9_canPlan_L24 (s0 : Int) : hM :=
  hretZ s0
def m_X9_canPlan_L23 : hM :=
  m_X9_canPlan_L24 0
def m_X9_canPlan (l0 : Nat) (l1 : Int) (l2 : Int) : hM :=
  hcallV 9 l0 (m_X9_isPerson l0 l1) fun v1 =>
  hif (v1 = 0) (
m_X9_canPlan_L23) (
hif (l2 < 1) (
m_X9_canPlan_L23) (
hif (l2 > 6) (
m_X9_canPlan_L23) (
m_X9_canPlan_L24 1)))
set_option maxRecDepth 4000 in
theorem z_X9_canPlan_L24 (d : Nat) (hd : 2 ≤ d) {C : hCx} (K : hCtx C.1 C.2.2.1 d 0 0 "canPlan" C) (X : hOK C cX9_canPlan RX9 3 (some .boolean)) (s0 : Int) (g0 : inI s0) : hSim C (some .boolean) 0 0 3 24 [] [vI s0] 0 0 (m_X9_canPlan_L24 s0) := by
  obtain ⟨⟨hf, hlo⟩, ⟨hc1, hc2⟩, hf1, hl1⟩ := K_room K (by omega)
  have hcs : 0 ≤ C.2.2.2.2.1.cells ∧ 0 ≤ C.2.2.2.2.1.slots := ⟨Nat.zero_le _, Nat.zero_le _⟩
  unfold m_X9_canPlan_L24
  exact s_zret X dX9_canPlan_24
set_option maxRecDepth 4000 in
theorem z_X9_canPlan_L23 (d : Nat) (hd : 2 ≤ d) {C : hCx} (K : hCtx C.1 C.2.2.1 d 0 0 "canPlan" C) (X : hOK C cX9_canPlan RX9 3 (some .boolean)) : hSim C (some .boolean) 0 0 3 23 [] [] 0 0 (m_X9_canPlan_L23) := by
  obtain ⟨⟨hf, hlo⟩, ⟨hc1, hc2⟩, hf1, hl1⟩ := K_room K (by omega)
  have hcs : 0 ≤ C.2.2.2.2.1.cells ∧ 0 ≤ C.2.2.2.2.1.slots := ⟨Nat.zero_le _, Nat.zero_le _⟩
  unfold m_X9_canPlan_L23
  refine s_iconst (n := 0) (pc2 := 24) X dX9_canPlan_23 rfl ?_
  exact z_X9_canPlan_L24 d hd K X 0 (inI_c 0 rfl)
set_option maxRecDepth 4000 in
set_option maxHeartbeats 20000000 in
theorem z_X9_canPlan (d : Nat) (hd : 2 ≤ d) {C : hCx} (K : hCtx C.1 C.2.2.1 d 0 0 "canPlan" C) (X : hOK C cX9_canPlan RX9 3 (some .boolean)) (l0 : Nat) (l1 : Int) (l2 : Int) (h1 : inI l1) (h2 : inI l2) : hSim C (some .boolean) 0 0 3 0 [(0, vR C.1.1 l0), (1, vI l1), (2, vI l2)] [] 0 0 (m_X9_canPlan l0 l1 l2) := by
  obtain ⟨⟨hf, hlo⟩, ⟨hc1, hc2⟩, hf1, hl1⟩ := K_room K (by omega)
  have hcs : 0 ≤ C.2.2.2.2.1.cells ∧ 0 ≤ C.2.2.2.2.1.slots := ⟨Nat.zero_le _, Nat.zero_le _⟩
  unfold m_X9_canPlan
  refine s_aload_n (j := 0) (pc2 := 1) X dX9_canPlan_0 rfl rfl ?_
  refine s_iload_n (j := 1) (pc2 := 2) X dX9_canPlan_1 rfl rfl ?_
  refine s_callVZ (d2 := d - 1) (As := [vI l1]) (st := []) (pc2 := 5) X dX9_canPlan_2 rfl ml_RX9_133 im_X9_isPerson se_X9_isPerson kX9 rfl (c_X9_isPerson (d - 1) (by omega) C.1 C.2.2.1 l0 l1 h1) hy_X9_isPerson rfl rfl hf hlo (st_room (Nat.le_of_ble_eq_true rfl)) hcs (fun v1 hv1 => ?_)
  refine s_ifeq (tgt := 23) X dX9_canPlan_5 (by decide) rfl hv1 ?_ ?_
  · refine s_sub (lv2 := []) [] rfl ?_
    exact z_X9_canPlan_L23 d hd K X
  · refine s_iload_n (j := 2) (pc2 := 9) X dX9_canPlan_8 rfl rfl ?_
    refine s_iconst (n := 1) (pc2 := 10) X dX9_canPlan_9 rfl ?_
    refine s_iclt (tgt := 23) X dX9_canPlan_10 (by decide) rfl h2 (inI_c 1 rfl) ?_ ?_
    · refine s_sub (lv2 := []) [] rfl ?_
      exact z_X9_canPlan_L23 d hd K X
    · refine s_iload_n (j := 2) (pc2 := 14) X dX9_canPlan_13 rfl rfl ?_
      refine s_bipush (n := 6) (pc2 := 16) X dX9_canPlan_14 rfl rfl ?_
      refine s_icgt (tgt := 23) X dX9_canPlan_16 (by decide) rfl h2 (inI_c 6 rfl) ?_ ?_
      · refine s_sub (lv2 := []) [] rfl ?_
        exact z_X9_canPlan_L23 d hd K X
      · refine s_iconst (n := 1) (pc2 := 20) X dX9_canPlan_19 rfl ?_
        refine s_goto (pc2 := 24) X dX9_canPlan_20 (by decide) ?_
        refine s_sub (lv2 := []) [] rfl ?_
        exact z_X9_canPlan_L24 d hd K X 1 (inI_c 1 rfl)
theorem c_X9_canPlan (d : Nat) (hd : 2 ≤ d) (G : hG) (l : Launch) (l0 : Nat) (l1 : Int) (l2 : Int) (h1 : inI l1) (h2 : inI l2) : hMet G l yX9_canPlan cX9_canPlan 3 (some .boolean) d 0 0 [vR G.1 l0, vI l1, vI l2] (m_X9_canPlan l0 l1 l2) := by
  refine hMet.of (lv := [(0, vR G.1 l0), (1, vI l1), (2, vI l2)]) (by decide +kernel) (by simp [lg_sl, vR_cat, vI_cat, vL_cat, vS_cat2, vT_cat2]) (by simp [lv_args, vR_cat, vI_cat, vL_cat, vS_cat2, vT_cat2]) (fun C K X => ?_)
  obtain ⟨rfl, rfl, K⟩ := K
  exact z_X9_canPlan d hd ⟨rfl, rfl, K⟩ X l0 l1 l2 h1 h2
def m_X9_life_L19 : hM :=
  hret ((-3))
def m_X9_life_L57 : hM :=
  hret ((-2))
def m_X9_life_L85 (s0 : Int) : hM :=
  hret s0
def m_X9_life (l0 : Nat) (l1 : Int) (l2 : Int) (l3 : Int) : hM :=
  hcallV 9 l0 (m_X9_canPlan l0 l1 l2) fun v1 =>
  hif (v1 = 0) (
m_X9_life_L19) (
hif (l3 < 0) (
m_X9_life_L19) (
hif (l3 ≤ 6) (
hgR 9 l0 10 fun v2 =>
  hgR 9 l0 3 fun v3 =>
  hcallV 2 v2 (m_X2_prepare v2 v3 l1 l2) fun _ =>
  hgR 9 l0 10 fun v4 =>
  hcallV 2 v4 (m_X2_solve v4) fun _ =>
  hgR 9 l0 10 fun v5 =>
  hgI 2 v5 9 fun v6 =>
  hif (v6 < 0) (
m_X9_life_L57) (
hif (l3 ≤ l2) (
hif (l3 ≠ 0) (
hgR 9 l0 10 fun v7 =>
  hgR 2 v7 4 fun v8 =>
  haI 20 v8 ((w32 (l3 - 1))) fun v9 =>
  m_X9_life_L85 v9) (
hgR 9 l0 10 fun v10 =>
  hgI 2 v10 9 fun v11 =>
  m_X9_life_L85 v11)) (
m_X9_life_L57))) (
m_X9_life_L19)))
set_option maxRecDepth 4000 in
theorem z_X9_life_L19 (d : Nat) (hd : 21 ≤ d) {C : hCx} (K : hCtx C.1 C.2.2.1 d 0 0 "life" C) (X : hOK C cX9_life RX9 4 (some .int)) : hSim C (some .int) 0 0 4 19 [] [] 0 0 (m_X9_life_L19) := by
  obtain ⟨⟨hf, hlo⟩, ⟨hc1, hc2⟩, hf1, hl1⟩ := K_room K (by omega)
  have hcs : 0 ≤ C.2.2.2.2.1.cells ∧ 0 ≤ C.2.2.2.2.1.slots := ⟨Nat.zero_le _, Nat.zero_le _⟩
  unfold m_X9_life_L19
  refine s_bipush (n := (-3)) (pc2 := 21) X dX9_life_19 rfl rfl ?_
  exact s_iret X dX9_life_21 (inI_c (-3) rfl)
set_option maxRecDepth 4000 in
theorem z_X9_life_L57 (d : Nat) (hd : 21 ≤ d) {C : hCx} (K : hCtx C.1 C.2.2.1 d 0 0 "life" C) (X : hOK C cX9_life RX9 4 (some .int)) : hSim C (some .int) 0 0 4 57 [] [] 0 0 (m_X9_life_L57) := by
  obtain ⟨⟨hf, hlo⟩, ⟨hc1, hc2⟩, hf1, hl1⟩ := K_room K (by omega)
  have hcs : 0 ≤ C.2.2.2.2.1.cells ∧ 0 ≤ C.2.2.2.2.1.slots := ⟨Nat.zero_le _, Nat.zero_le _⟩
  unfold m_X9_life_L57
  refine s_bipush (n := (-2)) (pc2 := 59) X dX9_life_57 rfl rfl ?_
  exact s_iret X dX9_life_59 (inI_c (-2) rfl)
set_option maxRecDepth 4000 in
theorem z_X9_life_L85 (d : Nat) (hd : 21 ≤ d) {C : hCx} (K : hCtx C.1 C.2.2.1 d 0 0 "life" C) (X : hOK C cX9_life RX9 4 (some .int)) (s0 : Int) (g0 : inI s0) : hSim C (some .int) 0 0 4 85 [] [vI s0] 0 0 (m_X9_life_L85 s0) := by
  obtain ⟨⟨hf, hlo⟩, ⟨hc1, hc2⟩, hf1, hl1⟩ := K_room K (by omega)
  have hcs : 0 ≤ C.2.2.2.2.1.cells ∧ 0 ≤ C.2.2.2.2.1.slots := ⟨Nat.zero_le _, Nat.zero_le _⟩
  unfold m_X9_life_L85
  exact s_iret X dX9_life_85 g0
set_option maxRecDepth 4000 in
set_option maxHeartbeats 20000000 in
theorem z_X9_life (d : Nat) (hd : 21 ≤ d) {C : hCx} (K : hCtx C.1 C.2.2.1 d 0 0 "life" C) (X : hOK C cX9_life RX9 4 (some .int)) (l0 : Nat) (l1 : Int) (l2 : Int) (l3 : Int) (h1 : inI l1) (h2 : inI l2) (h3 : inI l3) : hSim C (some .int) 0 0 4 0 [(0, vR C.1.1 l0), (1, vI l1), (2, vI l2), (3, vI l3)] [] 0 0 (m_X9_life l0 l1 l2 l3) := by
  obtain ⟨⟨hf, hlo⟩, ⟨hc1, hc2⟩, hf1, hl1⟩ := K_room K (by omega)
  have hcs : 0 ≤ C.2.2.2.2.1.cells ∧ 0 ≤ C.2.2.2.2.1.slots := ⟨Nat.zero_le _, Nat.zero_le _⟩
  unfold m_X9_life
  refine s_aload_n (j := 0) (pc2 := 1) X dX9_life_0 rfl rfl ?_
  refine s_iload_n (j := 1) (pc2 := 2) X dX9_life_1 rfl rfl ?_
  refine s_iload_n (j := 2) (pc2 := 3) X dX9_life_2 rfl rfl ?_
  refine s_callVZ (d2 := d - 1) (As := [vI l1, vI l2]) (st := []) (pc2 := 6) X dX9_life_3 rfl ml_RX9_247 im_X9_canPlan se_X9_canPlan kX9 rfl (c_X9_canPlan (d - 1) (by omega) C.1 C.2.2.1 l0 l1 l2 h1 h2) hy_X9_canPlan rfl rfl hf hlo (st_room (Nat.le_of_ble_eq_true rfl)) hcs (fun v1 hv1 => ?_)
  refine s_ifeq (tgt := 19) X dX9_life_6 (by decide) rfl hv1 ?_ ?_
  · refine s_sub (lv2 := []) [] rfl ?_
    exact z_X9_life_L19 d hd K X
  · refine s_iload_n (j := 3) (pc2 := 10) X dX9_life_9 rfl rfl ?_
    refine s_iflt (tgt := 19) X dX9_life_10 (by decide) rfl h3 ?_ ?_
    · refine s_sub (lv2 := []) [] rfl ?_
      exact z_X9_life_L19 d hd K X
    · refine s_iload_n (j := 3) (pc2 := 14) X dX9_life_13 rfl rfl ?_
      refine s_bipush (n := 6) (pc2 := 16) X dX9_life_14 rfl rfl ?_
      refine s_icle (tgt := 22) X dX9_life_16 (by decide) rfl h3 (inI_c 6 rfl) ?_ ?_
      · refine s_aload_n (j := 0) (pc2 := 23) X dX9_life_22 rfl rfl ?_
        refine s_getR (pc2 := 26) X dX9_life_23 rfl fl_RX9_81 rfl (fun v2 => ?_)
        refine s_aload_n (j := 0) (pc2 := 27) X dX9_life_26 rfl rfl ?_
        refine s_getR (pc2 := 30) X dX9_life_27 rfl fl_RX9_71 rfl (fun v3 => ?_)
        refine s_iload_n (j := 1) (pc2 := 31) X dX9_life_30 rfl rfl ?_
        refine s_iload_n (j := 2) (pc2 := 32) X dX9_life_31 rfl rfl ?_
        refine s_callVV (d2 := d - 1) (As := [vR C.1.1 v3, vI l1, vI l2]) (st := []) (pc2 := 35) X dX9_life_32 rfl ml_RX9_250 im_X2_prepare se_X2_prepare kX2 rfl (c_X2_prepare (d - 1) (by omega) C.1 C.2.2.1 v2 v3 l1 l2 h1 h2) hy_X2_prepare rfl rfl hf hlo (st_room (Nat.le_of_ble_eq_true rfl)) hcs (fun _ => ?_)
        refine s_aload_n (j := 0) (pc2 := 36) X dX9_life_35 rfl rfl ?_
        refine s_getR (pc2 := 39) X dX9_life_36 rfl fl_RX9_81 rfl (fun v4 => ?_)
        refine s_callVV (d2 := d - 1) (As := []) (st := []) (pc2 := 42) X dX9_life_39 rfl ml_RX9_254 im_X2_solve se_X2_solve kX2 rfl (c_X2_solve (d - 1) (by omega) C.1 C.2.2.1 v4) hy_X2_solve rfl rfl hf hlo (st_room (Nat.le_of_ble_eq_true rfl)) hcs (fun _ => ?_)
        refine s_aload_n (j := 0) (pc2 := 43) X dX9_life_42 rfl rfl ?_
        refine s_getR (pc2 := 46) X dX9_life_43 rfl fl_RX9_81 rfl (fun v5 => ?_)
        refine s_getI (pc2 := 49) X dX9_life_46 rfl fl_RX9_257 rfl (fun v6 hv6 => ?_)
        refine s_iflt (tgt := 57) X dX9_life_49 (by decide) rfl hv6 ?_ ?_
        · refine s_sub (lv2 := []) [] rfl ?_
          exact z_X9_life_L57 d hd K X
        · refine s_iload_n (j := 3) (pc2 := 53) X dX9_life_52 rfl rfl ?_
          refine s_iload_n (j := 2) (pc2 := 54) X dX9_life_53 rfl rfl ?_
          refine s_icle (tgt := 60) X dX9_life_54 (by decide) rfl h3 h2 ?_ ?_
          · refine s_iload_n (j := 3) (pc2 := 61) X dX9_life_60 rfl rfl ?_
            refine s_ifne (tgt := 74) X dX9_life_61 (by decide) rfl h3 ?_ ?_
            · refine s_aload_n (j := 0) (pc2 := 75) X dX9_life_74 rfl rfl ?_
              refine s_getR (pc2 := 78) X dX9_life_75 rfl fl_RX9_81 rfl (fun v7 => ?_)
              refine s_getR (pc2 := 81) X dX9_life_78 rfl fl_RX9_260 rfl (fun v8 => ?_)
              refine s_iload_n (j := 3) (pc2 := 82) X dX9_life_81 rfl rfl ?_
              refine s_iconst (n := 1) (pc2 := 83) X dX9_life_82 rfl ?_
              refine s_isub (pc2 := 84) X dX9_life_83 rfl ?_
              refine s_iald (pc2 := 85) X dX9_life_84 rfl (fun v9 hv9 => ?_)
              refine s_sub (lv2 := []) [] rfl ?_
              exact z_X9_life_L85 d hd K X v9 hv9
            · refine s_aload_n (j := 0) (pc2 := 65) X dX9_life_64 rfl rfl ?_
              refine s_getR (pc2 := 68) X dX9_life_65 rfl fl_RX9_81 rfl (fun v10 => ?_)
              refine s_getI (pc2 := 71) X dX9_life_68 rfl fl_RX9_257 rfl (fun v11 hv11 => ?_)
              refine s_goto (pc2 := 85) X dX9_life_71 (by decide) ?_
              refine s_sub (lv2 := []) [] rfl ?_
              exact z_X9_life_L85 d hd K X v11 hv11
          · refine s_sub (lv2 := []) [] rfl ?_
            exact z_X9_life_L57 d hd K X
      · refine s_sub (lv2 := []) [] rfl ?_
        exact z_X9_life_L19 d hd K X
theorem c_X9_life (d : Nat) (hd : 21 ≤ d) (G : hG) (l : Launch) (l0 : Nat) (l1 : Int) (l2 : Int) (l3 : Int) (h1 : inI l1) (h2 : inI l2) (h3 : inI l3) : hMet G l yX9_life cX9_life 4 (some .int) d 0 0 [vR G.1 l0, vI l1, vI l2, vI l3] (m_X9_life l0 l1 l2 l3) := by
  refine hMet.of (lv := [(0, vR G.1 l0), (1, vI l1), (2, vI l2), (3, vI l3)]) (by decide +kernel) (by simp [lg_sl, vR_cat, vI_cat, vL_cat, vS_cat2, vT_cat2]) (by simp [lv_args, vR_cat, vI_cat, vL_cat, vS_cat2, vT_cat2]) (fun C K X => ?_)
  obtain ⟨rfl, rfl, K⟩ := K
  exact z_X9_life d hd ⟨rfl, rfl, K⟩ X l0 l1 l2 l3 h1 h2 h3
def m_X9_earnedWithExtra (l0 : Nat) (l1 : Int) (l2 : Int) (l3 : Int) : hM :=
  hgR 9 l0 10 fun v1 =>
  hgR 9 l0 3 fun v2 =>
  hcallV 2 v1 (m_X2_prepare v1 v2 l1 l2) fun _ =>
  hgR 9 l0 10 fun v3 =>
  hcallV 2 v3 (m_X2_giveMore v3 l3) fun _ =>
  hgR 9 l0 10 fun v4 =>
  hcallV 2 v4 (m_X2_solve v4) fun _ =>
  hgR 9 l0 10 fun v5 =>
  hgI 2 v5 9 fun v6 =>
  hcall (m_J9_max_7cf53 v6 0) fun v7 =>
  hret v7
set_option maxRecDepth 4000 in
set_option maxHeartbeats 20000000 in
theorem z_X9_earnedWithExtra (d : Nat) (hd : 21 ≤ d) {C : hCx} (K : hCtx C.1 C.2.2.1 d 0 0 "earnedWithExtra" C) (X : hOK C cX9_earnedWithExtra RX9 4 (some .int)) (l0 : Nat) (l1 : Int) (l2 : Int) (l3 : Int) (h1 : inI l1) (h2 : inI l2) (h3 : inI l3) : hSim C (some .int) 0 0 4 0 [(0, vR C.1.1 l0), (1, vI l1), (2, vI l2), (3, vI l3)] [] 0 0 (m_X9_earnedWithExtra l0 l1 l2 l3) := by
  obtain ⟨⟨hf, hlo⟩, ⟨hc1, hc2⟩, hf1, hl1⟩ := K_room K (by omega)
  have hcs : 0 ≤ C.2.2.2.2.1.cells ∧ 0 ≤ C.2.2.2.2.1.slots := ⟨Nat.zero_le _, Nat.zero_le _⟩
  unfold m_X9_earnedWithExtra
  refine s_aload_n (j := 0) (pc2 := 1) X dX9_earnedWithExtra_0 rfl rfl ?_
  refine s_getR (pc2 := 4) X dX9_earnedWithExtra_1 rfl fl_RX9_81 rfl (fun v1 => ?_)
  refine s_aload_n (j := 0) (pc2 := 5) X dX9_earnedWithExtra_4 rfl rfl ?_
  refine s_getR (pc2 := 8) X dX9_earnedWithExtra_5 rfl fl_RX9_71 rfl (fun v2 => ?_)
  refine s_iload_n (j := 1) (pc2 := 9) X dX9_earnedWithExtra_8 rfl rfl ?_
  refine s_iload_n (j := 2) (pc2 := 10) X dX9_earnedWithExtra_9 rfl rfl ?_
  refine s_callVV (d2 := d - 1) (As := [vR C.1.1 v2, vI l1, vI l2]) (st := []) (pc2 := 13) X dX9_earnedWithExtra_10 rfl ml_RX9_250 im_X2_prepare se_X2_prepare kX2 rfl (c_X2_prepare (d - 1) (by omega) C.1 C.2.2.1 v1 v2 l1 l2 h1 h2) hy_X2_prepare rfl rfl hf hlo (st_room (Nat.le_of_ble_eq_true rfl)) hcs (fun _ => ?_)
  refine s_aload_n (j := 0) (pc2 := 14) X dX9_earnedWithExtra_13 rfl rfl ?_
  refine s_getR (pc2 := 17) X dX9_earnedWithExtra_14 rfl fl_RX9_81 rfl (fun v3 => ?_)
  refine s_iload_n (j := 3) (pc2 := 18) X dX9_earnedWithExtra_17 rfl rfl ?_
  refine s_callVV (d2 := d - 1) (As := [vI l3]) (st := []) (pc2 := 21) X dX9_earnedWithExtra_18 rfl ml_RX9_335 im_X2_giveMore se_X2_giveMore kX2 rfl (c_X2_giveMore (d - 1) (by omega) C.1 C.2.2.1 v3 l3 h3) hy_X2_giveMore rfl rfl hf hlo (st_room (Nat.le_of_ble_eq_true rfl)) hcs (fun _ => ?_)
  refine s_aload_n (j := 0) (pc2 := 22) X dX9_earnedWithExtra_21 rfl rfl ?_
  refine s_getR (pc2 := 25) X dX9_earnedWithExtra_22 rfl fl_RX9_81 rfl (fun v4 => ?_)
  refine s_callVV (d2 := d - 1) (As := []) (st := []) (pc2 := 28) X dX9_earnedWithExtra_25 rfl ml_RX9_254 im_X2_solve se_X2_solve kX2 rfl (c_X2_solve (d - 1) (by omega) C.1 C.2.2.1 v4) hy_X2_solve rfl rfl hf hlo (st_room (Nat.le_of_ble_eq_true rfl)) hcs (fun _ => ?_)
  refine s_aload_n (j := 0) (pc2 := 29) X dX9_earnedWithExtra_28 rfl rfl ?_
  refine s_getR (pc2 := 32) X dX9_earnedWithExtra_29 rfl fl_RX9_81 rfl (fun v5 => ?_)
  refine s_getI (pc2 := 35) X dX9_earnedWithExtra_32 rfl fl_RX9_257 rfl (fun v6 hv6 => ?_)
  refine s_iconst (n := 0) (pc2 := 36) X dX9_earnedWithExtra_35 rfl ?_
  refine s_callSI (d2 := d - 1) (As := [vI v6, vI 0]) (st := []) (pc2 := 39) X dX9_earnedWithExtra_36 rfl ml_RX9_338 sm_J9_max_7cf53 (c_J9_max_7cf53 (d - 1) (by omega) C.1 C.2.2.1 v6 0 hv6 (inI_c 0 rfl)) hy_J9_max_7cf53 rfl rfl hf hlo (st_room (Nat.le_of_ble_eq_true rfl)) hcs (fun v7 hv7 => ?_)
  exact s_iret X dX9_earnedWithExtra_39 hv7
theorem c_X9_earnedWithExtra (d : Nat) (hd : 21 ≤ d) (G : hG) (l : Launch) (l0 : Nat) (l1 : Int) (l2 : Int) (l3 : Int) (h1 : inI l1) (h2 : inI l2) (h3 : inI l3) : hMet G l yX9_earnedWithExtra cX9_earnedWithExtra 4 (some .int) d 0 0 [vR G.1 l0, vI l1, vI l2, vI l3] (m_X9_earnedWithExtra l0 l1 l2 l3) := by
  refine hMet.of (lv := [(0, vR G.1 l0), (1, vI l1), (2, vI l2), (3, vI l3)]) (by decide +kernel) (by simp [lg_sl, vR_cat, vI_cat, vL_cat, vS_cat2, vT_cat2]) (by simp [lv_args, vR_cat, vI_cat, vL_cat, vS_cat2, vT_cat2]) (fun C K X => ?_)
  obtain ⟨rfl, rfl, K⟩ := K
  exact z_X9_earnedWithExtra d hd ⟨rfl, rfl, K⟩ X l0 l1 l2 l3 h1 h2 h3
def m_X9_worth_L17 : hM :=
  hret ((-1))
def m_X9_worth (l0 : Nat) (l1 : Int) (l2 : Int) (l3 : Int) : hM :=
  hcallV 9 l0 (m_X9_canPlan l0 l1 l3) fun v1 =>
  hif (v1 = 0) (
m_X9_worth_L17) (
hcallV 9 l0 (m_X9_isBridge l0 l2) fun v2 =>
  hif (v2 ≠ 0) (
hcallV 9 l0 (m_X9_earnedWithExtra l0 l1 l3 0) fun v3 =>
  hlet v3 fun (w4 : Int) =>
  hcallV 9 l0 (m_X9_earnedWithExtra l0 l1 l3 ((ishlZ 1 l2))) fun v5 =>
  hret ((w32 (v5 - w4)))) (
m_X9_worth_L17))
set_option maxRecDepth 4000 in
theorem z_X9_worth_L17 (d : Nat) (hd : 22 ≤ d) {C : hCx} (K : hCtx C.1 C.2.2.1 d 0 0 "worth" C) (X : hOK C cX9_worth RX9 5 (some .int)) : hSim C (some .int) 0 0 5 17 [] [] 0 0 (m_X9_worth_L17) := by
  obtain ⟨⟨hf, hlo⟩, ⟨hc1, hc2⟩, hf1, hl1⟩ := K_room K (by omega)
  have hcs : 0 ≤ C.2.2.2.2.1.cells ∧ 0 ≤ C.2.2.2.2.1.slots := ⟨Nat.zero_le _, Nat.zero_le _⟩
  unfold m_X9_worth_L17
  refine s_iconst (n := (-1)) (pc2 := 18) X dX9_worth_17 rfl ?_
  exact s_iret X dX9_worth_18 (inI_c (-1) rfl)
set_option maxRecDepth 4000 in
set_option maxHeartbeats 20000000 in
theorem z_X9_worth (d : Nat) (hd : 22 ≤ d) {C : hCx} (K : hCtx C.1 C.2.2.1 d 0 0 "worth" C) (X : hOK C cX9_worth RX9 5 (some .int)) (l0 : Nat) (l1 : Int) (l2 : Int) (l3 : Int) (h1 : inI l1) (h2 : inI l2) (h3 : inI l3) : hSim C (some .int) 0 0 5 0 [(0, vR C.1.1 l0), (1, vI l1), (2, vI l2), (3, vI l3)] [] 0 0 (m_X9_worth l0 l1 l2 l3) := by
  obtain ⟨⟨hf, hlo⟩, ⟨hc1, hc2⟩, hf1, hl1⟩ := K_room K (by omega)
  have hcs : 0 ≤ C.2.2.2.2.1.cells ∧ 0 ≤ C.2.2.2.2.1.slots := ⟨Nat.zero_le _, Nat.zero_le _⟩
  unfold m_X9_worth
  refine s_aload_n (j := 0) (pc2 := 1) X dX9_worth_0 rfl rfl ?_
  refine s_iload_n (j := 1) (pc2 := 2) X dX9_worth_1 rfl rfl ?_
  refine s_iload_n (j := 3) (pc2 := 3) X dX9_worth_2 rfl rfl ?_
  refine s_callVZ (d2 := d - 1) (As := [vI l1, vI l3]) (st := []) (pc2 := 6) X dX9_worth_3 rfl ml_RX9_247 im_X9_canPlan se_X9_canPlan kX9 rfl (c_X9_canPlan (d - 1) (by omega) C.1 C.2.2.1 l0 l1 l3 h1 h3) hy_X9_canPlan rfl rfl hf hlo (st_room (Nat.le_of_ble_eq_true rfl)) hcs (fun v1 hv1 => ?_)
  refine s_ifeq (tgt := 17) X dX9_worth_6 (by decide) rfl hv1 ?_ ?_
  · refine s_sub (lv2 := []) [] rfl ?_
    exact z_X9_worth_L17 d hd K X
  · refine s_aload_n (j := 0) (pc2 := 10) X dX9_worth_9 rfl rfl ?_
    refine s_iload_n (j := 2) (pc2 := 11) X dX9_worth_10 rfl rfl ?_
    refine s_callVZ (d2 := d - 1) (As := [vI l2]) (st := []) (pc2 := 14) X dX9_worth_11 rfl ml_RX9_161 im_X9_isBridge se_X9_isBridge kX9 rfl (c_X9_isBridge (d - 1) (by omega) C.1 C.2.2.1 l0 l2 h2) hy_X9_isBridge rfl rfl hf hlo (st_room (Nat.le_of_ble_eq_true rfl)) hcs (fun v2 hv2 => ?_)
    refine s_ifne (tgt := 19) X dX9_worth_14 (by decide) rfl hv2 ?_ ?_
    · refine s_aload_n (j := 0) (pc2 := 20) X dX9_worth_19 rfl rfl ?_
      refine s_iload_n (j := 1) (pc2 := 21) X dX9_worth_20 rfl rfl ?_
      refine s_iload_n (j := 3) (pc2 := 22) X dX9_worth_21 rfl rfl ?_
      refine s_iconst (n := 0) (pc2 := 23) X dX9_worth_22 rfl ?_
      refine s_callVI (d2 := d - 1) (As := [vI l1, vI l3, vI 0]) (st := []) (pc2 := 26) X dX9_worth_23 rfl ml_RX9_263 im_X9_earnedWithExtra se_X9_earnedWithExtra kX9 rfl (c_X9_earnedWithExtra (d - 1) (by omega) C.1 C.2.2.1 l0 l1 l3 0 h1 h3 (inI_c 0 rfl)) hy_X9_earnedWithExtra rfl rfl hf hlo (st_room (Nat.le_of_ble_eq_true rfl)) hcs (fun v3 hv3 => ?_)
      refine s_istore (pc2 := 28) X dX9_worth_26 rfl (by decide) rfl rfl cat1_I hv3 (fun w4 hw4 => ?_)
      refine s_aload_n (j := 1) (pc2 := 29) X dX9_worth_28 rfl rfl ?_
      refine s_iload_n (j := 2) (pc2 := 30) X dX9_worth_29 rfl rfl ?_
      refine s_iload_n (j := 4) (pc2 := 31) X dX9_worth_30 rfl rfl ?_
      refine s_iconst (n := 1) (pc2 := 32) X dX9_worth_31 rfl ?_
      refine s_iload_n (j := 3) (pc2 := 33) X dX9_worth_32 rfl rfl ?_
      refine s_ishl (pc2 := 34) X dX9_worth_33 rfl ?_
      refine s_callVI (d2 := d - 1) (As := [vI l1, vI l3, vI ((ishlZ 1 l2))]) (st := []) (pc2 := 37) X dX9_worth_34 rfl ml_RX9_263 im_X9_earnedWithExtra se_X9_earnedWithExtra kX9 rfl (c_X9_earnedWithExtra (d - 1) (by omega) C.1 C.2.2.1 l0 l1 l3 ((ishlZ 1 l2)) h1 h3 (ishlZ_in _ _)) hy_X9_earnedWithExtra rfl rfl hf hlo (st_room (Nat.le_of_ble_eq_true rfl)) hcs (fun v5 hv5 => ?_)
      refine s_iload (j := 0) (pc2 := 39) X dX9_worth_37 rfl rfl ?_
      refine s_isub (pc2 := 40) X dX9_worth_39 rfl ?_
      exact s_iret X dX9_worth_40 (w32_in _)
    · refine s_sub (lv2 := []) [] rfl ?_
      exact z_X9_worth_L17 d hd K X
theorem c_X9_worth (d : Nat) (hd : 22 ≤ d) (G : hG) (l : Launch) (l0 : Nat) (l1 : Int) (l2 : Int) (l3 : Int) (h1 : inI l1) (h2 : inI l2) (h3 : inI l3) : hMet G l yX9_worth cX9_worth 5 (some .int) d 0 0 [vR G.1 l0, vI l1, vI l2, vI l3] (m_X9_worth l0 l1 l2 l3) := by
  refine hMet.of (lv := [(0, vR G.1 l0), (1, vI l1), (2, vI l2), (3, vI l3)]) (by decide +kernel) (by simp [lg_sl, vR_cat, vI_cat, vL_cat, vS_cat2, vT_cat2]) (by simp [lv_args, vR_cat, vI_cat, vL_cat, vS_cat2, vT_cat2]) (fun C K X => ?_)
  obtain ⟨rfl, rfl, K⟩ := K
  exact z_X9_worth d hd ⟨rfl, rfl, K⟩ X l0 l1 l2 l3 h1 h2 h3
def m_X9_more (l0 : Nat) (l1 : Int) (l2 : Int) : hM :=
  hcallV 9 l0 (m_X9_canPlan l0 l1 l2) fun v1 =>
  hif (v1 ≠ 0) (
hcallV 9 l0 (m_X9_earnedWithExtra l0 l1 l2 0) fun v2 =>
  hlet v2 fun (w3 : Int) =>
  hgR 9 l0 3 fun v4 =>
  hgR 4 v4 0 fun v5 =>
  hgR 7 v5 2 fun v6 =>
  hgI 1 v6 3 fun v7 =>
  hcallV 9 l0 (m_X9_earnedWithExtra l0 l1 l2 ((w32 (((ishlZ 1 v7)) - 1)))) fun v8 =>
  hret ((w32 (v8 - w3)))) (
hret ((-1)))
set_option maxRecDepth 4000 in
set_option maxHeartbeats 20000000 in
theorem z_X9_more (d : Nat) (hd : 22 ≤ d) {C : hCx} (K : hCtx C.1 C.2.2.1 d 0 0 "more" C) (X : hOK C cX9_more RX9 4 (some .int)) (l0 : Nat) (l1 : Int) (l2 : Int) (h1 : inI l1) (h2 : inI l2) : hSim C (some .int) 0 0 4 0 [(0, vR C.1.1 l0), (1, vI l1), (2, vI l2)] [] 0 0 (m_X9_more l0 l1 l2) := by
  obtain ⟨⟨hf, hlo⟩, ⟨hc1, hc2⟩, hf1, hl1⟩ := K_room K (by omega)
  have hcs : 0 ≤ C.2.2.2.2.1.cells ∧ 0 ≤ C.2.2.2.2.1.slots := ⟨Nat.zero_le _, Nat.zero_le _⟩
  unfold m_X9_more
  refine s_aload_n (j := 0) (pc2 := 1) X dX9_more_0 rfl rfl ?_
  refine s_iload_n (j := 1) (pc2 := 2) X dX9_more_1 rfl rfl ?_
  refine s_iload_n (j := 2) (pc2 := 3) X dX9_more_2 rfl rfl ?_
  refine s_callVZ (d2 := d - 1) (As := [vI l1, vI l2]) (st := []) (pc2 := 6) X dX9_more_3 rfl ml_RX9_247 im_X9_canPlan se_X9_canPlan kX9 rfl (c_X9_canPlan (d - 1) (by omega) C.1 C.2.2.1 l0 l1 l2 h1 h2) hy_X9_canPlan rfl rfl hf hlo (st_room (Nat.le_of_ble_eq_true rfl)) hcs (fun v1 hv1 => ?_)
  refine s_ifne (tgt := 11) X dX9_more_6 (by decide) rfl hv1 ?_ ?_
  · refine s_aload_n (j := 0) (pc2 := 12) X dX9_more_11 rfl rfl ?_
    refine s_iload_n (j := 1) (pc2 := 13) X dX9_more_12 rfl rfl ?_
    refine s_iload_n (j := 2) (pc2 := 14) X dX9_more_13 rfl rfl ?_
    refine s_iconst (n := 0) (pc2 := 15) X dX9_more_14 rfl ?_
    refine s_callVI (d2 := d - 1) (As := [vI l1, vI l2, vI 0]) (st := []) (pc2 := 18) X dX9_more_15 rfl ml_RX9_263 im_X9_earnedWithExtra se_X9_earnedWithExtra kX9 rfl (c_X9_earnedWithExtra (d - 1) (by omega) C.1 C.2.2.1 l0 l1 l2 0 h1 h2 (inI_c 0 rfl)) hy_X9_earnedWithExtra rfl rfl hf hlo (st_room (Nat.le_of_ble_eq_true rfl)) hcs (fun v2 hv2 => ?_)
    refine s_istore_n (pc2 := 19) X dX9_more_18 rfl (by decide) rfl rfl cat1_I hv2 (fun w3 hw3 => ?_)
    refine s_aload_n (j := 1) (pc2 := 20) X dX9_more_19 rfl rfl ?_
    refine s_iload_n (j := 2) (pc2 := 21) X dX9_more_20 rfl rfl ?_
    refine s_iload_n (j := 3) (pc2 := 22) X dX9_more_21 rfl rfl ?_
    refine s_iconst (n := 1) (pc2 := 23) X dX9_more_22 rfl ?_
    refine s_aload_n (j := 1) (pc2 := 24) X dX9_more_23 rfl rfl ?_
    refine s_getR (pc2 := 27) X dX9_more_24 rfl fl_RX9_71 rfl (fun v4 => ?_)
    refine s_getR (pc2 := 30) X dX9_more_27 rfl fl_RX9_140 rfl (fun v5 => ?_)
    refine s_getR (pc2 := 33) X dX9_more_30 rfl fl_RX9_87 rfl (fun v6 => ?_)
    refine s_getI (pc2 := 36) X dX9_more_33 rfl fl_RX9_127 rfl (fun v7 hv7 => ?_)
    refine s_ishl (pc2 := 37) X dX9_more_36 rfl ?_
    refine s_iconst (n := 1) (pc2 := 38) X dX9_more_37 rfl ?_
    refine s_isub (pc2 := 39) X dX9_more_38 rfl ?_
    refine s_callVI (d2 := d - 1) (As := [vI l1, vI l2, vI ((w32 (((ishlZ 1 v7)) - 1)))]) (st := []) (pc2 := 42) X dX9_more_39 rfl ml_RX9_263 im_X9_earnedWithExtra se_X9_earnedWithExtra kX9 rfl (c_X9_earnedWithExtra (d - 1) (by omega) C.1 C.2.2.1 l0 l1 l2 ((w32 (((ishlZ 1 v7)) - 1))) h1 h2 (w32_in _)) hy_X9_earnedWithExtra rfl rfl hf hlo (st_room (Nat.le_of_ble_eq_true rfl)) hcs (fun v8 hv8 => ?_)
    refine s_iload_n (j := 0) (pc2 := 43) X dX9_more_42 rfl rfl ?_
    refine s_isub (pc2 := 44) X dX9_more_43 rfl ?_
    exact s_iret X dX9_more_44 (w32_in _)
  · refine s_iconst (n := (-1)) (pc2 := 10) X dX9_more_9 rfl ?_
    exact s_iret X dX9_more_10 (inI_c (-1) rfl)
theorem c_X9_more (d : Nat) (hd : 22 ≤ d) (G : hG) (l : Launch) (l0 : Nat) (l1 : Int) (l2 : Int) (h1 : inI l1) (h2 : inI l2) : hMet G l yX9_more cX9_more 4 (some .int) d 0 0 [vR G.1 l0, vI l1, vI l2] (m_X9_more l0 l1 l2) := by
  refine hMet.of (lv := [(0, vR G.1 l0), (1, vI l1), (2, vI l2)]) (by decide +kernel) (by simp [lg_sl, vR_cat, vI_cat, vL_cat, vS_cat2, vT_cat2]) (by simp [lv_args, vR_cat, vI_cat, vL_cat, vS_cat2, vT_cat2]) (fun C K X => ?_)
  obtain ⟨rfl, rfl, K⟩ := K
  exact z_X9_more d hd ⟨rfl, rfl, K⟩ X l0 l1 l2 h1 h2
def m_X9_isBetterPlace_L85 (s0 : Int) : hM :=
  hretZ s0
def m_X9_isBetterPlace_L46 (s0 : Int) : hM :=
  hretZ s0
def m_X9_isBetterPlace (l0 : Nat) (l1 : Int) (l2 : Int) : hM :=
  hgR 9 l0 14 fun v1 =>
  haI 20 v1 l1 fun v2 =>
  hgR 9 l0 15 fun v3 =>
  haI 20 v3 l1 fun v4 =>
  hlet ((w32 (v2 + v4))) fun (w5 : Int) =>
  hgR 9 l0 14 fun v6 =>
  haI 20 v6 l2 fun v7 =>
  hgR 9 l0 15 fun v8 =>
  haI 20 v8 l2 fun v9 =>
  hlet ((w32 (v7 + v9))) fun (w10 : Int) =>
  hif (w5 = w10) (
hgR 9 l0 14 fun v11 =>
  haI 20 v11 l1 fun v12 =>
  hgR 9 l0 15 fun v13 =>
  haI 20 v13 l1 fun v14 =>
  hcall (m_J9_max_7cf53 v12 v14) fun v15 =>
  hgR 9 l0 14 fun v16 =>
  haI 20 v16 l2 fun v17 =>
  hgR 9 l0 15 fun v18 =>
  haI 20 v18 l2 fun v19 =>
  hcall (m_J9_max_7cf53 v17 v19) fun v20 =>
  hif (v15 ≥ v20) (
m_X9_isBetterPlace_L85 0) (
m_X9_isBetterPlace_L85 1)) (
hif (w5 ≥ w10) (
m_X9_isBetterPlace_L46 0) (
m_X9_isBetterPlace_L46 1))
set_option maxRecDepth 4000 in
theorem z_X9_isBetterPlace_L85 (d : Nat) (hd : 2 ≤ d) {C : hCx} (K : hCtx C.1 C.2.2.1 d 0 0 "isBetterPlace" C) (X : hOK C cX9_isBetterPlace RX9 5 (some .boolean)) (s0 : Int) (g0 : inI s0) : hSim C (some .boolean) 0 0 5 85 [] [vI s0] 0 0 (m_X9_isBetterPlace_L85 s0) := by
  obtain ⟨⟨hf, hlo⟩, ⟨hc1, hc2⟩, hf1, hl1⟩ := K_room K (by omega)
  have hcs : 0 ≤ C.2.2.2.2.1.cells ∧ 0 ≤ C.2.2.2.2.1.slots := ⟨Nat.zero_le _, Nat.zero_le _⟩
  unfold m_X9_isBetterPlace_L85
  exact s_zret X dX9_isBetterPlace_85
set_option maxRecDepth 4000 in
theorem z_X9_isBetterPlace_L46 (d : Nat) (hd : 2 ≤ d) {C : hCx} (K : hCtx C.1 C.2.2.1 d 0 0 "isBetterPlace" C) (X : hOK C cX9_isBetterPlace RX9 5 (some .boolean)) (s0 : Int) (g0 : inI s0) : hSim C (some .boolean) 0 0 5 46 [] [vI s0] 0 0 (m_X9_isBetterPlace_L46 s0) := by
  obtain ⟨⟨hf, hlo⟩, ⟨hc1, hc2⟩, hf1, hl1⟩ := K_room K (by omega)
  have hcs : 0 ≤ C.2.2.2.2.1.cells ∧ 0 ≤ C.2.2.2.2.1.slots := ⟨Nat.zero_le _, Nat.zero_le _⟩
  unfold m_X9_isBetterPlace_L46
  exact s_zret X dX9_isBetterPlace_46
set_option maxRecDepth 4000 in
set_option maxHeartbeats 20000000 in
theorem z_X9_isBetterPlace (d : Nat) (hd : 2 ≤ d) {C : hCx} (K : hCtx C.1 C.2.2.1 d 0 0 "isBetterPlace" C) (X : hOK C cX9_isBetterPlace RX9 5 (some .boolean)) (l0 : Nat) (l1 : Int) (l2 : Int) (h1 : inI l1) (h2 : inI l2) : hSim C (some .boolean) 0 0 5 0 [(0, vR C.1.1 l0), (1, vI l1), (2, vI l2)] [] 0 0 (m_X9_isBetterPlace l0 l1 l2) := by
  obtain ⟨⟨hf, hlo⟩, ⟨hc1, hc2⟩, hf1, hl1⟩ := K_room K (by omega)
  have hcs : 0 ≤ C.2.2.2.2.1.cells ∧ 0 ≤ C.2.2.2.2.1.slots := ⟨Nat.zero_le _, Nat.zero_le _⟩
  unfold m_X9_isBetterPlace
  refine s_aload_n (j := 0) (pc2 := 1) X dX9_isBetterPlace_0 rfl rfl ?_
  refine s_getR (pc2 := 4) X dX9_isBetterPlace_1 rfl fl_RX9_52 rfl (fun v1 => ?_)
  refine s_iload_n (j := 1) (pc2 := 5) X dX9_isBetterPlace_4 rfl rfl ?_
  refine s_iald (pc2 := 6) X dX9_isBetterPlace_5 rfl (fun v2 hv2 => ?_)
  refine s_aload_n (j := 0) (pc2 := 7) X dX9_isBetterPlace_6 rfl rfl ?_
  refine s_getR (pc2 := 10) X dX9_isBetterPlace_7 rfl fl_RX9_56 rfl (fun v3 => ?_)
  refine s_iload_n (j := 1) (pc2 := 11) X dX9_isBetterPlace_10 rfl rfl ?_
  refine s_iald (pc2 := 12) X dX9_isBetterPlace_11 rfl (fun v4 hv4 => ?_)
  refine s_iadd (pc2 := 13) X dX9_isBetterPlace_12 rfl ?_
  refine s_istore_n (pc2 := 14) X dX9_isBetterPlace_13 rfl (by decide) rfl rfl cat1_I (w32_in _) (fun w5 hw5 => ?_)
  refine s_aload_n (j := 1) (pc2 := 15) X dX9_isBetterPlace_14 rfl rfl ?_
  refine s_getR (pc2 := 18) X dX9_isBetterPlace_15 rfl fl_RX9_52 rfl (fun v6 => ?_)
  refine s_iload_n (j := 3) (pc2 := 19) X dX9_isBetterPlace_18 rfl rfl ?_
  refine s_iald (pc2 := 20) X dX9_isBetterPlace_19 rfl (fun v7 hv7 => ?_)
  refine s_aload_n (j := 1) (pc2 := 21) X dX9_isBetterPlace_20 rfl rfl ?_
  refine s_getR (pc2 := 24) X dX9_isBetterPlace_21 rfl fl_RX9_56 rfl (fun v8 => ?_)
  refine s_iload_n (j := 3) (pc2 := 25) X dX9_isBetterPlace_24 rfl rfl ?_
  refine s_iald (pc2 := 26) X dX9_isBetterPlace_25 rfl (fun v9 hv9 => ?_)
  refine s_iadd (pc2 := 27) X dX9_isBetterPlace_26 rfl ?_
  refine s_istore (pc2 := 29) X dX9_isBetterPlace_27 rfl (by decide) rfl rfl cat1_I (w32_in _) (fun w10 hw10 => ?_)
  refine s_iload_n (j := 1) (pc2 := 30) X dX9_isBetterPlace_29 rfl rfl ?_
  refine s_iload (j := 0) (pc2 := 32) X dX9_isBetterPlace_30 rfl rfl ?_
  refine s_iceq (tgt := 47) X dX9_isBetterPlace_32 (by decide) rfl hw5 hw10 ?_ ?_
  · refine s_aload_n (j := 2) (pc2 := 48) X dX9_isBetterPlace_47 rfl rfl ?_
    refine s_getR (pc2 := 51) X dX9_isBetterPlace_48 rfl fl_RX9_52 rfl (fun v11 => ?_)
    refine s_iload_n (j := 3) (pc2 := 52) X dX9_isBetterPlace_51 rfl rfl ?_
    refine s_iald (pc2 := 53) X dX9_isBetterPlace_52 rfl (fun v12 hv12 => ?_)
    refine s_aload_n (j := 2) (pc2 := 54) X dX9_isBetterPlace_53 rfl rfl ?_
    refine s_getR (pc2 := 57) X dX9_isBetterPlace_54 rfl fl_RX9_56 rfl (fun v13 => ?_)
    refine s_iload_n (j := 3) (pc2 := 58) X dX9_isBetterPlace_57 rfl rfl ?_
    refine s_iald (pc2 := 59) X dX9_isBetterPlace_58 rfl (fun v14 hv14 => ?_)
    refine s_callSI (d2 := d - 1) (As := [vI v12, vI v14]) (st := []) (pc2 := 62) X dX9_isBetterPlace_59 rfl ml_RX9_338 sm_J9_max_7cf53 (c_J9_max_7cf53 (d - 1) (by omega) C.1 C.2.2.1 v12 v14 hv12 hv14) hy_J9_max_7cf53 rfl rfl hf hlo (st_room (Nat.le_of_ble_eq_true rfl)) hcs (fun v15 hv15 => ?_)
    refine s_aload_n (j := 2) (pc2 := 63) X dX9_isBetterPlace_62 rfl rfl ?_
    refine s_getR (pc2 := 66) X dX9_isBetterPlace_63 rfl fl_RX9_52 rfl (fun v16 => ?_)
    refine s_iload_n (j := 4) (pc2 := 67) X dX9_isBetterPlace_66 rfl rfl ?_
    refine s_iald (pc2 := 68) X dX9_isBetterPlace_67 rfl (fun v17 hv17 => ?_)
    refine s_aload_n (j := 2) (pc2 := 69) X dX9_isBetterPlace_68 rfl rfl ?_
    refine s_getR (pc2 := 72) X dX9_isBetterPlace_69 rfl fl_RX9_56 rfl (fun v18 => ?_)
    refine s_iload_n (j := 4) (pc2 := 73) X dX9_isBetterPlace_72 rfl rfl ?_
    refine s_iald (pc2 := 74) X dX9_isBetterPlace_73 rfl (fun v19 hv19 => ?_)
    refine s_callSI (d2 := d - 1) (As := [vI v17, vI v19]) (st := [vI v15]) (pc2 := 77) X dX9_isBetterPlace_74 rfl ml_RX9_338 sm_J9_max_7cf53 (c_J9_max_7cf53 (d - 1) (by omega) C.1 C.2.2.1 v17 v19 hv17 hv19) hy_J9_max_7cf53 rfl rfl hf hlo (st_room (Nat.le_of_ble_eq_true rfl)) hcs (fun v20 hv20 => ?_)
    refine s_icge (tgt := 84) X dX9_isBetterPlace_77 (by decide) rfl hv15 hv20 ?_ ?_
    · refine s_iconst (n := 0) (pc2 := 85) X dX9_isBetterPlace_84 rfl ?_
      refine s_sub (lv2 := []) [] rfl ?_
      exact z_X9_isBetterPlace_L85 d hd K X 0 (inI_c 0 rfl)
    · refine s_iconst (n := 1) (pc2 := 81) X dX9_isBetterPlace_80 rfl ?_
      refine s_goto (pc2 := 85) X dX9_isBetterPlace_81 (by decide) ?_
      refine s_sub (lv2 := []) [] rfl ?_
      exact z_X9_isBetterPlace_L85 d hd K X 1 (inI_c 1 rfl)
  · refine s_iload_n (j := 1) (pc2 := 36) X dX9_isBetterPlace_35 rfl rfl ?_
    refine s_iload (j := 0) (pc2 := 38) X dX9_isBetterPlace_36 rfl rfl ?_
    refine s_icge (tgt := 45) X dX9_isBetterPlace_38 (by decide) rfl hw5 hw10 ?_ ?_
    · refine s_iconst (n := 0) (pc2 := 46) X dX9_isBetterPlace_45 rfl ?_
      refine s_sub (lv2 := []) [] rfl ?_
      exact z_X9_isBetterPlace_L46 d hd K X 0 (inI_c 0 rfl)
    · refine s_iconst (n := 1) (pc2 := 42) X dX9_isBetterPlace_41 rfl ?_
      refine s_goto (pc2 := 46) X dX9_isBetterPlace_42 (by decide) ?_
      refine s_sub (lv2 := []) [] rfl ?_
      exact z_X9_isBetterPlace_L46 d hd K X 1 (inI_c 1 rfl)
theorem c_X9_isBetterPlace (d : Nat) (hd : 2 ≤ d) (G : hG) (l : Launch) (l0 : Nat) (l1 : Int) (l2 : Int) (h1 : inI l1) (h2 : inI l2) : hMet G l yX9_isBetterPlace cX9_isBetterPlace 5 (some .boolean) d 0 0 [vR G.1 l0, vI l1, vI l2] (m_X9_isBetterPlace l0 l1 l2) := by
  refine hMet.of (lv := [(0, vR G.1 l0), (1, vI l1), (2, vI l2)]) (by decide +kernel) (by simp [lg_sl, vR_cat, vI_cat, vL_cat, vS_cat2, vT_cat2]) (by simp [lv_args, vR_cat, vI_cat, vL_cat, vS_cat2, vT_cat2]) (fun C K X => ?_)
  obtain ⟨rfl, rfl, K⟩ := K
  exact z_X9_isBetterPlace d hd ⟨rfl, rfl, K⟩ X l0 l1 l2 h1 h2
def m_X9_meet_L18 : hM :=
  hret ((-1))
def m_X9_meet_L163 (s0 : Int) : hM :=
  hret s0
def m_X9_meet_L143 (l4 : Int) : hM :=
  m_X9_meet_L163 l4
def m_X9_meet_L128 (k69 : Nat → Int → Int → Int → hM) (l0 : Nat) (l3 : Int) (l4 : Int) (l5 : Int) : hM :=
  hlet (w32 (l5 + 1)) fun (w1 : Int) =>
  k69 l0 l3 l4 w1
def m_X9_meet_L124 (k69 : Nat → Int → Int → Int → hM) (l0 : Nat) (l3 : Int) (l5 : Int) : hM :=
  hlet l5 fun (w1 : Int) =>
  m_X9_meet_L128 k69 l0 l3 w1 l5
def m_X9_meet_L69 : Nat → Nat → Int → Int → Int → hM
  | 0, _, _, _, _ => hfail
  | n + 1, l0, l3, l4, l5 =>
    hgR 9 l0 3 fun v1 =>
  hgR 4 v1 0 fun v2 =>
  hgI 7 v2 0 fun v3 =>
  hif (l5 ≥ v3) (
hif (l4 < 0) (
m_X9_meet_L143 l4) (
hif (l3 ≠ 0) (
hgR 9 l0 14 fun v4 =>
  haI 20 v4 l4 fun v5 =>
  hgR 9 l0 15 fun v6 =>
  haI 20 v6 l4 fun v7 =>
  m_X9_meet_L163 ((w32 (v5 + v7)))) (
m_X9_meet_L143 l4))) (
hgR 9 l0 14 fun v8 =>
  haI 20 v8 l5 fun v9 =>
  hif (v9 ≥ 99) (
m_X9_meet_L128 (m_X9_meet_L69 n) l0 l3 l4 l5) (
hgR 9 l0 15 fun v10 =>
  haI 20 v10 l5 fun v11 =>
  hif (v11 ≥ 99) (
m_X9_meet_L128 (m_X9_meet_L69 n) l0 l3 l4 l5) (
hif (l4 < 0) (
m_X9_meet_L124 (m_X9_meet_L69 n) l0 l3 l5) (
hcallV 9 l0 (m_X9_isBetterPlace l0 l5 l4) fun v12 =>
  hif (v12 = 0) (
m_X9_meet_L128 (m_X9_meet_L69 n) l0 l3 l4 l5) (
m_X9_meet_L124 (m_X9_meet_L69 n) l0 l3 l5)))))
def m_X9_meet (l0 : Nat) (l1 : Int) (l2 : Int) (l3 : Int) : hM :=
  hcallV 9 l0 (m_X9_arePair l0 l1 l2) fun v1 =>
  hif (v1 = 0) (
m_X9_meet_L18) (
hif (l3 < 0) (
m_X9_meet_L18) (
hif (l3 ≤ 1) (
hgR 9 l0 3 fun v2 =>
  hgR 9 l0 3 fun v3 =>
  hgR 4 v3 2 fun v4 =>
  haI 20 v4 l1 fun v5 =>
  hgR 9 l0 14 fun v6 =>
  hcallV 4 v2 (m_X4_measure v2 l1 v5 v6) fun _ =>
  hgR 9 l0 3 fun v7 =>
  hgR 9 l0 3 fun v8 =>
  hgR 4 v8 2 fun v9 =>
  haI 20 v9 l2 fun v10 =>
  hgR 9 l0 15 fun v11 =>
  hcallV 4 v7 (m_X4_measure v7 l2 v10 v11) fun _ =>
  hlet ((-2) : Int) fun (w12 : Int) =>
  hlet (0 : Int) fun (w13 : Int) =>
  m_X9_meet_L69 1000000000 l0 l3 w12 w13) (
m_X9_meet_L18)))
set_option maxRecDepth 4000 in
theorem z_X9_meet_L18 (d : Nat) (hd : 3 ≤ d) {C : hCx} (K : hCtx C.1 C.2.2.1 d 0 0 "meet" C) (X : hOK C cX9_meet RX9 6 (some .int)) : hSim C (some .int) 0 0 6 18 [] [] 0 0 (m_X9_meet_L18) := by
  obtain ⟨⟨hf, hlo⟩, ⟨hc1, hc2⟩, hf1, hl1⟩ := K_room K (by omega)
  have hcs : 0 ≤ C.2.2.2.2.1.cells ∧ 0 ≤ C.2.2.2.2.1.slots := ⟨Nat.zero_le _, Nat.zero_le _⟩
  unfold m_X9_meet_L18
  refine s_iconst (n := (-1)) (pc2 := 19) X dX9_meet_18 rfl ?_
  exact s_iret X dX9_meet_19 (inI_c (-1) rfl)
set_option maxRecDepth 4000 in
theorem z_X9_meet_L163 (d : Nat) (hd : 3 ≤ d) {C : hCx} (K : hCtx C.1 C.2.2.1 d 0 0 "meet" C) (X : hOK C cX9_meet RX9 6 (some .int)) (s0 : Int) (g0 : inI s0) : hSim C (some .int) 0 0 6 163 [] [vI s0] 0 0 (m_X9_meet_L163 s0) := by
  obtain ⟨⟨hf, hlo⟩, ⟨hc1, hc2⟩, hf1, hl1⟩ := K_room K (by omega)
  have hcs : 0 ≤ C.2.2.2.2.1.cells ∧ 0 ≤ C.2.2.2.2.1.slots := ⟨Nat.zero_le _, Nat.zero_le _⟩
  unfold m_X9_meet_L163
  exact s_iret X dX9_meet_163 g0
set_option maxRecDepth 4000 in
theorem z_X9_meet_L143 (d : Nat) (hd : 3 ≤ d) {C : hCx} (K : hCtx C.1 C.2.2.1 d 0 0 "meet" C) (X : hOK C cX9_meet RX9 6 (some .int)) (l4 : Int) (h4 : inI l4) : hSim C (some .int) 0 0 6 143 [(4, vI l4)] [] 0 0 (m_X9_meet_L143 l4) := by
  obtain ⟨⟨hf, hlo⟩, ⟨hc1, hc2⟩, hf1, hl1⟩ := K_room K (by omega)
  have hcs : 0 ≤ C.2.2.2.2.1.cells ∧ 0 ≤ C.2.2.2.2.1.slots := ⟨Nat.zero_le _, Nat.zero_le _⟩
  unfold m_X9_meet_L143
  refine s_iload (j := 0) (pc2 := 145) X dX9_meet_143 rfl rfl ?_
  refine s_goto (pc2 := 163) X dX9_meet_145 (by decide) ?_
  refine s_sub (lv2 := []) [] rfl ?_
  exact z_X9_meet_L163 d hd K X l4 h4
set_option maxRecDepth 4000 in
theorem z_X9_meet_L128 (d : Nat) (hd : 3 ≤ d) {C : hCx} (K : hCtx C.1 C.2.2.1 d 0 0 "meet" C) (X : hOK C cX9_meet RX9 6 (some .int)) (k69 : Nat → Int → Int → Int → hM) (hk69 : ∀ (l0 : Nat) (l3 : Int) (l4 : Int) (l5 : Int), inI l3 → inI l4 → inI l5 → hSim C (some .int) 0 0 6 69 [(0, vR C.1.1 l0), (3, vI l3), (4, vI l4), (5, vI l5)] [] 0 0 (k69 l0 l3 l4 l5)) (l0 : Nat) (l3 : Int) (l4 : Int) (l5 : Int) (h3 : inI l3) (h4 : inI l4) (h5 : inI l5) : hSim C (some .int) 0 0 6 128 [(0, vR C.1.1 l0), (3, vI l3), (4, vI l4), (5, vI l5)] [] 0 0 (m_X9_meet_L128 k69 l0 l3 l4 l5) := by
  obtain ⟨⟨hf, hlo⟩, ⟨hc1, hc2⟩, hf1, hl1⟩ := K_room K (by omega)
  have hcs : 0 ≤ C.2.2.2.2.1.cells ∧ 0 ≤ C.2.2.2.2.1.slots := ⟨Nat.zero_le _, Nat.zero_le _⟩
  unfold m_X9_meet_L128
  refine s_iinc (j := 3) (pc2 := 131) X dX9_meet_128 rfl (by decide) rfl rfl rfl cat1_I (fun w1 hw1 => ?_)
  refine s_goto (pc2 := 69) X dX9_meet_131 (by decide) ?_
  refine s_sub (lv2 := [(0, vR C.1.1 l0), (3, vI l3), (4, vI l4), (5, vI w1)]) [1, 2, 3, 0] rfl ?_
  exact hk69 l0 l3 l4 w1 h3 h4 hw1
set_option maxRecDepth 4000 in
theorem z_X9_meet_L124 (d : Nat) (hd : 3 ≤ d) {C : hCx} (K : hCtx C.1 C.2.2.1 d 0 0 "meet" C) (X : hOK C cX9_meet RX9 6 (some .int)) (k69 : Nat → Int → Int → Int → hM) (hk69 : ∀ (l0 : Nat) (l3 : Int) (l4 : Int) (l5 : Int), inI l3 → inI l4 → inI l5 → hSim C (some .int) 0 0 6 69 [(0, vR C.1.1 l0), (3, vI l3), (4, vI l4), (5, vI l5)] [] 0 0 (k69 l0 l3 l4 l5)) (l0 : Nat) (l3 : Int) (l5 : Int) (h3 : inI l3) (h5 : inI l5) : hSim C (some .int) 0 0 6 124 [(0, vR C.1.1 l0), (3, vI l3), (5, vI l5)] [] 0 0 (m_X9_meet_L124 k69 l0 l3 l5) := by
  obtain ⟨⟨hf, hlo⟩, ⟨hc1, hc2⟩, hf1, hl1⟩ := K_room K (by omega)
  have hcs : 0 ≤ C.2.2.2.2.1.cells ∧ 0 ≤ C.2.2.2.2.1.slots := ⟨Nat.zero_le _, Nat.zero_le _⟩
  unfold m_X9_meet_L124
  refine s_iload (j := 2) (pc2 := 126) X dX9_meet_124 rfl rfl ?_
  refine s_istore (pc2 := 128) X dX9_meet_126 rfl (by decide) rfl rfl cat1_I h5 (fun w1 hw1 => ?_)
  refine s_sub (lv2 := [(0, vR C.1.1 l0), (3, vI l3), (4, vI w1), (5, vI l5)]) [1, 2, 0, 3] rfl ?_
  exact z_X9_meet_L128 d hd K X k69 hk69 l0 l3 w1 l5 h3 hw1 h5
set_option maxRecDepth 4000 in
theorem z_X9_meet_L69 (d : Nat) (hd : 3 ≤ d) {C : hCx} (K : hCtx C.1 C.2.2.1 d 0 0 "meet" C) (X : hOK C cX9_meet RX9 6 (some .int)) : ∀ (n : Nat) (l0 : Nat) (l3 : Int) (l4 : Int) (l5 : Int) (h3 : inI l3) (h4 : inI l4) (h5 : inI l5), hSim C (some .int) 0 0 6 69 [(0, vR C.1.1 l0), (3, vI l3), (4, vI l4), (5, vI l5)] [] 0 0 (m_X9_meet_L69 n l0 l3 l4 l5) := by
  obtain ⟨⟨hf, hlo⟩, ⟨hc1, hc2⟩, hf1, hl1⟩ := K_room K (by omega)
  have hcs : 0 ≤ C.2.2.2.2.1.cells ∧ 0 ≤ C.2.2.2.2.1.slots := ⟨Nat.zero_le _, Nat.zero_le _⟩
  intro n
  induction n with
  | zero => intros; exact s_none (fun _ => rfl)
  | succ n ih =>
    intro l0 l3 l4 l5 h3 h4 h5
    unfold m_X9_meet_L69
    refine s_iload (j := 3) (pc2 := 71) X dX9_meet_69 rfl rfl ?_
    refine s_aload_n (j := 0) (pc2 := 72) X dX9_meet_71 rfl rfl ?_
    refine s_getR (pc2 := 75) X dX9_meet_72 rfl fl_RX9_71 rfl (fun v1 => ?_)
    refine s_getR (pc2 := 78) X dX9_meet_75 rfl fl_RX9_140 rfl (fun v2 => ?_)
    refine s_getI (pc2 := 81) X dX9_meet_78 rfl fl_RX9_176 rfl (fun v3 hv3 => ?_)
    refine s_icge (tgt := 134) X dX9_meet_81 (by decide) rfl h5 hv3 ?_ ?_
    · refine s_iload (j := 2) (pc2 := 136) X dX9_meet_134 rfl rfl ?_
      refine s_iflt (tgt := 143) X dX9_meet_136 (by decide) rfl h4 ?_ ?_
      · refine s_sub (lv2 := [(4, vI l4)]) [2] rfl ?_
        exact z_X9_meet_L143 d hd K X l4 h4
      · refine s_iload_n (j := 1) (pc2 := 140) X dX9_meet_139 rfl rfl ?_
        refine s_ifne (tgt := 148) X dX9_meet_140 (by decide) rfl h3 ?_ ?_
        · refine s_aload_n (j := 0) (pc2 := 149) X dX9_meet_148 rfl rfl ?_
          refine s_getR (pc2 := 152) X dX9_meet_149 rfl fl_RX9_52 rfl (fun v4 => ?_)
          refine s_iload (j := 2) (pc2 := 154) X dX9_meet_152 rfl rfl ?_
          refine s_iald (pc2 := 155) X dX9_meet_154 rfl (fun v5 hv5 => ?_)
          refine s_aload_n (j := 0) (pc2 := 156) X dX9_meet_155 rfl rfl ?_
          refine s_getR (pc2 := 159) X dX9_meet_156 rfl fl_RX9_56 rfl (fun v6 => ?_)
          refine s_iload (j := 2) (pc2 := 161) X dX9_meet_159 rfl rfl ?_
          refine s_iald (pc2 := 162) X dX9_meet_161 rfl (fun v7 hv7 => ?_)
          refine s_iadd (pc2 := 163) X dX9_meet_162 rfl ?_
          refine s_sub (lv2 := []) [] rfl ?_
          exact z_X9_meet_L163 d hd K X ((w32 (v5 + v7))) (w32_in _)
        · refine s_sub (lv2 := [(4, vI l4)]) [2] rfl ?_
          exact z_X9_meet_L143 d hd K X l4 h4
    · refine s_aload_n (j := 0) (pc2 := 85) X dX9_meet_84 rfl rfl ?_
      refine s_getR (pc2 := 88) X dX9_meet_85 rfl fl_RX9_52 rfl (fun v8 => ?_)
      refine s_iload (j := 3) (pc2 := 90) X dX9_meet_88 rfl rfl ?_
      refine s_iald (pc2 := 91) X dX9_meet_90 rfl (fun v9 hv9 => ?_)
      refine s_bipush (n := 99) (pc2 := 93) X dX9_meet_91 rfl rfl ?_
      refine s_icge (tgt := 128) X dX9_meet_93 (by decide) rfl hv9 (inI_c 99 rfl) ?_ ?_
      · exact z_X9_meet_L128 d hd K X (m_X9_meet_L69 n) ih l0 l3 l4 l5 h3 h4 h5
      · refine s_aload_n (j := 0) (pc2 := 97) X dX9_meet_96 rfl rfl ?_
        refine s_getR (pc2 := 100) X dX9_meet_97 rfl fl_RX9_56 rfl (fun v10 => ?_)
        refine s_iload (j := 3) (pc2 := 102) X dX9_meet_100 rfl rfl ?_
        refine s_iald (pc2 := 103) X dX9_meet_102 rfl (fun v11 hv11 => ?_)
        refine s_bipush (n := 99) (pc2 := 105) X dX9_meet_103 rfl rfl ?_
        refine s_icge (tgt := 128) X dX9_meet_105 (by decide) rfl hv11 (inI_c 99 rfl) ?_ ?_
        · exact z_X9_meet_L128 d hd K X (m_X9_meet_L69 n) ih l0 l3 l4 l5 h3 h4 h5
        · refine s_iload (j := 2) (pc2 := 110) X dX9_meet_108 rfl rfl ?_
          refine s_iflt (tgt := 124) X dX9_meet_110 (by decide) rfl h4 ?_ ?_
          · refine s_sub (lv2 := [(0, vR C.1.1 l0), (3, vI l3), (5, vI l5)]) [0, 1, 3] rfl ?_
            exact z_X9_meet_L124 d hd K X (m_X9_meet_L69 n) ih l0 l3 l5 h3 h5
          · refine s_aload_n (j := 0) (pc2 := 114) X dX9_meet_113 rfl rfl ?_
            refine s_iload (j := 3) (pc2 := 116) X dX9_meet_114 rfl rfl ?_
            refine s_iload (j := 2) (pc2 := 118) X dX9_meet_116 rfl rfl ?_
            refine s_callVZ (d2 := d - 1) (As := [vI l5, vI l4]) (st := []) (pc2 := 121) X dX9_meet_118 rfl ml_RX9_267 im_X9_isBetterPlace se_X9_isBetterPlace kX9 rfl (c_X9_isBetterPlace (d - 1) (by omega) C.1 C.2.2.1 l0 l5 l4 h5 h4) hy_X9_isBetterPlace rfl rfl hf hlo (st_room (Nat.le_of_ble_eq_true rfl)) hcs (fun v12 hv12 => ?_)
            refine s_ifeq (tgt := 128) X dX9_meet_121 (by decide) rfl hv12 ?_ ?_
            · exact z_X9_meet_L128 d hd K X (m_X9_meet_L69 n) ih l0 l3 l4 l5 h3 h4 h5
            · refine s_sub (lv2 := [(0, vR C.1.1 l0), (3, vI l3), (5, vI l5)]) [0, 1, 3] rfl ?_
              exact z_X9_meet_L124 d hd K X (m_X9_meet_L69 n) ih l0 l3 l5 h3 h5
set_option maxRecDepth 4000 in
set_option maxHeartbeats 20000000 in
theorem z_X9_meet (d : Nat) (hd : 3 ≤ d) {C : hCx} (K : hCtx C.1 C.2.2.1 d 0 0 "meet" C) (X : hOK C cX9_meet RX9 6 (some .int)) (l0 : Nat) (l1 : Int) (l2 : Int) (l3 : Int) (h1 : inI l1) (h2 : inI l2) (h3 : inI l3) : hSim C (some .int) 0 0 6 0 [(0, vR C.1.1 l0), (1, vI l1), (2, vI l2), (3, vI l3)] [] 0 0 (m_X9_meet l0 l1 l2 l3) := by
  obtain ⟨⟨hf, hlo⟩, ⟨hc1, hc2⟩, hf1, hl1⟩ := K_room K (by omega)
  have hcs : 0 ≤ C.2.2.2.2.1.cells ∧ 0 ≤ C.2.2.2.2.1.slots := ⟨Nat.zero_le _, Nat.zero_le _⟩
  unfold m_X9_meet
  refine s_aload_n (j := 0) (pc2 := 1) X dX9_meet_0 rfl rfl ?_
  refine s_iload_n (j := 1) (pc2 := 2) X dX9_meet_1 rfl rfl ?_
  refine s_iload_n (j := 2) (pc2 := 3) X dX9_meet_2 rfl rfl ?_
  refine s_callVZ (d2 := d - 1) (As := [vI l1, vI l2]) (st := []) (pc2 := 6) X dX9_meet_3 rfl ml_RX9_219 im_X9_arePair se_X9_arePair kX9 rfl (c_X9_arePair (d - 1) (by omega) C.1 C.2.2.1 l0 l1 l2 h1 h2) hy_X9_arePair rfl rfl hf hlo (st_room (Nat.le_of_ble_eq_true rfl)) hcs (fun v1 hv1 => ?_)
  refine s_ifeq (tgt := 18) X dX9_meet_6 (by decide) rfl hv1 ?_ ?_
  · refine s_sub (lv2 := []) [] rfl ?_
    exact z_X9_meet_L18 d hd K X
  · refine s_iload_n (j := 3) (pc2 := 10) X dX9_meet_9 rfl rfl ?_
    refine s_iflt (tgt := 18) X dX9_meet_10 (by decide) rfl h3 ?_ ?_
    · refine s_sub (lv2 := []) [] rfl ?_
      exact z_X9_meet_L18 d hd K X
    · refine s_iload_n (j := 3) (pc2 := 14) X dX9_meet_13 rfl rfl ?_
      refine s_iconst (n := 1) (pc2 := 15) X dX9_meet_14 rfl ?_
      refine s_icle (tgt := 20) X dX9_meet_15 (by decide) rfl h3 (inI_c 1 rfl) ?_ ?_
      · refine s_aload_n (j := 0) (pc2 := 21) X dX9_meet_20 rfl rfl ?_
        refine s_getR (pc2 := 24) X dX9_meet_21 rfl fl_RX9_71 rfl (fun v2 => ?_)
        refine s_iload_n (j := 1) (pc2 := 25) X dX9_meet_24 rfl rfl ?_
        refine s_aload_n (j := 0) (pc2 := 26) X dX9_meet_25 rfl rfl ?_
        refine s_getR (pc2 := 29) X dX9_meet_26 rfl fl_RX9_71 rfl (fun v3 => ?_)
        refine s_getR (pc2 := 32) X dX9_meet_29 rfl fl_RX9_137 rfl (fun v4 => ?_)
        refine s_iload_n (j := 1) (pc2 := 33) X dX9_meet_32 rfl rfl ?_
        refine s_iald (pc2 := 34) X dX9_meet_33 rfl (fun v5 hv5 => ?_)
        refine s_aload_n (j := 0) (pc2 := 35) X dX9_meet_34 rfl rfl ?_
        refine s_getR (pc2 := 38) X dX9_meet_35 rfl fl_RX9_52 rfl (fun v6 => ?_)
        refine s_callVV (d2 := d - 1) (As := [vI l1, vI v5, vR C.1.1 v6]) (st := []) (pc2 := 41) X dX9_meet_38 rfl ml_RX9_239 im_X4_measure se_X4_measure kX4 rfl (c_X4_measure (d - 1) (by omega) C.1 C.2.2.1 v2 l1 v5 v6 h1 hv5) hy_X4_measure rfl rfl hf hlo (st_room (Nat.le_of_ble_eq_true rfl)) hcs (fun _ => ?_)
        refine s_aload_n (j := 0) (pc2 := 42) X dX9_meet_41 rfl rfl ?_
        refine s_getR (pc2 := 45) X dX9_meet_42 rfl fl_RX9_71 rfl (fun v7 => ?_)
        refine s_iload_n (j := 2) (pc2 := 46) X dX9_meet_45 rfl rfl ?_
        refine s_aload_n (j := 0) (pc2 := 47) X dX9_meet_46 rfl rfl ?_
        refine s_getR (pc2 := 50) X dX9_meet_47 rfl fl_RX9_71 rfl (fun v8 => ?_)
        refine s_getR (pc2 := 53) X dX9_meet_50 rfl fl_RX9_137 rfl (fun v9 => ?_)
        refine s_iload_n (j := 2) (pc2 := 54) X dX9_meet_53 rfl rfl ?_
        refine s_iald (pc2 := 55) X dX9_meet_54 rfl (fun v10 hv10 => ?_)
        refine s_aload_n (j := 0) (pc2 := 56) X dX9_meet_55 rfl rfl ?_
        refine s_getR (pc2 := 59) X dX9_meet_56 rfl fl_RX9_56 rfl (fun v11 => ?_)
        refine s_callVV (d2 := d - 1) (As := [vI l2, vI v10, vR C.1.1 v11]) (st := []) (pc2 := 62) X dX9_meet_59 rfl ml_RX9_239 im_X4_measure se_X4_measure kX4 rfl (c_X4_measure (d - 1) (by omega) C.1 C.2.2.1 v7 l2 v10 v11 h2 hv10) hy_X4_measure rfl rfl hf hlo (st_room (Nat.le_of_ble_eq_true rfl)) hcs (fun _ => ?_)
        refine s_bipush (n := (-2)) (pc2 := 64) X dX9_meet_62 rfl rfl ?_
        refine s_istore (pc2 := 66) X dX9_meet_64 rfl (by decide) rfl rfl cat1_I (inI_c (-2) rfl) (fun w12 hw12 => ?_)
        refine s_iconst (n := 0) (pc2 := 67) X dX9_meet_66 rfl ?_
        refine s_istore (pc2 := 69) X dX9_meet_67 rfl (by decide) rfl rfl cat1_I (inI_c 0 rfl) (fun w13 hw13 => ?_)
        refine s_sub (lv2 := [(0, vR C.1.1 l0), (3, vI l3), (4, vI w12), (5, vI w13)]) [2, 5, 1, 0] rfl ?_
        exact z_X9_meet_L69 d hd K X 1000000000 l0 l3 w12 w13 h3 hw12 hw13
      · refine s_sub (lv2 := []) [] rfl ?_
        exact z_X9_meet_L18 d hd K X
theorem c_X9_meet (d : Nat) (hd : 3 ≤ d) (G : hG) (l : Launch) (l0 : Nat) (l1 : Int) (l2 : Int) (l3 : Int) (h1 : inI l1) (h2 : inI l2) (h3 : inI l3) : hMet G l yX9_meet cX9_meet 6 (some .int) d 0 0 [vR G.1 l0, vI l1, vI l2, vI l3] (m_X9_meet l0 l1 l2 l3) := by
  refine hMet.of (lv := [(0, vR G.1 l0), (1, vI l1), (2, vI l2), (3, vI l3)]) (by decide +kernel) (by simp [lg_sl, vR_cat, vI_cat, vL_cat, vS_cat2, vT_cat2]) (by simp [lv_args, vR_cat, vI_cat, vL_cat, vS_cat2, vT_cat2]) (fun C K X => ?_)
  obtain ⟨rfl, rfl, K⟩ := K
  exact z_X9_meet d hd ⟨rfl, rfl, K⟩ X l0 l1 l2 l3 h1 h2 h3
def m_X9_findReaches_L2 : Nat → Nat → Int → hM
  | 0, _, _ => hfail
  | n + 1, l0, l1 =>
    hgR 9 l0 3 fun v1 =>
  hgR 4 v1 0 fun v2 =>
  hgI 7 v2 7 fun v3 =>
  hif (l1 ≥ v3) (
hret 0) (
hgR 9 l0 16 fun v4 =>
  hgR 9 l0 3 fun v5 =>
  hcallV 4 v5 (m_X4_reachOf v5 l1 ((-1))) fun v6 =>
  hsI 20 v4 l1 v6 <|
  hlet (w32 (l1 + 1)) fun (w7 : Int) =>
  m_X9_findReaches_L2 n l0 w7)
def m_X9_findReaches (l0 : Nat) : hM :=
  hlet (0 : Int) fun (w1 : Int) =>
  m_X9_findReaches_L2 1000000000 l0 w1
set_option maxRecDepth 4000 in
theorem z_X9_findReaches_L2 (d : Nat) (hd : 3 ≤ d) {C : hCx} (K : hCtx C.1 C.2.2.1 d 0 0 "findReaches" C) (X : hOK C cX9_findReaches RX9 2 none) : ∀ (n : Nat) (l0 : Nat) (l1 : Int) (h1 : inI l1), hSim C none 0 0 2 2 [(0, vR C.1.1 l0), (1, vI l1)] [] 0 0 (m_X9_findReaches_L2 n l0 l1) := by
  obtain ⟨⟨hf, hlo⟩, ⟨hc1, hc2⟩, hf1, hl1⟩ := K_room K (by omega)
  have hcs : 0 ≤ C.2.2.2.2.1.cells ∧ 0 ≤ C.2.2.2.2.1.slots := ⟨Nat.zero_le _, Nat.zero_le _⟩
  intro n
  induction n with
  | zero => intros; exact s_none (fun _ => rfl)
  | succ n ih =>
    intro l0 l1 h1
    unfold m_X9_findReaches_L2
    refine s_iload_n (j := 1) (pc2 := 3) X dX9_findReaches_2 rfl rfl ?_
    refine s_aload_n (j := 0) (pc2 := 4) X dX9_findReaches_3 rfl rfl ?_
    refine s_getR (pc2 := 7) X dX9_findReaches_4 rfl fl_RX9_71 rfl (fun v1 => ?_)
    refine s_getR (pc2 := 10) X dX9_findReaches_7 rfl fl_RX9_140 rfl (fun v2 => ?_)
    refine s_getI (pc2 := 13) X dX9_findReaches_10 rfl fl_RX9_185 rfl (fun v3 hv3 => ?_)
    refine s_icge (tgt := 37) X dX9_findReaches_13 (by decide) rfl h1 hv3 ?_ ?_
    · exact s_ret X dX9_findReaches_37
    · refine s_aload_n (j := 0) (pc2 := 17) X dX9_findReaches_16 rfl rfl ?_
      refine s_getR (pc2 := 20) X dX9_findReaches_17 rfl fl_RX9_59 rfl (fun v4 => ?_)
      refine s_iload_n (j := 1) (pc2 := 21) X dX9_findReaches_20 rfl rfl ?_
      refine s_aload_n (j := 0) (pc2 := 22) X dX9_findReaches_21 rfl rfl ?_
      refine s_getR (pc2 := 25) X dX9_findReaches_22 rfl fl_RX9_71 rfl (fun v5 => ?_)
      refine s_iload_n (j := 1) (pc2 := 26) X dX9_findReaches_25 rfl rfl ?_
      refine s_iconst (n := (-1)) (pc2 := 27) X dX9_findReaches_26 rfl ?_
      refine s_callVI (d2 := d - 1) (As := [vI l1, vI ((-1))]) (st := [vI l1, vR C.1.1 v4]) (pc2 := 30) X dX9_findReaches_27 rfl ml_RX9_150 im_X4_reachOf se_X4_reachOf kX4 rfl (c_X4_reachOf (d - 1) (by omega) C.1 C.2.2.1 v5 l1 ((-1)) h1 (inI_c (-1) rfl)) hy_X4_reachOf rfl rfl hf hlo (st_room (Nat.le_of_ble_eq_true rfl)) hcs (fun v6 hv6 => ?_)
      refine s_iast (pc2 := 31) X dX9_findReaches_30 rfl hv6 ?_
      refine s_iinc (j := 1) (pc2 := 34) X dX9_findReaches_31 rfl (by decide) rfl rfl rfl cat1_R (fun w7 hw7 => ?_)
      refine s_goto (pc2 := 2) X dX9_findReaches_34 (by decide) ?_
      refine s_sub (lv2 := [(0, vR C.1.1 l0), (1, vI w7)]) [1, 0] rfl ?_
      exact ih l0 w7 hw7
set_option maxRecDepth 4000 in
set_option maxHeartbeats 20000000 in
theorem z_X9_findReaches (d : Nat) (hd : 3 ≤ d) {C : hCx} (K : hCtx C.1 C.2.2.1 d 0 0 "findReaches" C) (X : hOK C cX9_findReaches RX9 2 none) (l0 : Nat) : hSim C none 0 0 2 0 [(0, vR C.1.1 l0)] [] 0 0 (m_X9_findReaches l0) := by
  obtain ⟨⟨hf, hlo⟩, ⟨hc1, hc2⟩, hf1, hl1⟩ := K_room K (by omega)
  have hcs : 0 ≤ C.2.2.2.2.1.cells ∧ 0 ≤ C.2.2.2.2.1.slots := ⟨Nat.zero_le _, Nat.zero_le _⟩
  unfold m_X9_findReaches
  refine s_iconst (n := 0) (pc2 := 1) X dX9_findReaches_0 rfl ?_
  refine s_istore_n (pc2 := 2) X dX9_findReaches_1 rfl (by decide) rfl rfl cat1_R (inI_c 0 rfl) (fun w1 hw1 => ?_)
  refine s_sub (lv2 := [(0, vR C.1.1 l0), (1, vI w1)]) [1, 0] rfl ?_
  exact z_X9_findReaches_L2 d hd K X 1000000000 l0 w1 hw1
theorem c_X9_findReaches (d : Nat) (hd : 3 ≤ d) (G : hG) (l : Launch) (l0 : Nat) : hMet G l yX9_findReaches cX9_findReaches 2 none d 0 0 [vR G.1 l0] (m_X9_findReaches l0) := by
  refine hMet.of (lv := [(0, vR G.1 l0)]) (by decide +kernel) (by simp [lg_sl, vR_cat, vI_cat, vL_cat, vS_cat2, vT_cat2]) (by simp [lv_args, vR_cat, vI_cat, vL_cat, vS_cat2, vT_cat2]) (fun C K X => ?_)
  obtain ⟨rfl, rfl, K⟩ := K
  exact z_X9_findReaches d hd ⟨rfl, rfl, K⟩ X l0
def m_X9_growthBy_L4 : Nat → Nat → Int → Int → Int → hM
  | 0, _, _, _, _ => hfail
  | n + 1, l0, l1, l2, l3 =>
    hgR 9 l0 3 fun v1 =>
  hgR 4 v1 0 fun v2 =>
  hgI 7 v2 7 fun v3 =>
  hif (l3 ≥ v3) (
hret l2) (
hgR 9 l0 3 fun v4 =>
  hcallV 4 v4 (m_X4_reachOf v4 l3 l1) fun v5 =>
  hgR 9 l0 16 fun v6 =>
  haI 20 v6 l3 fun v7 =>
  hcall (m_J6_bitCount_0f7a4 ((iandZ v5 ((ixorZ v7 ((-1))))))) fun v8 =>
  hlet ((w32 (l2 + v8))) fun (w9 : Int) =>
  hlet (w32 (l3 + 1)) fun (w10 : Int) =>
  m_X9_growthBy_L4 n l0 l1 w9 w10)
def m_X9_growthBy (l0 : Nat) (l1 : Int) : hM :=
  hlet (0 : Int) fun (w1 : Int) =>
  hlet (0 : Int) fun (w2 : Int) =>
  m_X9_growthBy_L4 1000000000 l0 l1 w1 w2
set_option maxRecDepth 4000 in
theorem z_X9_growthBy_L4 (d : Nat) (hd : 3 ≤ d) {C : hCx} (K : hCtx C.1 C.2.2.1 d 0 0 "growthBy" C) (X : hOK C cX9_growthBy RX9 4 (some .int)) : ∀ (n : Nat) (l0 : Nat) (l1 : Int) (l2 : Int) (l3 : Int) (h1 : inI l1) (h2 : inI l2) (h3 : inI l3), hSim C (some .int) 0 0 4 4 [(0, vR C.1.1 l0), (1, vI l1), (2, vI l2), (3, vI l3)] [] 0 0 (m_X9_growthBy_L4 n l0 l1 l2 l3) := by
  obtain ⟨⟨hf, hlo⟩, ⟨hc1, hc2⟩, hf1, hl1⟩ := K_room K (by omega)
  have hcs : 0 ≤ C.2.2.2.2.1.cells ∧ 0 ≤ C.2.2.2.2.1.slots := ⟨Nat.zero_le _, Nat.zero_le _⟩
  intro n
  induction n with
  | zero => intros; exact s_none (fun _ => rfl)
  | succ n ih =>
    intro l0 l1 l2 l3 h1 h2 h3
    unfold m_X9_growthBy_L4
    refine s_iload_n (j := 3) (pc2 := 5) X dX9_growthBy_4 rfl rfl ?_
    refine s_aload_n (j := 0) (pc2 := 6) X dX9_growthBy_5 rfl rfl ?_
    refine s_getR (pc2 := 9) X dX9_growthBy_6 rfl fl_RX9_71 rfl (fun v1 => ?_)
    refine s_getR (pc2 := 12) X dX9_growthBy_9 rfl fl_RX9_140 rfl (fun v2 => ?_)
    refine s_getI (pc2 := 15) X dX9_growthBy_12 rfl fl_RX9_185 rfl (fun v3 hv3 => ?_)
    refine s_icge (tgt := 48) X dX9_growthBy_15 (by decide) rfl h3 hv3 ?_ ?_
    · refine s_iload_n (j := 2) (pc2 := 49) X dX9_growthBy_48 rfl rfl ?_
      exact s_iret X dX9_growthBy_49 h2
    · refine s_iload_n (j := 2) (pc2 := 19) X dX9_growthBy_18 rfl rfl ?_
      refine s_aload_n (j := 0) (pc2 := 20) X dX9_growthBy_19 rfl rfl ?_
      refine s_getR (pc2 := 23) X dX9_growthBy_20 rfl fl_RX9_71 rfl (fun v4 => ?_)
      refine s_iload_n (j := 3) (pc2 := 24) X dX9_growthBy_23 rfl rfl ?_
      refine s_iload_n (j := 1) (pc2 := 25) X dX9_growthBy_24 rfl rfl ?_
      refine s_callVI (d2 := d - 1) (As := [vI l3, vI l1]) (st := [vI l2]) (pc2 := 28) X dX9_growthBy_25 rfl ml_RX9_150 im_X4_reachOf se_X4_reachOf kX4 rfl (c_X4_reachOf (d - 1) (by omega) C.1 C.2.2.1 v4 l3 l1 h3 h1) hy_X4_reachOf rfl rfl hf hlo (st_room (Nat.le_of_ble_eq_true rfl)) hcs (fun v5 hv5 => ?_)
      refine s_aload_n (j := 0) (pc2 := 29) X dX9_growthBy_28 rfl rfl ?_
      refine s_getR (pc2 := 32) X dX9_growthBy_29 rfl fl_RX9_59 rfl (fun v6 => ?_)
      refine s_iload_n (j := 3) (pc2 := 33) X dX9_growthBy_32 rfl rfl ?_
      refine s_iald (pc2 := 34) X dX9_growthBy_33 rfl (fun v7 hv7 => ?_)
      refine s_iconst (n := (-1)) (pc2 := 35) X dX9_growthBy_34 rfl ?_
      refine s_ixor (pc2 := 36) X dX9_growthBy_35 rfl ?_
      refine s_iand (pc2 := 37) X dX9_growthBy_36 rfl ?_
      refine s_callSI (d2 := d - 1) (As := [vI ((iandZ v5 ((ixorZ v7 ((-1))))))]) (st := [vI l2]) (pc2 := 40) X dX9_growthBy_37 rfl ml_RX9_343 sm_J6_bitCount_0f7a4 (c_J6_bitCount_0f7a4 (d - 1) (by omega) C.1 C.2.2.1 ((iandZ v5 ((ixorZ v7 ((-1)))))) (iandZ_in _ _)) hy_J6_bitCount_0f7a4 rfl rfl hf hlo (st_room (Nat.le_of_ble_eq_true rfl)) hcs (fun v8 hv8 => ?_)
      refine s_iadd (pc2 := 41) X dX9_growthBy_40 rfl ?_
      refine s_istore_n (pc2 := 42) X dX9_growthBy_41 rfl (by decide) rfl rfl cat1_I (w32_in _) (fun w9 hw9 => ?_)
      refine s_iinc (j := 3) (pc2 := 45) X dX9_growthBy_42 rfl (by decide) rfl rfl rfl cat1_I (fun w10 hw10 => ?_)
      refine s_goto (pc2 := 4) X dX9_growthBy_45 (by decide) ?_
      refine s_sub (lv2 := [(0, vR C.1.1 l0), (1, vI l1), (2, vI w9), (3, vI w10)]) [2, 3, 1, 0] rfl ?_
      exact ih l0 l1 w9 w10 h1 hw9 hw10
set_option maxRecDepth 4000 in
set_option maxHeartbeats 20000000 in
theorem z_X9_growthBy (d : Nat) (hd : 3 ≤ d) {C : hCx} (K : hCtx C.1 C.2.2.1 d 0 0 "growthBy" C) (X : hOK C cX9_growthBy RX9 4 (some .int)) (l0 : Nat) (l1 : Int) (h1 : inI l1) : hSim C (some .int) 0 0 4 0 [(0, vR C.1.1 l0), (1, vI l1)] [] 0 0 (m_X9_growthBy l0 l1) := by
  obtain ⟨⟨hf, hlo⟩, ⟨hc1, hc2⟩, hf1, hl1⟩ := K_room K (by omega)
  have hcs : 0 ≤ C.2.2.2.2.1.cells ∧ 0 ≤ C.2.2.2.2.1.slots := ⟨Nat.zero_le _, Nat.zero_le _⟩
  unfold m_X9_growthBy
  refine s_iconst (n := 0) (pc2 := 1) X dX9_growthBy_0 rfl ?_
  refine s_istore_n (pc2 := 2) X dX9_growthBy_1 rfl (by decide) rfl rfl cat1_I (inI_c 0 rfl) (fun w1 hw1 => ?_)
  refine s_iconst (n := 0) (pc2 := 3) X dX9_growthBy_2 rfl ?_
  refine s_istore_n (pc2 := 4) X dX9_growthBy_3 rfl (by decide) rfl rfl cat1_I (inI_c 0 rfl) (fun w2 hw2 => ?_)
  refine s_sub (lv2 := [(0, vR C.1.1 l0), (1, vI l1), (2, vI w1), (3, vI w2)]) [2, 3, 1, 0] rfl ?_
  exact z_X9_growthBy_L4 d hd K X 1000000000 l0 l1 w1 w2 h1 hw1 hw2
theorem c_X9_growthBy (d : Nat) (hd : 3 ≤ d) (G : hG) (l : Launch) (l0 : Nat) (l1 : Int) (h1 : inI l1) : hMet G l yX9_growthBy cX9_growthBy 4 (some .int) d 0 0 [vR G.1 l0, vI l1] (m_X9_growthBy l0 l1) := by
  refine hMet.of (lv := [(0, vR G.1 l0), (1, vI l1)]) (by decide +kernel) (by simp [lg_sl, vR_cat, vI_cat, vL_cat, vS_cat2, vT_cat2]) (by simp [lv_args, vR_cat, vI_cat, vL_cat, vS_cat2, vT_cat2]) (fun C K X => ?_)
  obtain ⟨rfl, rfl, K⟩ := K
  exact z_X9_growthBy d hd ⟨rfl, rfl, K⟩ X l0 l1 h1
def m_X9_whoGainsBy_L42 (k4 : Nat → Int → Int → Int → hM) (l0 : Nat) (l1 : Int) (l2 : Int) (l3 : Int) : hM :=
  hlet (w32 (l3 + 1)) fun (w1 : Int) =>
  k4 l0 l1 l2 w1
def m_X9_whoGainsBy_L4 : Nat → Nat → Int → Int → Int → hM
  | 0, _, _, _, _ => hfail
  | n + 1, l0, l1, l2, l3 =>
    hgR 9 l0 3 fun v1 =>
  hgR 4 v1 0 fun v2 =>
  hgI 7 v2 7 fun v3 =>
  hif (l3 ≥ v3) (
hret l2) (
hgR 9 l0 3 fun v4 =>
  hcallV 4 v4 (m_X4_reachOf v4 l3 l1) fun v5 =>
  hgR 9 l0 16 fun v6 =>
  haI 20 v6 l3 fun v7 =>
  hif (v5 = v7) (
m_X9_whoGainsBy_L42 (m_X9_whoGainsBy_L4 n) l0 l1 l2 l3) (
hlet ((iorZ l2 ((ishlZ 1 l3)))) fun (w8 : Int) =>
  m_X9_whoGainsBy_L42 (m_X9_whoGainsBy_L4 n) l0 l1 w8 l3))
def m_X9_whoGainsBy (l0 : Nat) (l1 : Int) : hM :=
  hlet (0 : Int) fun (w1 : Int) =>
  hlet (0 : Int) fun (w2 : Int) =>
  m_X9_whoGainsBy_L4 1000000000 l0 l1 w1 w2
set_option maxRecDepth 4000 in
theorem z_X9_whoGainsBy_L42 (d : Nat) (hd : 3 ≤ d) {C : hCx} (K : hCtx C.1 C.2.2.1 d 0 0 "whoGainsBy" C) (X : hOK C cX9_whoGainsBy RX9 4 (some .int)) (k4 : Nat → Int → Int → Int → hM) (hk4 : ∀ (l0 : Nat) (l1 : Int) (l2 : Int) (l3 : Int), inI l1 → inI l2 → inI l3 → hSim C (some .int) 0 0 4 4 [(0, vR C.1.1 l0), (1, vI l1), (2, vI l2), (3, vI l3)] [] 0 0 (k4 l0 l1 l2 l3)) (l0 : Nat) (l1 : Int) (l2 : Int) (l3 : Int) (h1 : inI l1) (h2 : inI l2) (h3 : inI l3) : hSim C (some .int) 0 0 4 42 [(0, vR C.1.1 l0), (1, vI l1), (2, vI l2), (3, vI l3)] [] 0 0 (m_X9_whoGainsBy_L42 k4 l0 l1 l2 l3) := by
  obtain ⟨⟨hf, hlo⟩, ⟨hc1, hc2⟩, hf1, hl1⟩ := K_room K (by omega)
  have hcs : 0 ≤ C.2.2.2.2.1.cells ∧ 0 ≤ C.2.2.2.2.1.slots := ⟨Nat.zero_le _, Nat.zero_le _⟩
  unfold m_X9_whoGainsBy_L42
  refine s_iinc (j := 3) (pc2 := 45) X dX9_whoGainsBy_42 rfl (by decide) rfl rfl rfl cat1_I (fun w1 hw1 => ?_)
  refine s_goto (pc2 := 4) X dX9_whoGainsBy_45 (by decide) ?_
  refine s_sub (lv2 := [(0, vR C.1.1 l0), (1, vI l1), (2, vI l2), (3, vI w1)]) [1, 2, 3, 0] rfl ?_
  exact hk4 l0 l1 l2 w1 h1 h2 hw1
set_option maxRecDepth 4000 in
theorem z_X9_whoGainsBy_L4 (d : Nat) (hd : 3 ≤ d) {C : hCx} (K : hCtx C.1 C.2.2.1 d 0 0 "whoGainsBy" C) (X : hOK C cX9_whoGainsBy RX9 4 (some .int)) : ∀ (n : Nat) (l0 : Nat) (l1 : Int) (l2 : Int) (l3 : Int) (h1 : inI l1) (h2 : inI l2) (h3 : inI l3), hSim C (some .int) 0 0 4 4 [(0, vR C.1.1 l0), (1, vI l1), (2, vI l2), (3, vI l3)] [] 0 0 (m_X9_whoGainsBy_L4 n l0 l1 l2 l3) := by
  obtain ⟨⟨hf, hlo⟩, ⟨hc1, hc2⟩, hf1, hl1⟩ := K_room K (by omega)
  have hcs : 0 ≤ C.2.2.2.2.1.cells ∧ 0 ≤ C.2.2.2.2.1.slots := ⟨Nat.zero_le _, Nat.zero_le _⟩
  intro n
  induction n with
  | zero => intros; exact s_none (fun _ => rfl)
  | succ n ih =>
    intro l0 l1 l2 l3 h1 h2 h3
    unfold m_X9_whoGainsBy_L4
    refine s_iload_n (j := 3) (pc2 := 5) X dX9_whoGainsBy_4 rfl rfl ?_
    refine s_aload_n (j := 0) (pc2 := 6) X dX9_whoGainsBy_5 rfl rfl ?_
    refine s_getR (pc2 := 9) X dX9_whoGainsBy_6 rfl fl_RX9_71 rfl (fun v1 => ?_)
    refine s_getR (pc2 := 12) X dX9_whoGainsBy_9 rfl fl_RX9_140 rfl (fun v2 => ?_)
    refine s_getI (pc2 := 15) X dX9_whoGainsBy_12 rfl fl_RX9_185 rfl (fun v3 hv3 => ?_)
    refine s_icge (tgt := 48) X dX9_whoGainsBy_15 (by decide) rfl h3 hv3 ?_ ?_
    · refine s_iload_n (j := 2) (pc2 := 49) X dX9_whoGainsBy_48 rfl rfl ?_
      exact s_iret X dX9_whoGainsBy_49 h2
    · refine s_aload_n (j := 0) (pc2 := 19) X dX9_whoGainsBy_18 rfl rfl ?_
      refine s_getR (pc2 := 22) X dX9_whoGainsBy_19 rfl fl_RX9_71 rfl (fun v4 => ?_)
      refine s_iload_n (j := 3) (pc2 := 23) X dX9_whoGainsBy_22 rfl rfl ?_
      refine s_iload_n (j := 1) (pc2 := 24) X dX9_whoGainsBy_23 rfl rfl ?_
      refine s_callVI (d2 := d - 1) (As := [vI l3, vI l1]) (st := []) (pc2 := 27) X dX9_whoGainsBy_24 rfl ml_RX9_150 im_X4_reachOf se_X4_reachOf kX4 rfl (c_X4_reachOf (d - 1) (by omega) C.1 C.2.2.1 v4 l3 l1 h3 h1) hy_X4_reachOf rfl rfl hf hlo (st_room (Nat.le_of_ble_eq_true rfl)) hcs (fun v5 hv5 => ?_)
      refine s_aload_n (j := 0) (pc2 := 28) X dX9_whoGainsBy_27 rfl rfl ?_
      refine s_getR (pc2 := 31) X dX9_whoGainsBy_28 rfl fl_RX9_59 rfl (fun v6 => ?_)
      refine s_iload_n (j := 3) (pc2 := 32) X dX9_whoGainsBy_31 rfl rfl ?_
      refine s_iald (pc2 := 33) X dX9_whoGainsBy_32 rfl (fun v7 hv7 => ?_)
      refine s_iceq (tgt := 42) X dX9_whoGainsBy_33 (by decide) rfl hv5 hv7 ?_ ?_
      · exact z_X9_whoGainsBy_L42 d hd K X (m_X9_whoGainsBy_L4 n) ih l0 l1 l2 l3 h1 h2 h3
      · refine s_iload_n (j := 2) (pc2 := 37) X dX9_whoGainsBy_36 rfl rfl ?_
        refine s_iconst (n := 1) (pc2 := 38) X dX9_whoGainsBy_37 rfl ?_
        refine s_iload_n (j := 3) (pc2 := 39) X dX9_whoGainsBy_38 rfl rfl ?_
        refine s_ishl (pc2 := 40) X dX9_whoGainsBy_39 rfl ?_
        refine s_ior (pc2 := 41) X dX9_whoGainsBy_40 rfl ?_
        refine s_istore_n (pc2 := 42) X dX9_whoGainsBy_41 rfl (by decide) rfl rfl cat1_I (iorZ_in _ _) (fun w8 hw8 => ?_)
        refine s_sub (lv2 := [(0, vR C.1.1 l0), (1, vI l1), (2, vI w8), (3, vI l3)]) [1, 2, 0, 3] rfl ?_
        exact z_X9_whoGainsBy_L42 d hd K X (m_X9_whoGainsBy_L4 n) ih l0 l1 w8 l3 h1 hw8 h3
set_option maxRecDepth 4000 in
set_option maxHeartbeats 20000000 in
theorem z_X9_whoGainsBy (d : Nat) (hd : 3 ≤ d) {C : hCx} (K : hCtx C.1 C.2.2.1 d 0 0 "whoGainsBy" C) (X : hOK C cX9_whoGainsBy RX9 4 (some .int)) (l0 : Nat) (l1 : Int) (h1 : inI l1) : hSim C (some .int) 0 0 4 0 [(0, vR C.1.1 l0), (1, vI l1)] [] 0 0 (m_X9_whoGainsBy l0 l1) := by
  obtain ⟨⟨hf, hlo⟩, ⟨hc1, hc2⟩, hf1, hl1⟩ := K_room K (by omega)
  have hcs : 0 ≤ C.2.2.2.2.1.cells ∧ 0 ≤ C.2.2.2.2.1.slots := ⟨Nat.zero_le _, Nat.zero_le _⟩
  unfold m_X9_whoGainsBy
  refine s_iconst (n := 0) (pc2 := 1) X dX9_whoGainsBy_0 rfl ?_
  refine s_istore_n (pc2 := 2) X dX9_whoGainsBy_1 rfl (by decide) rfl rfl cat1_I (inI_c 0 rfl) (fun w1 hw1 => ?_)
  refine s_iconst (n := 0) (pc2 := 3) X dX9_whoGainsBy_2 rfl ?_
  refine s_istore_n (pc2 := 4) X dX9_whoGainsBy_3 rfl (by decide) rfl rfl cat1_I (inI_c 0 rfl) (fun w2 hw2 => ?_)
  refine s_sub (lv2 := [(0, vR C.1.1 l0), (1, vI l1), (2, vI w1), (3, vI w2)]) [2, 3, 1, 0] rfl ?_
  exact z_X9_whoGainsBy_L4 d hd K X 1000000000 l0 l1 w1 w2 h1 hw1 hw2
theorem c_X9_whoGainsBy (d : Nat) (hd : 3 ≤ d) (G : hG) (l : Launch) (l0 : Nat) (l1 : Int) (h1 : inI l1) : hMet G l yX9_whoGainsBy cX9_whoGainsBy 4 (some .int) d 0 0 [vR G.1 l0, vI l1] (m_X9_whoGainsBy l0 l1) := by
  refine hMet.of (lv := [(0, vR G.1 l0), (1, vI l1)]) (by decide +kernel) (by simp [lg_sl, vR_cat, vI_cat, vL_cat, vS_cat2, vT_cat2]) (by simp [lv_args, vR_cat, vI_cat, vL_cat, vS_cat2, vT_cat2]) (fun C K X => ?_)
  obtain ⟨rfl, rfl, K⟩ := K
  exact z_X9_whoGainsBy d hd ⟨rfl, rfl, K⟩ X l0 l1 h1
def m_X9_best_L16 : hM :=
  hret ((-1))
def m_X9_best_L94 (s0 : Int) : hM :=
  hret s0
def m_X9_best_L68 (k30 : Nat → Int → Int → Int → Int → hM) (l0 : Nat) (l1 : Int) (l2 : Int) (l3 : Int) (l4 : Int) : hM :=
  hlet (w32 (l4 + 1)) fun (w1 : Int) =>
  k30 l0 l1 l2 l3 w1
def m_X9_best_L30 : Nat → Nat → Int → Int → Int → Int → hM
  | 0, _, _, _, _, _ => hfail
  | n + 1, l0, l1, l2, l3, l4 =>
    hgR 9 l0 3 fun v1 =>
  hgR 4 v1 0 fun v2 =>
  hgR 7 v2 2 fun v3 =>
  hgI 1 v3 3 fun v4 =>
  hif (l4 ≥ v4) (
hif (l1 ≠ 0) (
hif (l1 ≠ 1) (
hcallV 9 l0 (m_X9_whoGainsBy l0 l2) fun v5 =>
  m_X9_best_L94 v5) (
m_X9_best_L94 l3)) (
hret l2)) (
hcallV 9 l0 (m_X9_growthBy l0 l4) fun v6 =>
  hlet v6 fun (w7 : Int) =>
  hif (w7 ≤ l3) (
m_X9_best_L68 (m_X9_best_L30 n) l0 l1 l2 l3 l4) (
hlet l4 fun (w8 : Int) =>
  hlet w7 fun (w9 : Int) =>
  m_X9_best_L68 (m_X9_best_L30 n) l0 l1 w8 w9 l4))
def m_X9_best (l0 : Nat) (l1 : Int) : hM :=
  hcallV 9 l0 (m_X9_hasTown l0) fun v1 =>
  hif (v1 = 0) (
m_X9_best_L16) (
hif (l1 < 0) (
m_X9_best_L16) (
hif (l1 ≤ 2) (
hcallV 9 l0 (m_X9_findReaches l0) fun _ =>
  hlet ((-2) : Int) fun (w2 : Int) =>
  hlet (0 : Int) fun (w3 : Int) =>
  hlet (0 : Int) fun (w4 : Int) =>
  m_X9_best_L30 1000000000 l0 l1 w2 w3 w4) (
m_X9_best_L16)))
set_option maxRecDepth 4000 in
theorem z_X9_best_L16 (d : Nat) (hd : 4 ≤ d) {C : hCx} (K : hCtx C.1 C.2.2.1 d 0 0 "best" C) (X : hOK C cX9_best RX9 6 (some .int)) : hSim C (some .int) 0 0 6 16 [] [] 0 0 (m_X9_best_L16) := by
  obtain ⟨⟨hf, hlo⟩, ⟨hc1, hc2⟩, hf1, hl1⟩ := K_room K (by omega)
  have hcs : 0 ≤ C.2.2.2.2.1.cells ∧ 0 ≤ C.2.2.2.2.1.slots := ⟨Nat.zero_le _, Nat.zero_le _⟩
  unfold m_X9_best_L16
  refine s_iconst (n := (-1)) (pc2 := 17) X dX9_best_16 rfl ?_
  exact s_iret X dX9_best_17 (inI_c (-1) rfl)
set_option maxRecDepth 4000 in
theorem z_X9_best_L94 (d : Nat) (hd : 4 ≤ d) {C : hCx} (K : hCtx C.1 C.2.2.1 d 0 0 "best" C) (X : hOK C cX9_best RX9 6 (some .int)) (s0 : Int) (g0 : inI s0) : hSim C (some .int) 0 0 6 94 [] [vI s0] 0 0 (m_X9_best_L94 s0) := by
  obtain ⟨⟨hf, hlo⟩, ⟨hc1, hc2⟩, hf1, hl1⟩ := K_room K (by omega)
  have hcs : 0 ≤ C.2.2.2.2.1.cells ∧ 0 ≤ C.2.2.2.2.1.slots := ⟨Nat.zero_le _, Nat.zero_le _⟩
  unfold m_X9_best_L94
  exact s_iret X dX9_best_94 g0
set_option maxRecDepth 4000 in
theorem z_X9_best_L68 (d : Nat) (hd : 4 ≤ d) {C : hCx} (K : hCtx C.1 C.2.2.1 d 0 0 "best" C) (X : hOK C cX9_best RX9 6 (some .int)) (k30 : Nat → Int → Int → Int → Int → hM) (hk30 : ∀ (l0 : Nat) (l1 : Int) (l2 : Int) (l3 : Int) (l4 : Int), inI l1 → inI l2 → inI l3 → inI l4 → hSim C (some .int) 0 0 6 30 [(0, vR C.1.1 l0), (1, vI l1), (2, vI l2), (3, vI l3), (4, vI l4)] [] 0 0 (k30 l0 l1 l2 l3 l4)) (l0 : Nat) (l1 : Int) (l2 : Int) (l3 : Int) (l4 : Int) (h1 : inI l1) (h2 : inI l2) (h3 : inI l3) (h4 : inI l4) : hSim C (some .int) 0 0 6 68 [(0, vR C.1.1 l0), (1, vI l1), (2, vI l2), (3, vI l3), (4, vI l4)] [] 0 0 (m_X9_best_L68 k30 l0 l1 l2 l3 l4) := by
  obtain ⟨⟨hf, hlo⟩, ⟨hc1, hc2⟩, hf1, hl1⟩ := K_room K (by omega)
  have hcs : 0 ≤ C.2.2.2.2.1.cells ∧ 0 ≤ C.2.2.2.2.1.slots := ⟨Nat.zero_le _, Nat.zero_le _⟩
  unfold m_X9_best_L68
  refine s_iinc (j := 4) (pc2 := 71) X dX9_best_68 rfl (by decide) rfl rfl rfl cat1_I (fun w1 hw1 => ?_)
  refine s_goto (pc2 := 30) X dX9_best_71 (by decide) ?_
  refine s_sub (lv2 := [(0, vR C.1.1 l0), (1, vI l1), (2, vI l2), (3, vI l3), (4, vI w1)]) [1, 2, 3, 4, 0] rfl ?_
  exact hk30 l0 l1 l2 l3 w1 h1 h2 h3 hw1
set_option maxRecDepth 4000 in
theorem z_X9_best_L30 (d : Nat) (hd : 4 ≤ d) {C : hCx} (K : hCtx C.1 C.2.2.1 d 0 0 "best" C) (X : hOK C cX9_best RX9 6 (some .int)) : ∀ (n : Nat) (l0 : Nat) (l1 : Int) (l2 : Int) (l3 : Int) (l4 : Int) (h1 : inI l1) (h2 : inI l2) (h3 : inI l3) (h4 : inI l4), hSim C (some .int) 0 0 6 30 [(0, vR C.1.1 l0), (1, vI l1), (2, vI l2), (3, vI l3), (4, vI l4)] [] 0 0 (m_X9_best_L30 n l0 l1 l2 l3 l4) := by
  obtain ⟨⟨hf, hlo⟩, ⟨hc1, hc2⟩, hf1, hl1⟩ := K_room K (by omega)
  have hcs : 0 ≤ C.2.2.2.2.1.cells ∧ 0 ≤ C.2.2.2.2.1.slots := ⟨Nat.zero_le _, Nat.zero_le _⟩
  intro n
  induction n with
  | zero => intros; exact s_none (fun _ => rfl)
  | succ n ih =>
    intro l0 l1 l2 l3 l4 h1 h2 h3 h4
    unfold m_X9_best_L30
    refine s_iload (j := 4) (pc2 := 32) X dX9_best_30 rfl rfl ?_
    refine s_aload_n (j := 0) (pc2 := 33) X dX9_best_32 rfl rfl ?_
    refine s_getR (pc2 := 36) X dX9_best_33 rfl fl_RX9_71 rfl (fun v1 => ?_)
    refine s_getR (pc2 := 39) X dX9_best_36 rfl fl_RX9_140 rfl (fun v2 => ?_)
    refine s_getR (pc2 := 42) X dX9_best_39 rfl fl_RX9_87 rfl (fun v3 => ?_)
    refine s_getI (pc2 := 45) X dX9_best_42 rfl fl_RX9_127 rfl (fun v4 hv4 => ?_)
    refine s_icge (tgt := 74) X dX9_best_45 (by decide) rfl h4 hv4 ?_ ?_
    · refine s_iload_n (j := 1) (pc2 := 75) X dX9_best_74 rfl rfl ?_
      refine s_ifne (tgt := 80) X dX9_best_75 (by decide) rfl h1 ?_ ?_
      · refine s_iload_n (j := 1) (pc2 := 81) X dX9_best_80 rfl rfl ?_
        refine s_iconst (n := 1) (pc2 := 82) X dX9_best_81 rfl ?_
        refine s_icne (tgt := 89) X dX9_best_82 (by decide) rfl h1 (inI_c 1 rfl) ?_ ?_
        · refine s_aload_n (j := 0) (pc2 := 90) X dX9_best_89 rfl rfl ?_
          refine s_iload_n (j := 2) (pc2 := 91) X dX9_best_90 rfl rfl ?_
          refine s_callVI (d2 := d - 1) (As := [vI l2]) (st := []) (pc2 := 94) X dX9_best_91 rfl ml_RX9_276 im_X9_whoGainsBy se_X9_whoGainsBy kX9 rfl (c_X9_whoGainsBy (d - 1) (by omega) C.1 C.2.2.1 l0 l2 h2) hy_X9_whoGainsBy rfl rfl hf hlo (st_room (Nat.le_of_ble_eq_true rfl)) hcs (fun v5 hv5 => ?_)
          refine s_sub (lv2 := []) [] rfl ?_
          exact z_X9_best_L94 d hd K X v5 hv5
        · refine s_iload_n (j := 3) (pc2 := 86) X dX9_best_85 rfl rfl ?_
          refine s_goto (pc2 := 94) X dX9_best_86 (by decide) ?_
          refine s_sub (lv2 := []) [] rfl ?_
          exact z_X9_best_L94 d hd K X l3 h3
      · refine s_iload_n (j := 2) (pc2 := 79) X dX9_best_78 rfl rfl ?_
        exact s_iret X dX9_best_79 h2
    · refine s_aload_n (j := 0) (pc2 := 49) X dX9_best_48 rfl rfl ?_
      refine s_iload (j := 4) (pc2 := 51) X dX9_best_49 rfl rfl ?_
      refine s_callVI (d2 := d - 1) (As := [vI l4]) (st := []) (pc2 := 54) X dX9_best_51 rfl ml_RX9_273 im_X9_growthBy se_X9_growthBy kX9 rfl (c_X9_growthBy (d - 1) (by omega) C.1 C.2.2.1 l0 l4 h4) hy_X9_growthBy rfl rfl hf hlo (st_room (Nat.le_of_ble_eq_true rfl)) hcs (fun v6 hv6 => ?_)
      refine s_istore (pc2 := 56) X dX9_best_54 rfl (by decide) rfl rfl cat1_I hv6 (fun w7 hw7 => ?_)
      refine s_iload (j := 0) (pc2 := 58) X dX9_best_56 rfl rfl ?_
      refine s_iload_n (j := 4) (pc2 := 59) X dX9_best_58 rfl rfl ?_
      refine s_icle (tgt := 68) X dX9_best_59 (by decide) rfl hw7 h3 ?_ ?_
      · refine s_sub (lv2 := [(0, vR C.1.1 l0), (1, vI l1), (2, vI l2), (3, vI l3), (4, vI l4)]) [1, 2, 3, 4, 5] rfl ?_
        exact z_X9_best_L68 d hd K X (m_X9_best_L30 n) ih l0 l1 l2 l3 l4 h1 h2 h3 h4
      · refine s_iload (j := 5) (pc2 := 64) X dX9_best_62 rfl rfl ?_
        refine s_istore_n (pc2 := 65) X dX9_best_64 rfl (by decide) rfl rfl cat1_I h4 (fun w8 hw8 => ?_)
        refine s_iload (j := 1) (pc2 := 67) X dX9_best_65 rfl rfl ?_
        refine s_istore_n (pc2 := 68) X dX9_best_67 rfl (by decide) rfl rfl cat1_I hw7 (fun w9 hw9 => ?_)
        refine s_sub (lv2 := [(0, vR C.1.1 l0), (1, vI l1), (2, vI w8), (3, vI w9), (4, vI l4)]) [3, 4, 1, 0, 5] rfl ?_
        exact z_X9_best_L68 d hd K X (m_X9_best_L30 n) ih l0 l1 w8 w9 l4 h1 hw8 hw9 h4
set_option maxRecDepth 4000 in
set_option maxHeartbeats 20000000 in
theorem z_X9_best (d : Nat) (hd : 4 ≤ d) {C : hCx} (K : hCtx C.1 C.2.2.1 d 0 0 "best" C) (X : hOK C cX9_best RX9 6 (some .int)) (l0 : Nat) (l1 : Int) (h1 : inI l1) : hSim C (some .int) 0 0 6 0 [(0, vR C.1.1 l0), (1, vI l1)] [] 0 0 (m_X9_best l0 l1) := by
  obtain ⟨⟨hf, hlo⟩, ⟨hc1, hc2⟩, hf1, hl1⟩ := K_room K (by omega)
  have hcs : 0 ≤ C.2.2.2.2.1.cells ∧ 0 ≤ C.2.2.2.2.1.slots := ⟨Nat.zero_le _, Nat.zero_le _⟩
  unfold m_X9_best
  refine s_aload_n (j := 0) (pc2 := 1) X dX9_best_0 rfl rfl ?_
  refine s_callVZ (d2 := d - 1) (As := []) (st := []) (pc2 := 4) X dX9_best_1 rfl ml_RX9_225 im_X9_hasTown se_X9_hasTown kX9 rfl (c_X9_hasTown (d - 1) (by omega) C.1 C.2.2.1 l0) hy_X9_hasTown rfl rfl hf hlo (st_room (Nat.le_of_ble_eq_true rfl)) hcs (fun v1 hv1 => ?_)
  refine s_ifeq (tgt := 16) X dX9_best_4 (by decide) rfl hv1 ?_ ?_
  · refine s_sub (lv2 := []) [] rfl ?_
    exact z_X9_best_L16 d hd K X
  · refine s_iload_n (j := 1) (pc2 := 8) X dX9_best_7 rfl rfl ?_
    refine s_iflt (tgt := 16) X dX9_best_8 (by decide) rfl h1 ?_ ?_
    · refine s_sub (lv2 := []) [] rfl ?_
      exact z_X9_best_L16 d hd K X
    · refine s_iload_n (j := 1) (pc2 := 12) X dX9_best_11 rfl rfl ?_
      refine s_iconst (n := 2) (pc2 := 13) X dX9_best_12 rfl ?_
      refine s_icle (tgt := 18) X dX9_best_13 (by decide) rfl h1 (inI_c 2 rfl) ?_ ?_
      · refine s_aload_n (j := 0) (pc2 := 19) X dX9_best_18 rfl rfl ?_
        refine s_callVV (d2 := d - 1) (As := []) (st := []) (pc2 := 22) X dX9_best_19 rfl ml_RX9_270 im_X9_findReaches se_X9_findReaches kX9 rfl (c_X9_findReaches (d - 1) (by omega) C.1 C.2.2.1 l0) hy_X9_findReaches rfl rfl hf hlo (st_room (Nat.le_of_ble_eq_true rfl)) hcs (fun _ => ?_)
        refine s_bipush (n := (-2)) (pc2 := 24) X dX9_best_22 rfl rfl ?_
        refine s_istore_n (pc2 := 25) X dX9_best_24 rfl (by decide) rfl rfl cat1_I (inI_c (-2) rfl) (fun w2 hw2 => ?_)
        refine s_iconst (n := 0) (pc2 := 26) X dX9_best_25 rfl ?_
        refine s_istore_n (pc2 := 27) X dX9_best_26 rfl (by decide) rfl rfl cat1_I (inI_c 0 rfl) (fun w3 hw3 => ?_)
        refine s_iconst (n := 0) (pc2 := 28) X dX9_best_27 rfl ?_
        refine s_istore (pc2 := 30) X dX9_best_28 rfl (by decide) rfl rfl cat1_I (inI_c 0 rfl) (fun w4 hw4 => ?_)
        refine s_sub (lv2 := [(0, vR C.1.1 l0), (1, vI l1), (2, vI w2), (3, vI w3), (4, vI w4)]) [3, 4, 2, 1, 0] rfl ?_
        exact z_X9_best_L30 d hd K X 1000000000 l0 l1 w2 w3 w4 h1 hw2 hw3 hw4
      · refine s_sub (lv2 := []) [] rfl ?_
        exact z_X9_best_L16 d hd K X
theorem c_X9_best (d : Nat) (hd : 4 ≤ d) (G : hG) (l : Launch) (l0 : Nat) (l1 : Int) (h1 : inI l1) : hMet G l yX9_best cX9_best 6 (some .int) d 0 0 [vR G.1 l0, vI l1] (m_X9_best l0 l1) := by
  refine hMet.of (lv := [(0, vR G.1 l0), (1, vI l1)]) (by decide +kernel) (by simp [lg_sl, vR_cat, vI_cat, vL_cat, vS_cat2, vT_cat2]) (by simp [lv_args, vR_cat, vI_cat, vL_cat, vS_cat2, vT_cat2]) (fun C K X => ?_)
  obtain ⟨rfl, rfl, K⟩ := K
  exact z_X9_best d hd ⟨rfl, rfl, K⟩ X l0 l1 h1
def m_X9_isInReachOfOthers_L44 (k2 : Nat → Int → Int → hM) (l0 : Nat) (l1 : Int) (l2 : Int) : hM :=
  hlet (w32 (l2 + 1)) fun (w1 : Int) =>
  k2 l0 l1 w1
def m_X9_isInReachOfOthers_L2 : Nat → Nat → Int → Int → hM
  | 0, _, _, _ => hfail
  | n + 1, l0, l1, l2 =>
    hgR 9 l0 3 fun v1 =>
  hgR 4 v1 0 fun v2 =>
  hgI 7 v2 7 fun v3 =>
  hif (l2 ≥ v3) (
hretZ 0) (
hif (l2 = l1) (
m_X9_isInReachOfOthers_L44 (m_X9_isInReachOfOthers_L2 n) l0 l1 l2) (
hgR 9 l0 16 fun v4 =>
  haI 20 v4 l2 fun v5 =>
  hgR 9 l0 3 fun v6 =>
  hgR 4 v6 2 fun v7 =>
  haI 20 v7 l1 fun v8 =>
  hif (((iandZ ((ishrZ v5 v8)) 1)) = 0) (
m_X9_isInReachOfOthers_L44 (m_X9_isInReachOfOthers_L2 n) l0 l1 l2) (
hretZ 1)))
def m_X9_isInReachOfOthers (l0 : Nat) (l1 : Int) : hM :=
  hlet (0 : Int) fun (w1 : Int) =>
  m_X9_isInReachOfOthers_L2 1000000000 l0 l1 w1
set_option maxRecDepth 4000 in
theorem z_X9_isInReachOfOthers_L44 (d : Nat) (hd : 1 ≤ d) {C : hCx} (K : hCtx C.1 C.2.2.1 d 0 0 "isInReachOfOthers" C) (X : hOK C cX9_isInReachOfOthers RX9 3 (some .boolean)) (k2 : Nat → Int → Int → hM) (hk2 : ∀ (l0 : Nat) (l1 : Int) (l2 : Int), inI l1 → inI l2 → hSim C (some .boolean) 0 0 3 2 [(0, vR C.1.1 l0), (1, vI l1), (2, vI l2)] [] 0 0 (k2 l0 l1 l2)) (l0 : Nat) (l1 : Int) (l2 : Int) (h1 : inI l1) (h2 : inI l2) : hSim C (some .boolean) 0 0 3 44 [(0, vR C.1.1 l0), (1, vI l1), (2, vI l2)] [] 0 0 (m_X9_isInReachOfOthers_L44 k2 l0 l1 l2) := by
  obtain ⟨⟨hf, hlo⟩, ⟨hc1, hc2⟩, hf1, hl1⟩ := K_room K (by omega)
  have hcs : 0 ≤ C.2.2.2.2.1.cells ∧ 0 ≤ C.2.2.2.2.1.slots := ⟨Nat.zero_le _, Nat.zero_le _⟩
  unfold m_X9_isInReachOfOthers_L44
  refine s_iinc (j := 2) (pc2 := 47) X dX9_isInReachOfOthers_44 rfl (by decide) rfl rfl rfl cat1_I (fun w1 hw1 => ?_)
  refine s_goto (pc2 := 2) X dX9_isInReachOfOthers_47 (by decide) ?_
  refine s_sub (lv2 := [(0, vR C.1.1 l0), (1, vI l1), (2, vI w1)]) [1, 2, 0] rfl ?_
  exact hk2 l0 l1 w1 h1 hw1
set_option maxRecDepth 4000 in
theorem z_X9_isInReachOfOthers_L2 (d : Nat) (hd : 1 ≤ d) {C : hCx} (K : hCtx C.1 C.2.2.1 d 0 0 "isInReachOfOthers" C) (X : hOK C cX9_isInReachOfOthers RX9 3 (some .boolean)) : ∀ (n : Nat) (l0 : Nat) (l1 : Int) (l2 : Int) (h1 : inI l1) (h2 : inI l2), hSim C (some .boolean) 0 0 3 2 [(0, vR C.1.1 l0), (1, vI l1), (2, vI l2)] [] 0 0 (m_X9_isInReachOfOthers_L2 n l0 l1 l2) := by
  obtain ⟨⟨hf, hlo⟩, ⟨hc1, hc2⟩, hf1, hl1⟩ := K_room K (by omega)
  have hcs : 0 ≤ C.2.2.2.2.1.cells ∧ 0 ≤ C.2.2.2.2.1.slots := ⟨Nat.zero_le _, Nat.zero_le _⟩
  intro n
  induction n with
  | zero => intros; exact s_none (fun _ => rfl)
  | succ n ih =>
    intro l0 l1 l2 h1 h2
    unfold m_X9_isInReachOfOthers_L2
    refine s_iload_n (j := 2) (pc2 := 3) X dX9_isInReachOfOthers_2 rfl rfl ?_
    refine s_aload_n (j := 0) (pc2 := 4) X dX9_isInReachOfOthers_3 rfl rfl ?_
    refine s_getR (pc2 := 7) X dX9_isInReachOfOthers_4 rfl fl_RX9_71 rfl (fun v1 => ?_)
    refine s_getR (pc2 := 10) X dX9_isInReachOfOthers_7 rfl fl_RX9_140 rfl (fun v2 => ?_)
    refine s_getI (pc2 := 13) X dX9_isInReachOfOthers_10 rfl fl_RX9_185 rfl (fun v3 hv3 => ?_)
    refine s_icge (tgt := 50) X dX9_isInReachOfOthers_13 (by decide) rfl h2 hv3 ?_ ?_
    · refine s_iconst (n := 0) (pc2 := 51) X dX9_isInReachOfOthers_50 rfl ?_
      exact s_zret X dX9_isInReachOfOthers_51
    · refine s_iload_n (j := 2) (pc2 := 17) X dX9_isInReachOfOthers_16 rfl rfl ?_
      refine s_iload_n (j := 1) (pc2 := 18) X dX9_isInReachOfOthers_17 rfl rfl ?_
      refine s_iceq (tgt := 44) X dX9_isInReachOfOthers_18 (by decide) rfl h2 h1 ?_ ?_
      · exact z_X9_isInReachOfOthers_L44 d hd K X (m_X9_isInReachOfOthers_L2 n) ih l0 l1 l2 h1 h2
      · refine s_aload_n (j := 0) (pc2 := 22) X dX9_isInReachOfOthers_21 rfl rfl ?_
        refine s_getR (pc2 := 25) X dX9_isInReachOfOthers_22 rfl fl_RX9_59 rfl (fun v4 => ?_)
        refine s_iload_n (j := 2) (pc2 := 26) X dX9_isInReachOfOthers_25 rfl rfl ?_
        refine s_iald (pc2 := 27) X dX9_isInReachOfOthers_26 rfl (fun v5 hv5 => ?_)
        refine s_aload_n (j := 0) (pc2 := 28) X dX9_isInReachOfOthers_27 rfl rfl ?_
        refine s_getR (pc2 := 31) X dX9_isInReachOfOthers_28 rfl fl_RX9_71 rfl (fun v6 => ?_)
        refine s_getR (pc2 := 34) X dX9_isInReachOfOthers_31 rfl fl_RX9_137 rfl (fun v7 => ?_)
        refine s_iload_n (j := 1) (pc2 := 35) X dX9_isInReachOfOthers_34 rfl rfl ?_
        refine s_iald (pc2 := 36) X dX9_isInReachOfOthers_35 rfl (fun v8 hv8 => ?_)
        refine s_ishr (pc2 := 37) X dX9_isInReachOfOthers_36 rfl ?_
        refine s_iconst (n := 1) (pc2 := 38) X dX9_isInReachOfOthers_37 rfl ?_
        refine s_iand (pc2 := 39) X dX9_isInReachOfOthers_38 rfl ?_
        refine s_ifeq (tgt := 44) X dX9_isInReachOfOthers_39 (by decide) rfl (iandZ_in _ _) ?_ ?_
        · exact z_X9_isInReachOfOthers_L44 d hd K X (m_X9_isInReachOfOthers_L2 n) ih l0 l1 l2 h1 h2
        · refine s_iconst (n := 1) (pc2 := 43) X dX9_isInReachOfOthers_42 rfl ?_
          exact s_zret X dX9_isInReachOfOthers_43
set_option maxRecDepth 4000 in
set_option maxHeartbeats 20000000 in
theorem z_X9_isInReachOfOthers (d : Nat) (hd : 1 ≤ d) {C : hCx} (K : hCtx C.1 C.2.2.1 d 0 0 "isInReachOfOthers" C) (X : hOK C cX9_isInReachOfOthers RX9 3 (some .boolean)) (l0 : Nat) (l1 : Int) (h1 : inI l1) : hSim C (some .boolean) 0 0 3 0 [(0, vR C.1.1 l0), (1, vI l1)] [] 0 0 (m_X9_isInReachOfOthers l0 l1) := by
  obtain ⟨⟨hf, hlo⟩, ⟨hc1, hc2⟩, hf1, hl1⟩ := K_room K (by omega)
  have hcs : 0 ≤ C.2.2.2.2.1.cells ∧ 0 ≤ C.2.2.2.2.1.slots := ⟨Nat.zero_le _, Nat.zero_le _⟩
  unfold m_X9_isInReachOfOthers
  refine s_iconst (n := 0) (pc2 := 1) X dX9_isInReachOfOthers_0 rfl ?_
  refine s_istore_n (pc2 := 2) X dX9_isInReachOfOthers_1 rfl (by decide) rfl rfl cat1_I (inI_c 0 rfl) (fun w1 hw1 => ?_)
  refine s_sub (lv2 := [(0, vR C.1.1 l0), (1, vI l1), (2, vI w1)]) [1, 2, 0] rfl ?_
  exact z_X9_isInReachOfOthers_L2 d hd K X 1000000000 l0 l1 w1 h1 hw1
theorem c_X9_isInReachOfOthers (d : Nat) (hd : 1 ≤ d) (G : hG) (l : Launch) (l0 : Nat) (l1 : Int) (h1 : inI l1) : hMet G l yX9_isInReachOfOthers cX9_isInReachOfOthers 3 (some .boolean) d 0 0 [vR G.1 l0, vI l1] (m_X9_isInReachOfOthers l0 l1) := by
  refine hMet.of (lv := [(0, vR G.1 l0), (1, vI l1)]) (by decide +kernel) (by simp [lg_sl, vR_cat, vI_cat, vL_cat, vS_cat2, vT_cat2]) (by simp [lv_args, vR_cat, vI_cat, vL_cat, vS_cat2, vT_cat2]) (fun C K X => ?_)
  obtain ⟨rfl, rfl, K⟩ := K
  exact z_X9_isInReachOfOthers d hd ⟨rfl, rfl, K⟩ X l0 l1 h1
def m_X9_alone_L45 (k17 : Nat → Int → Int → hM) (l0 : Nat) (l1 : Int) (l2 : Int) : hM :=
  hlet (w32 (l2 + 1)) fun (w1 : Int) =>
  k17 l0 l1 w1
def m_X9_alone_L17 : Nat → Nat → Int → Int → hM
  | 0, _, _, _ => hfail
  | n + 1, l0, l1, l2 =>
    hgR 9 l0 3 fun v1 =>
  hgR 4 v1 0 fun v2 =>
  hgI 7 v2 7 fun v3 =>
  hif (l2 ≥ v3) (
hret l1) (
hcallV 9 l0 (m_X9_isInReachOfOthers l0 l2) fun v4 =>
  hif (v4 ≠ 0) (
m_X9_alone_L45 (m_X9_alone_L17 n) l0 l1 l2) (
hlet ((iorZ l1 ((ishlZ 1 l2)))) fun (w5 : Int) =>
  m_X9_alone_L45 (m_X9_alone_L17 n) l0 w5 l2))
def m_X9_alone (l0 : Nat) : hM :=
  hcallV 9 l0 (m_X9_hasTown l0) fun v1 =>
  hif (v1 ≠ 0) (
hcallV 9 l0 (m_X9_findReaches l0) fun _ =>
  hlet (0 : Int) fun (w2 : Int) =>
  hlet (0 : Int) fun (w3 : Int) =>
  m_X9_alone_L17 1000000000 l0 w2 w3) (
hret ((-1)))
set_option maxRecDepth 4000 in
theorem z_X9_alone_L45 (d : Nat) (hd : 4 ≤ d) {C : hCx} (K : hCtx C.1 C.2.2.1 d 0 0 "alone" C) (X : hOK C cX9_alone RX9 3 (some .int)) (k17 : Nat → Int → Int → hM) (hk17 : ∀ (l0 : Nat) (l1 : Int) (l2 : Int), inI l1 → inI l2 → hSim C (some .int) 0 0 3 17 [(0, vR C.1.1 l0), (1, vI l1), (2, vI l2)] [] 0 0 (k17 l0 l1 l2)) (l0 : Nat) (l1 : Int) (l2 : Int) (h1 : inI l1) (h2 : inI l2) : hSim C (some .int) 0 0 3 45 [(0, vR C.1.1 l0), (1, vI l1), (2, vI l2)] [] 0 0 (m_X9_alone_L45 k17 l0 l1 l2) := by
  obtain ⟨⟨hf, hlo⟩, ⟨hc1, hc2⟩, hf1, hl1⟩ := K_room K (by omega)
  have hcs : 0 ≤ C.2.2.2.2.1.cells ∧ 0 ≤ C.2.2.2.2.1.slots := ⟨Nat.zero_le _, Nat.zero_le _⟩
  unfold m_X9_alone_L45
  refine s_iinc (j := 2) (pc2 := 48) X dX9_alone_45 rfl (by decide) rfl rfl rfl cat1_I (fun w1 hw1 => ?_)
  refine s_goto (pc2 := 17) X dX9_alone_48 (by decide) ?_
  refine s_sub (lv2 := [(0, vR C.1.1 l0), (1, vI l1), (2, vI w1)]) [1, 2, 0] rfl ?_
  exact hk17 l0 l1 w1 h1 hw1
set_option maxRecDepth 4000 in
theorem z_X9_alone_L17 (d : Nat) (hd : 4 ≤ d) {C : hCx} (K : hCtx C.1 C.2.2.1 d 0 0 "alone" C) (X : hOK C cX9_alone RX9 3 (some .int)) : ∀ (n : Nat) (l0 : Nat) (l1 : Int) (l2 : Int) (h1 : inI l1) (h2 : inI l2), hSim C (some .int) 0 0 3 17 [(0, vR C.1.1 l0), (1, vI l1), (2, vI l2)] [] 0 0 (m_X9_alone_L17 n l0 l1 l2) := by
  obtain ⟨⟨hf, hlo⟩, ⟨hc1, hc2⟩, hf1, hl1⟩ := K_room K (by omega)
  have hcs : 0 ≤ C.2.2.2.2.1.cells ∧ 0 ≤ C.2.2.2.2.1.slots := ⟨Nat.zero_le _, Nat.zero_le _⟩
  intro n
  induction n with
  | zero => intros; exact s_none (fun _ => rfl)
  | succ n ih =>
    intro l0 l1 l2 h1 h2
    unfold m_X9_alone_L17
    refine s_iload_n (j := 2) (pc2 := 18) X dX9_alone_17 rfl rfl ?_
    refine s_aload_n (j := 0) (pc2 := 19) X dX9_alone_18 rfl rfl ?_
    refine s_getR (pc2 := 22) X dX9_alone_19 rfl fl_RX9_71 rfl (fun v1 => ?_)
    refine s_getR (pc2 := 25) X dX9_alone_22 rfl fl_RX9_140 rfl (fun v2 => ?_)
    refine s_getI (pc2 := 28) X dX9_alone_25 rfl fl_RX9_185 rfl (fun v3 hv3 => ?_)
    refine s_icge (tgt := 51) X dX9_alone_28 (by decide) rfl h2 hv3 ?_ ?_
    · refine s_iload_n (j := 1) (pc2 := 52) X dX9_alone_51 rfl rfl ?_
      exact s_iret X dX9_alone_52 h1
    · refine s_aload_n (j := 0) (pc2 := 32) X dX9_alone_31 rfl rfl ?_
      refine s_iload_n (j := 2) (pc2 := 33) X dX9_alone_32 rfl rfl ?_
      refine s_callVZ (d2 := d - 1) (As := [vI l2]) (st := []) (pc2 := 36) X dX9_alone_33 rfl ml_RX9_279 im_X9_isInReachOfOthers se_X9_isInReachOfOthers kX9 rfl (c_X9_isInReachOfOthers (d - 1) (by omega) C.1 C.2.2.1 l0 l2 h2) hy_X9_isInReachOfOthers rfl rfl hf hlo (st_room (Nat.le_of_ble_eq_true rfl)) hcs (fun v4 hv4 => ?_)
      refine s_ifne (tgt := 45) X dX9_alone_36 (by decide) rfl hv4 ?_ ?_
      · exact z_X9_alone_L45 d hd K X (m_X9_alone_L17 n) ih l0 l1 l2 h1 h2
      · refine s_iload_n (j := 1) (pc2 := 40) X dX9_alone_39 rfl rfl ?_
        refine s_iconst (n := 1) (pc2 := 41) X dX9_alone_40 rfl ?_
        refine s_iload_n (j := 2) (pc2 := 42) X dX9_alone_41 rfl rfl ?_
        refine s_ishl (pc2 := 43) X dX9_alone_42 rfl ?_
        refine s_ior (pc2 := 44) X dX9_alone_43 rfl ?_
        refine s_istore_n (pc2 := 45) X dX9_alone_44 rfl (by decide) rfl rfl cat1_R (iorZ_in _ _) (fun w5 hw5 => ?_)
        refine s_sub (lv2 := [(0, vR C.1.1 l0), (1, vI w5), (2, vI l2)]) [1, 0, 2] rfl ?_
        exact z_X9_alone_L45 d hd K X (m_X9_alone_L17 n) ih l0 w5 l2 hw5 h2
set_option maxRecDepth 4000 in
set_option maxHeartbeats 20000000 in
theorem z_X9_alone (d : Nat) (hd : 4 ≤ d) {C : hCx} (K : hCtx C.1 C.2.2.1 d 0 0 "alone" C) (X : hOK C cX9_alone RX9 3 (some .int)) (l0 : Nat) : hSim C (some .int) 0 0 3 0 [(0, vR C.1.1 l0)] [] 0 0 (m_X9_alone l0) := by
  obtain ⟨⟨hf, hlo⟩, ⟨hc1, hc2⟩, hf1, hl1⟩ := K_room K (by omega)
  have hcs : 0 ≤ C.2.2.2.2.1.cells ∧ 0 ≤ C.2.2.2.2.1.slots := ⟨Nat.zero_le _, Nat.zero_le _⟩
  unfold m_X9_alone
  refine s_aload_n (j := 0) (pc2 := 1) X dX9_alone_0 rfl rfl ?_
  refine s_callVZ (d2 := d - 1) (As := []) (st := []) (pc2 := 4) X dX9_alone_1 rfl ml_RX9_225 im_X9_hasTown se_X9_hasTown kX9 rfl (c_X9_hasTown (d - 1) (by omega) C.1 C.2.2.1 l0) hy_X9_hasTown rfl rfl hf hlo (st_room (Nat.le_of_ble_eq_true rfl)) hcs (fun v1 hv1 => ?_)
  refine s_ifne (tgt := 9) X dX9_alone_4 (by decide) rfl hv1 ?_ ?_
  · refine s_aload_n (j := 0) (pc2 := 10) X dX9_alone_9 rfl rfl ?_
    refine s_callVV (d2 := d - 1) (As := []) (st := []) (pc2 := 13) X dX9_alone_10 rfl ml_RX9_270 im_X9_findReaches se_X9_findReaches kX9 rfl (c_X9_findReaches (d - 1) (by omega) C.1 C.2.2.1 l0) hy_X9_findReaches rfl rfl hf hlo (st_room (Nat.le_of_ble_eq_true rfl)) hcs (fun _ => ?_)
    refine s_iconst (n := 0) (pc2 := 14) X dX9_alone_13 rfl ?_
    refine s_istore_n (pc2 := 15) X dX9_alone_14 rfl (by decide) rfl rfl cat1_R (inI_c 0 rfl) (fun w2 hw2 => ?_)
    refine s_iconst (n := 0) (pc2 := 16) X dX9_alone_15 rfl ?_
    refine s_istore_n (pc2 := 17) X dX9_alone_16 rfl (by decide) rfl rfl cat1_I (inI_c 0 rfl) (fun w3 hw3 => ?_)
    refine s_sub (lv2 := [(0, vR C.1.1 l0), (1, vI w2), (2, vI w3)]) [2, 1, 0] rfl ?_
    exact z_X9_alone_L17 d hd K X 1000000000 l0 w2 w3 hw2 hw3
  · refine s_iconst (n := (-1)) (pc2 := 8) X dX9_alone_7 rfl ?_
    exact s_iret X dX9_alone_8 (inI_c (-1) rfl)
theorem c_X9_alone (d : Nat) (hd : 4 ≤ d) (G : hG) (l : Launch) (l0 : Nat) : hMet G l yX9_alone cX9_alone 3 (some .int) d 0 0 [vR G.1 l0] (m_X9_alone l0) := by
  refine hMet.of (lv := [(0, vR G.1 l0)]) (by decide +kernel) (by simp [lg_sl, vR_cat, vI_cat, vL_cat, vS_cat2, vT_cat2]) (by simp [lv_args, vR_cat, vI_cat, vL_cat, vS_cat2, vT_cat2]) (fun C K X => ?_)
  obtain ⟨rfl, rfl, K⟩ := K
  exact z_X9_alone d hd ⟨rfl, rfl, K⟩ X l0
def m_X9_canMeet_L21 (s0 : Int) : hM :=
  hretZ s0
def m_X9_canMeet (l0 : Nat) (l1 : Int) (l2 : Int) : hM :=
  hgR 9 l0 16 fun v1 =>
  haI 20 v1 l1 fun v2 =>
  hgR 9 l0 16 fun v3 =>
  haI 20 v3 l2 fun v4 =>
  hif (((iandZ v2 v4)) = 0) (
m_X9_canMeet_L21 0) (
m_X9_canMeet_L21 1)
set_option maxRecDepth 4000 in
theorem z_X9_canMeet_L21 (d : Nat) (hd : 1 ≤ d) {C : hCx} (K : hCtx C.1 C.2.2.1 d 0 0 "canMeet" C) (X : hOK C cX9_canMeet RX9 3 (some .boolean)) (s0 : Int) (g0 : inI s0) : hSim C (some .boolean) 0 0 3 21 [] [vI s0] 0 0 (m_X9_canMeet_L21 s0) := by
  obtain ⟨⟨hf, hlo⟩, ⟨hc1, hc2⟩, hf1, hl1⟩ := K_room K (by omega)
  have hcs : 0 ≤ C.2.2.2.2.1.cells ∧ 0 ≤ C.2.2.2.2.1.slots := ⟨Nat.zero_le _, Nat.zero_le _⟩
  unfold m_X9_canMeet_L21
  exact s_zret X dX9_canMeet_21
set_option maxRecDepth 4000 in
set_option maxHeartbeats 20000000 in
theorem z_X9_canMeet (d : Nat) (hd : 1 ≤ d) {C : hCx} (K : hCtx C.1 C.2.2.1 d 0 0 "canMeet" C) (X : hOK C cX9_canMeet RX9 3 (some .boolean)) (l0 : Nat) (l1 : Int) (l2 : Int) (h1 : inI l1) (h2 : inI l2) : hSim C (some .boolean) 0 0 3 0 [(0, vR C.1.1 l0), (1, vI l1), (2, vI l2)] [] 0 0 (m_X9_canMeet l0 l1 l2) := by
  obtain ⟨⟨hf, hlo⟩, ⟨hc1, hc2⟩, hf1, hl1⟩ := K_room K (by omega)
  have hcs : 0 ≤ C.2.2.2.2.1.cells ∧ 0 ≤ C.2.2.2.2.1.slots := ⟨Nat.zero_le _, Nat.zero_le _⟩
  unfold m_X9_canMeet
  refine s_aload_n (j := 0) (pc2 := 1) X dX9_canMeet_0 rfl rfl ?_
  refine s_getR (pc2 := 4) X dX9_canMeet_1 rfl fl_RX9_59 rfl (fun v1 => ?_)
  refine s_iload_n (j := 1) (pc2 := 5) X dX9_canMeet_4 rfl rfl ?_
  refine s_iald (pc2 := 6) X dX9_canMeet_5 rfl (fun v2 hv2 => ?_)
  refine s_aload_n (j := 0) (pc2 := 7) X dX9_canMeet_6 rfl rfl ?_
  refine s_getR (pc2 := 10) X dX9_canMeet_7 rfl fl_RX9_59 rfl (fun v3 => ?_)
  refine s_iload_n (j := 2) (pc2 := 11) X dX9_canMeet_10 rfl rfl ?_
  refine s_iald (pc2 := 12) X dX9_canMeet_11 rfl (fun v4 hv4 => ?_)
  refine s_iand (pc2 := 13) X dX9_canMeet_12 rfl ?_
  refine s_ifeq (tgt := 20) X dX9_canMeet_13 (by decide) rfl (iandZ_in _ _) ?_ ?_
  · refine s_iconst (n := 0) (pc2 := 21) X dX9_canMeet_20 rfl ?_
    refine s_sub (lv2 := []) [] rfl ?_
    exact z_X9_canMeet_L21 d hd K X 0 (inI_c 0 rfl)
  · refine s_iconst (n := 1) (pc2 := 17) X dX9_canMeet_16 rfl ?_
    refine s_goto (pc2 := 21) X dX9_canMeet_17 (by decide) ?_
    refine s_sub (lv2 := []) [] rfl ?_
    exact z_X9_canMeet_L21 d hd K X 1 (inI_c 1 rfl)
theorem c_X9_canMeet (d : Nat) (hd : 1 ≤ d) (G : hG) (l : Launch) (l0 : Nat) (l1 : Int) (l2 : Int) (h1 : inI l1) (h2 : inI l2) : hMet G l yX9_canMeet cX9_canMeet 3 (some .boolean) d 0 0 [vR G.1 l0, vI l1, vI l2] (m_X9_canMeet l0 l1 l2) := by
  refine hMet.of (lv := [(0, vR G.1 l0), (1, vI l1), (2, vI l2)]) (by decide +kernel) (by simp [lg_sl, vR_cat, vI_cat, vL_cat, vS_cat2, vT_cat2]) (by simp [lv_args, vR_cat, vI_cat, vL_cat, vS_cat2, vT_cat2]) (fun C K X => ?_)
  obtain ⟨rfl, rfl, K⟩ := K
  exact z_X9_canMeet d hd ⟨rfl, rfl, K⟩ X l0 l1 l2 h1 h2
def m_X9_findHands_L107 (k18 : Nat → Int → hM) (k34 : Nat → Int → Int → hM) (k51 : Nat → Int → Int → Int → hM) (l0 : Nat) (l2 : Int) (l3 : Int) (l4 : Int) : hM :=
  hlet (w32 (l4 + 1)) fun (w1 : Int) =>
  k51 l0 l2 l3 w1
def m_X9_findHands_L51 (k18 : Nat → Int → hM) (k34 : Nat → Int → Int → hM) : Nat → Nat → Int → Int → Int → hM
  | 0, _, _, _, _ => hfail
  | n + 1, l0, l2, l3, l4 =>
    hgR 9 l0 3 fun v1 =>
  hgR 4 v1 0 fun v2 =>
  hgI 7 v2 7 fun v3 =>
  hif (l4 ≥ v3) (
hlet (w32 (l3 + 1)) fun (w4 : Int) =>
  k34 l0 l2 w4) (
hgR 9 l0 17 fun v5 =>
  haI 20 v5 l4 fun v6 =>
  hif (v6 ≠ ((w32 (l2 - 1)))) (
m_X9_findHands_L107 k18 k34 (m_X9_findHands_L51 k18 k34 n) l0 l2 l3 l4) (
hgR 9 l0 17 fun v7 =>
  haI 20 v7 l3 fun v8 =>
  hif (v8 ≠ 99) (
m_X9_findHands_L107 k18 k34 (m_X9_findHands_L51 k18 k34 n) l0 l2 l3 l4) (
hcallV 9 l0 (m_X9_canMeet l0 l3 l4) fun v9 =>
  hif (v9 = 0) (
m_X9_findHands_L107 k18 k34 (m_X9_findHands_L51 k18 k34 n) l0 l2 l3 l4) (
hgR 9 l0 17 fun v10 =>
  hsI 20 v10 l3 l2 <|
  m_X9_findHands_L107 k18 k34 (m_X9_findHands_L51 k18 k34 n) l0 l2 l3 l4))))
def m_X9_findHands_L34 (k18 : Nat → Int → hM) : Nat → Nat → Int → Int → hM
  | 0, _, _, _ => hfail
  | n + 1, l0, l2, l3 =>
    hgR 9 l0 3 fun v1 =>
  hgR 4 v1 0 fun v2 =>
  hgI 7 v2 7 fun v3 =>
  hif (l3 ≥ v3) (
hlet (w32 (l2 + 1)) fun (w4 : Int) =>
  k18 l0 w4) (
hlet (0 : Int) fun (w5 : Int) =>
  m_X9_findHands_L51 k18 (m_X9_findHands_L34 k18 n) 1000000000 l0 l2 l3 w5)
def m_X9_findHands_L18 : Nat → Nat → Int → hM
  | 0, _, _ => hfail
  | n + 1, l0, l2 =>
    hgR 9 l0 3 fun v1 =>
  hgR 4 v1 0 fun v2 =>
  hgI 7 v2 7 fun v3 =>
  hif (l2 ≥ v3) (
hret 0) (
hlet (0 : Int) fun (w4 : Int) =>
  m_X9_findHands_L34 (m_X9_findHands_L18 n) 1000000000 l0 l2 w4)
def m_X9_findHands (l0 : Nat) (l1 : Int) : hM :=
  hgR 9 l0 17 fun v1 =>
  hcall (m_J7_fill_53178 v1 99) fun _ =>
  hgR 9 l0 17 fun v2 =>
  hsI 20 v2 l1 0 <|
  hlet (1 : Int) fun (w3 : Int) =>
  m_X9_findHands_L18 1000000000 l0 w3
set_option maxRecDepth 4000 in
theorem z_X9_findHands_L107 (d : Nat) (hd : 2 ≤ d) {C : hCx} (K : hCtx C.1 C.2.2.1 d 0 0 "findHands" C) (X : hOK C cX9_findHands RX9 5 none) (k18 : Nat → Int → hM) (hk18 : ∀ (l0 : Nat) (l2 : Int), inI l2 → hSim C none 0 0 5 18 [(0, vR C.1.1 l0), (2, vI l2)] [] 0 0 (k18 l0 l2)) (k34 : Nat → Int → Int → hM) (hk34 : ∀ (l0 : Nat) (l2 : Int) (l3 : Int), inI l2 → inI l3 → hSim C none 0 0 5 34 [(0, vR C.1.1 l0), (2, vI l2), (3, vI l3)] [] 0 0 (k34 l0 l2 l3)) (k51 : Nat → Int → Int → Int → hM) (hk51 : ∀ (l0 : Nat) (l2 : Int) (l3 : Int) (l4 : Int), inI l2 → inI l3 → inI l4 → hSim C none 0 0 5 51 [(0, vR C.1.1 l0), (2, vI l2), (3, vI l3), (4, vI l4)] [] 0 0 (k51 l0 l2 l3 l4)) (l0 : Nat) (l2 : Int) (l3 : Int) (l4 : Int) (h2 : inI l2) (h3 : inI l3) (h4 : inI l4) : hSim C none 0 0 5 107 [(0, vR C.1.1 l0), (2, vI l2), (3, vI l3), (4, vI l4)] [] 0 0 (m_X9_findHands_L107 k18 k34 k51 l0 l2 l3 l4) := by
  obtain ⟨⟨hf, hlo⟩, ⟨hc1, hc2⟩, hf1, hl1⟩ := K_room K (by omega)
  have hcs : 0 ≤ C.2.2.2.2.1.cells ∧ 0 ≤ C.2.2.2.2.1.slots := ⟨Nat.zero_le _, Nat.zero_le _⟩
  unfold m_X9_findHands_L107
  refine s_iinc (j := 3) (pc2 := 110) X dX9_findHands_107 rfl (by decide) rfl rfl rfl cat1_I (fun w1 hw1 => ?_)
  refine s_goto (pc2 := 51) X dX9_findHands_110 (by decide) ?_
  refine s_sub (lv2 := [(0, vR C.1.1 l0), (2, vI l2), (3, vI l3), (4, vI w1)]) [1, 2, 3, 0] rfl ?_
  exact hk51 l0 l2 l3 w1 h2 h3 hw1
set_option maxRecDepth 4000 in
theorem z_X9_findHands_L51 (d : Nat) (hd : 2 ≤ d) {C : hCx} (K : hCtx C.1 C.2.2.1 d 0 0 "findHands" C) (X : hOK C cX9_findHands RX9 5 none) (k18 : Nat → Int → hM) (hk18 : ∀ (l0 : Nat) (l2 : Int), inI l2 → hSim C none 0 0 5 18 [(0, vR C.1.1 l0), (2, vI l2)] [] 0 0 (k18 l0 l2)) (k34 : Nat → Int → Int → hM) (hk34 : ∀ (l0 : Nat) (l2 : Int) (l3 : Int), inI l2 → inI l3 → hSim C none 0 0 5 34 [(0, vR C.1.1 l0), (2, vI l2), (3, vI l3)] [] 0 0 (k34 l0 l2 l3)) : ∀ (n : Nat) (l0 : Nat) (l2 : Int) (l3 : Int) (l4 : Int) (h2 : inI l2) (h3 : inI l3) (h4 : inI l4), hSim C none 0 0 5 51 [(0, vR C.1.1 l0), (2, vI l2), (3, vI l3), (4, vI l4)] [] 0 0 (m_X9_findHands_L51 k18 k34 n l0 l2 l3 l4) := by
  obtain ⟨⟨hf, hlo⟩, ⟨hc1, hc2⟩, hf1, hl1⟩ := K_room K (by omega)
  have hcs : 0 ≤ C.2.2.2.2.1.cells ∧ 0 ≤ C.2.2.2.2.1.slots := ⟨Nat.zero_le _, Nat.zero_le _⟩
  intro n
  induction n with
  | zero => intros; exact s_none (fun _ => rfl)
  | succ n ih =>
    intro l0 l2 l3 l4 h2 h3 h4
    unfold m_X9_findHands_L51
    refine s_iload (j := 3) (pc2 := 53) X dX9_findHands_51 rfl rfl ?_
    refine s_aload_n (j := 0) (pc2 := 54) X dX9_findHands_53 rfl rfl ?_
    refine s_getR (pc2 := 57) X dX9_findHands_54 rfl fl_RX9_71 rfl (fun v1 => ?_)
    refine s_getR (pc2 := 60) X dX9_findHands_57 rfl fl_RX9_140 rfl (fun v2 => ?_)
    refine s_getI (pc2 := 63) X dX9_findHands_60 rfl fl_RX9_185 rfl (fun v3 hv3 => ?_)
    refine s_icge (tgt := 113) X dX9_findHands_63 (by decide) rfl h4 hv3 ?_ ?_
    · refine s_iinc (j := 2) (pc2 := 116) X dX9_findHands_113 rfl (by decide) rfl rfl rfl cat1_I (fun w4 hw4 => ?_)
      refine s_goto (pc2 := 34) X dX9_findHands_116 (by decide) ?_
      refine s_sub (lv2 := [(0, vR C.1.1 l0), (2, vI l2), (3, vI w4)]) [1, 2, 0] rfl ?_
      exact hk34 l0 l2 w4 h2 hw4
    · refine s_aload_n (j := 0) (pc2 := 67) X dX9_findHands_66 rfl rfl ?_
      refine s_getR (pc2 := 70) X dX9_findHands_67 rfl fl_RX9_62 rfl (fun v5 => ?_)
      refine s_iload (j := 3) (pc2 := 72) X dX9_findHands_70 rfl rfl ?_
      refine s_iald (pc2 := 73) X dX9_findHands_72 rfl (fun v6 hv6 => ?_)
      refine s_iload_n (j := 1) (pc2 := 74) X dX9_findHands_73 rfl rfl ?_
      refine s_iconst (n := 1) (pc2 := 75) X dX9_findHands_74 rfl ?_
      refine s_isub (pc2 := 76) X dX9_findHands_75 rfl ?_
      refine s_icne (tgt := 107) X dX9_findHands_76 (by decide) rfl hv6 (w32_in _) ?_ ?_
      · exact z_X9_findHands_L107 d hd K X k18 hk18 k34 hk34 (m_X9_findHands_L51 k18 k34 n) ih l0 l2 l3 l4 h2 h3 h4
      · refine s_aload_n (j := 0) (pc2 := 80) X dX9_findHands_79 rfl rfl ?_
        refine s_getR (pc2 := 83) X dX9_findHands_80 rfl fl_RX9_62 rfl (fun v7 => ?_)
        refine s_iload_n (j := 2) (pc2 := 84) X dX9_findHands_83 rfl rfl ?_
        refine s_iald (pc2 := 85) X dX9_findHands_84 rfl (fun v8 hv8 => ?_)
        refine s_bipush (n := 99) (pc2 := 87) X dX9_findHands_85 rfl rfl ?_
        refine s_icne (tgt := 107) X dX9_findHands_87 (by decide) rfl hv8 (inI_c 99 rfl) ?_ ?_
        · exact z_X9_findHands_L107 d hd K X k18 hk18 k34 hk34 (m_X9_findHands_L51 k18 k34 n) ih l0 l2 l3 l4 h2 h3 h4
        · refine s_aload_n (j := 0) (pc2 := 91) X dX9_findHands_90 rfl rfl ?_
          refine s_iload_n (j := 2) (pc2 := 92) X dX9_findHands_91 rfl rfl ?_
          refine s_iload (j := 3) (pc2 := 94) X dX9_findHands_92 rfl rfl ?_
          refine s_callVZ (d2 := d - 1) (As := [vI l3, vI l4]) (st := []) (pc2 := 97) X dX9_findHands_94 rfl ml_RX9_354 im_X9_canMeet se_X9_canMeet kX9 rfl (c_X9_canMeet (d - 1) (by omega) C.1 C.2.2.1 l0 l3 l4 h3 h4) hy_X9_canMeet rfl rfl hf hlo (st_room (Nat.le_of_ble_eq_true rfl)) hcs (fun v9 hv9 => ?_)
          refine s_ifeq (tgt := 107) X dX9_findHands_97 (by decide) rfl hv9 ?_ ?_
          · exact z_X9_findHands_L107 d hd K X k18 hk18 k34 hk34 (m_X9_findHands_L51 k18 k34 n) ih l0 l2 l3 l4 h2 h3 h4
          · refine s_aload_n (j := 0) (pc2 := 101) X dX9_findHands_100 rfl rfl ?_
            refine s_getR (pc2 := 104) X dX9_findHands_101 rfl fl_RX9_62 rfl (fun v10 => ?_)
            refine s_iload_n (j := 2) (pc2 := 105) X dX9_findHands_104 rfl rfl ?_
            refine s_iload_n (j := 1) (pc2 := 106) X dX9_findHands_105 rfl rfl ?_
            refine s_iast (pc2 := 107) X dX9_findHands_106 rfl h2 ?_
            exact z_X9_findHands_L107 d hd K X k18 hk18 k34 hk34 (m_X9_findHands_L51 k18 k34 n) ih l0 l2 l3 l4 h2 h3 h4
set_option maxRecDepth 4000 in
theorem z_X9_findHands_L34 (d : Nat) (hd : 2 ≤ d) {C : hCx} (K : hCtx C.1 C.2.2.1 d 0 0 "findHands" C) (X : hOK C cX9_findHands RX9 5 none) (k18 : Nat → Int → hM) (hk18 : ∀ (l0 : Nat) (l2 : Int), inI l2 → hSim C none 0 0 5 18 [(0, vR C.1.1 l0), (2, vI l2)] [] 0 0 (k18 l0 l2)) : ∀ (n : Nat) (l0 : Nat) (l2 : Int) (l3 : Int) (h2 : inI l2) (h3 : inI l3), hSim C none 0 0 5 34 [(0, vR C.1.1 l0), (2, vI l2), (3, vI l3)] [] 0 0 (m_X9_findHands_L34 k18 n l0 l2 l3) := by
  obtain ⟨⟨hf, hlo⟩, ⟨hc1, hc2⟩, hf1, hl1⟩ := K_room K (by omega)
  have hcs : 0 ≤ C.2.2.2.2.1.cells ∧ 0 ≤ C.2.2.2.2.1.slots := ⟨Nat.zero_le _, Nat.zero_le _⟩
  intro n
  induction n with
  | zero => intros; exact s_none (fun _ => rfl)
  | succ n ih =>
    intro l0 l2 l3 h2 h3
    unfold m_X9_findHands_L34
    refine s_iload_n (j := 2) (pc2 := 35) X dX9_findHands_34 rfl rfl ?_
    refine s_aload_n (j := 0) (pc2 := 36) X dX9_findHands_35 rfl rfl ?_
    refine s_getR (pc2 := 39) X dX9_findHands_36 rfl fl_RX9_71 rfl (fun v1 => ?_)
    refine s_getR (pc2 := 42) X dX9_findHands_39 rfl fl_RX9_140 rfl (fun v2 => ?_)
    refine s_getI (pc2 := 45) X dX9_findHands_42 rfl fl_RX9_185 rfl (fun v3 hv3 => ?_)
    refine s_icge (tgt := 119) X dX9_findHands_45 (by decide) rfl h3 hv3 ?_ ?_
    · refine s_iinc (j := 1) (pc2 := 122) X dX9_findHands_119 rfl (by decide) rfl rfl rfl cat1_N (fun w4 hw4 => ?_)
      refine s_goto (pc2 := 18) X dX9_findHands_122 (by decide) ?_
      refine s_sub (lv2 := [(0, vR C.1.1 l0), (2, vI w4)]) [1, 0] rfl ?_
      exact hk18 l0 w4 hw4
    · refine s_iconst (n := 0) (pc2 := 49) X dX9_findHands_48 rfl ?_
      refine s_istore (pc2 := 51) X dX9_findHands_49 rfl (by decide) rfl rfl cat1_I (inI_c 0 rfl) (fun w5 hw5 => ?_)
      refine s_sub (lv2 := [(0, vR C.1.1 l0), (2, vI l2), (3, vI l3), (4, vI w5)]) [1, 2, 3, 0] rfl ?_
      exact z_X9_findHands_L51 d hd K X k18 hk18 (m_X9_findHands_L34 k18 n) ih 1000000000 l0 l2 l3 w5 h2 h3 hw5
set_option maxRecDepth 4000 in
theorem z_X9_findHands_L18 (d : Nat) (hd : 2 ≤ d) {C : hCx} (K : hCtx C.1 C.2.2.1 d 0 0 "findHands" C) (X : hOK C cX9_findHands RX9 5 none) : ∀ (n : Nat) (l0 : Nat) (l2 : Int) (h2 : inI l2), hSim C none 0 0 5 18 [(0, vR C.1.1 l0), (2, vI l2)] [] 0 0 (m_X9_findHands_L18 n l0 l2) := by
  obtain ⟨⟨hf, hlo⟩, ⟨hc1, hc2⟩, hf1, hl1⟩ := K_room K (by omega)
  have hcs : 0 ≤ C.2.2.2.2.1.cells ∧ 0 ≤ C.2.2.2.2.1.slots := ⟨Nat.zero_le _, Nat.zero_le _⟩
  intro n
  induction n with
  | zero => intros; exact s_none (fun _ => rfl)
  | succ n ih =>
    intro l0 l2 h2
    unfold m_X9_findHands_L18
    refine s_iload_n (j := 1) (pc2 := 19) X dX9_findHands_18 rfl rfl ?_
    refine s_aload_n (j := 0) (pc2 := 20) X dX9_findHands_19 rfl rfl ?_
    refine s_getR (pc2 := 23) X dX9_findHands_20 rfl fl_RX9_71 rfl (fun v1 => ?_)
    refine s_getR (pc2 := 26) X dX9_findHands_23 rfl fl_RX9_140 rfl (fun v2 => ?_)
    refine s_getI (pc2 := 29) X dX9_findHands_26 rfl fl_RX9_185 rfl (fun v3 hv3 => ?_)
    refine s_icge (tgt := 125) X dX9_findHands_29 (by decide) rfl h2 hv3 ?_ ?_
    · exact s_ret X dX9_findHands_125
    · refine s_iconst (n := 0) (pc2 := 33) X dX9_findHands_32 rfl ?_
      refine s_istore_n (pc2 := 34) X dX9_findHands_33 rfl (by decide) rfl rfl cat1_I (inI_c 0 rfl) (fun w4 hw4 => ?_)
      refine s_sub (lv2 := [(0, vR C.1.1 l0), (2, vI l2), (3, vI w4)]) [1, 2, 0] rfl ?_
      exact z_X9_findHands_L34 d hd K X (m_X9_findHands_L18 n) ih 1000000000 l0 l2 w4 h2 hw4
set_option maxRecDepth 4000 in
set_option maxHeartbeats 20000000 in
theorem z_X9_findHands (d : Nat) (hd : 2 ≤ d) {C : hCx} (K : hCtx C.1 C.2.2.1 d 0 0 "findHands" C) (X : hOK C cX9_findHands RX9 5 none) (l0 : Nat) (l1 : Int) (h1 : inI l1) : hSim C none 0 0 5 0 [(0, vR C.1.1 l0), (1, vI l1)] [] 0 0 (m_X9_findHands l0 l1) := by
  obtain ⟨⟨hf, hlo⟩, ⟨hc1, hc2⟩, hf1, hl1⟩ := K_room K (by omega)
  have hcs : 0 ≤ C.2.2.2.2.1.cells ∧ 0 ≤ C.2.2.2.2.1.slots := ⟨Nat.zero_le _, Nat.zero_le _⟩
  unfold m_X9_findHands
  refine s_aload_n (j := 0) (pc2 := 1) X dX9_findHands_0 rfl rfl ?_
  refine s_getR (pc2 := 4) X dX9_findHands_1 rfl fl_RX9_62 rfl (fun v1 => ?_)
  refine s_bipush (n := 99) (pc2 := 6) X dX9_findHands_4 rfl rfl ?_
  refine s_callSV (d2 := d - 1) (As := [vR C.1.1 v1, vI 99]) (st := []) (pc2 := 9) X dX9_findHands_6 rfl ml_RX9_348 sm_J7_fill_53178 (c_J7_fill_53178 (d - 1) (by omega) C.1 C.2.2.1 v1 99 (inI_c 99 rfl)) hy_J7_fill_53178 rfl rfl hf hlo (st_room (Nat.le_of_ble_eq_true rfl)) hcs (fun _ => ?_)
  refine s_aload_n (j := 0) (pc2 := 10) X dX9_findHands_9 rfl rfl ?_
  refine s_getR (pc2 := 13) X dX9_findHands_10 rfl fl_RX9_62 rfl (fun v2 => ?_)
  refine s_iload_n (j := 1) (pc2 := 14) X dX9_findHands_13 rfl rfl ?_
  refine s_iconst (n := 0) (pc2 := 15) X dX9_findHands_14 rfl ?_
  refine s_iast (pc2 := 16) X dX9_findHands_15 rfl (inI_c 0 rfl) ?_
  refine s_iconst (n := 1) (pc2 := 17) X dX9_findHands_16 rfl ?_
  refine s_istore_n (pc2 := 18) X dX9_findHands_17 rfl (by decide) rfl rfl cat1_I (inI_c 1 rfl) (fun w3 hw3 => ?_)
  refine s_sub (lv2 := [(0, vR C.1.1 l0), (2, vI w3)]) [1, 0] rfl ?_
  exact z_X9_findHands_L18 d hd K X 1000000000 l0 w3 hw3
theorem c_X9_findHands (d : Nat) (hd : 2 ≤ d) (G : hG) (l : Launch) (l0 : Nat) (l1 : Int) (h1 : inI l1) : hMet G l yX9_findHands cX9_findHands 5 none d 0 0 [vR G.1 l0, vI l1] (m_X9_findHands l0 l1) := by
  refine hMet.of (lv := [(0, vR G.1 l0), (1, vI l1)]) (by decide +kernel) (by simp [lg_sl, vR_cat, vI_cat, vL_cat, vS_cat2, vT_cat2]) (by simp [lv_args, vR_cat, vI_cat, vL_cat, vS_cat2, vT_cat2]) (fun C K X => ?_)
  obtain ⟨rfl, rfl, K⟩ := K
  exact z_X9_findHands d hd ⟨rfl, rfl, K⟩ X l0 l1 h1
def m_X9_nextHolder_L44 (k2 : Nat → Int → Int → hM) (l0 : Nat) (l1 : Int) (l2 : Int) : hM :=
  hlet (w32 (l2 + 1)) fun (w1 : Int) =>
  k2 l0 l1 w1
def m_X9_nextHolder_L2 : Nat → Nat → Int → Int → hM
  | 0, _, _, _ => hfail
  | n + 1, l0, l1, l2 =>
    hgR 9 l0 3 fun v1 =>
  hgR 4 v1 0 fun v2 =>
  hgI 7 v2 7 fun v3 =>
  hif (l2 ≥ v3) (
hret l1) (
hgR 9 l0 17 fun v4 =>
  haI 20 v4 l2 fun v5 =>
  hgR 9 l0 17 fun v6 =>
  haI 20 v6 l1 fun v7 =>
  hif (v5 ≠ ((w32 (v7 - 1)))) (
m_X9_nextHolder_L44 (m_X9_nextHolder_L2 n) l0 l1 l2) (
hcallV 9 l0 (m_X9_canMeet l0 l1 l2) fun v8 =>
  hif (v8 = 0) (
m_X9_nextHolder_L44 (m_X9_nextHolder_L2 n) l0 l1 l2) (
hret l2)))
def m_X9_nextHolder (l0 : Nat) (l1 : Int) : hM :=
  hlet (0 : Int) fun (w1 : Int) =>
  m_X9_nextHolder_L2 1000000000 l0 l1 w1
set_option maxRecDepth 4000 in
theorem z_X9_nextHolder_L44 (d : Nat) (hd : 2 ≤ d) {C : hCx} (K : hCtx C.1 C.2.2.1 d 0 0 "nextHolder" C) (X : hOK C cX9_nextHolder RX9 3 (some .int)) (k2 : Nat → Int → Int → hM) (hk2 : ∀ (l0 : Nat) (l1 : Int) (l2 : Int), inI l1 → inI l2 → hSim C (some .int) 0 0 3 2 [(0, vR C.1.1 l0), (1, vI l1), (2, vI l2)] [] 0 0 (k2 l0 l1 l2)) (l0 : Nat) (l1 : Int) (l2 : Int) (h1 : inI l1) (h2 : inI l2) : hSim C (some .int) 0 0 3 44 [(0, vR C.1.1 l0), (1, vI l1), (2, vI l2)] [] 0 0 (m_X9_nextHolder_L44 k2 l0 l1 l2) := by
  obtain ⟨⟨hf, hlo⟩, ⟨hc1, hc2⟩, hf1, hl1⟩ := K_room K (by omega)
  have hcs : 0 ≤ C.2.2.2.2.1.cells ∧ 0 ≤ C.2.2.2.2.1.slots := ⟨Nat.zero_le _, Nat.zero_le _⟩
  unfold m_X9_nextHolder_L44
  refine s_iinc (j := 2) (pc2 := 47) X dX9_nextHolder_44 rfl (by decide) rfl rfl rfl cat1_I (fun w1 hw1 => ?_)
  refine s_goto (pc2 := 2) X dX9_nextHolder_47 (by decide) ?_
  refine s_sub (lv2 := [(0, vR C.1.1 l0), (1, vI l1), (2, vI w1)]) [1, 2, 0] rfl ?_
  exact hk2 l0 l1 w1 h1 hw1
set_option maxRecDepth 4000 in
theorem z_X9_nextHolder_L2 (d : Nat) (hd : 2 ≤ d) {C : hCx} (K : hCtx C.1 C.2.2.1 d 0 0 "nextHolder" C) (X : hOK C cX9_nextHolder RX9 3 (some .int)) : ∀ (n : Nat) (l0 : Nat) (l1 : Int) (l2 : Int) (h1 : inI l1) (h2 : inI l2), hSim C (some .int) 0 0 3 2 [(0, vR C.1.1 l0), (1, vI l1), (2, vI l2)] [] 0 0 (m_X9_nextHolder_L2 n l0 l1 l2) := by
  obtain ⟨⟨hf, hlo⟩, ⟨hc1, hc2⟩, hf1, hl1⟩ := K_room K (by omega)
  have hcs : 0 ≤ C.2.2.2.2.1.cells ∧ 0 ≤ C.2.2.2.2.1.slots := ⟨Nat.zero_le _, Nat.zero_le _⟩
  intro n
  induction n with
  | zero => intros; exact s_none (fun _ => rfl)
  | succ n ih =>
    intro l0 l1 l2 h1 h2
    unfold m_X9_nextHolder_L2
    refine s_iload_n (j := 2) (pc2 := 3) X dX9_nextHolder_2 rfl rfl ?_
    refine s_aload_n (j := 0) (pc2 := 4) X dX9_nextHolder_3 rfl rfl ?_
    refine s_getR (pc2 := 7) X dX9_nextHolder_4 rfl fl_RX9_71 rfl (fun v1 => ?_)
    refine s_getR (pc2 := 10) X dX9_nextHolder_7 rfl fl_RX9_140 rfl (fun v2 => ?_)
    refine s_getI (pc2 := 13) X dX9_nextHolder_10 rfl fl_RX9_185 rfl (fun v3 hv3 => ?_)
    refine s_icge (tgt := 50) X dX9_nextHolder_13 (by decide) rfl h2 hv3 ?_ ?_
    · refine s_iload_n (j := 1) (pc2 := 51) X dX9_nextHolder_50 rfl rfl ?_
      exact s_iret X dX9_nextHolder_51 h1
    · refine s_aload_n (j := 0) (pc2 := 17) X dX9_nextHolder_16 rfl rfl ?_
      refine s_getR (pc2 := 20) X dX9_nextHolder_17 rfl fl_RX9_62 rfl (fun v4 => ?_)
      refine s_iload_n (j := 2) (pc2 := 21) X dX9_nextHolder_20 rfl rfl ?_
      refine s_iald (pc2 := 22) X dX9_nextHolder_21 rfl (fun v5 hv5 => ?_)
      refine s_aload_n (j := 0) (pc2 := 23) X dX9_nextHolder_22 rfl rfl ?_
      refine s_getR (pc2 := 26) X dX9_nextHolder_23 rfl fl_RX9_62 rfl (fun v6 => ?_)
      refine s_iload_n (j := 1) (pc2 := 27) X dX9_nextHolder_26 rfl rfl ?_
      refine s_iald (pc2 := 28) X dX9_nextHolder_27 rfl (fun v7 hv7 => ?_)
      refine s_iconst (n := 1) (pc2 := 29) X dX9_nextHolder_28 rfl ?_
      refine s_isub (pc2 := 30) X dX9_nextHolder_29 rfl ?_
      refine s_icne (tgt := 44) X dX9_nextHolder_30 (by decide) rfl hv5 (w32_in _) ?_ ?_
      · exact z_X9_nextHolder_L44 d hd K X (m_X9_nextHolder_L2 n) ih l0 l1 l2 h1 h2
      · refine s_aload_n (j := 0) (pc2 := 34) X dX9_nextHolder_33 rfl rfl ?_
        refine s_iload_n (j := 1) (pc2 := 35) X dX9_nextHolder_34 rfl rfl ?_
        refine s_iload_n (j := 2) (pc2 := 36) X dX9_nextHolder_35 rfl rfl ?_
        refine s_callVZ (d2 := d - 1) (As := [vI l1, vI l2]) (st := []) (pc2 := 39) X dX9_nextHolder_36 rfl ml_RX9_354 im_X9_canMeet se_X9_canMeet kX9 rfl (c_X9_canMeet (d - 1) (by omega) C.1 C.2.2.1 l0 l1 l2 h1 h2) hy_X9_canMeet rfl rfl hf hlo (st_room (Nat.le_of_ble_eq_true rfl)) hcs (fun v8 hv8 => ?_)
        refine s_ifeq (tgt := 44) X dX9_nextHolder_39 (by decide) rfl hv8 ?_ ?_
        · exact z_X9_nextHolder_L44 d hd K X (m_X9_nextHolder_L2 n) ih l0 l1 l2 h1 h2
        · refine s_iload_n (j := 2) (pc2 := 43) X dX9_nextHolder_42 rfl rfl ?_
          exact s_iret X dX9_nextHolder_43 h2
set_option maxRecDepth 4000 in
set_option maxHeartbeats 20000000 in
theorem z_X9_nextHolder (d : Nat) (hd : 2 ≤ d) {C : hCx} (K : hCtx C.1 C.2.2.1 d 0 0 "nextHolder" C) (X : hOK C cX9_nextHolder RX9 3 (some .int)) (l0 : Nat) (l1 : Int) (h1 : inI l1) : hSim C (some .int) 0 0 3 0 [(0, vR C.1.1 l0), (1, vI l1)] [] 0 0 (m_X9_nextHolder l0 l1) := by
  obtain ⟨⟨hf, hlo⟩, ⟨hc1, hc2⟩, hf1, hl1⟩ := K_room K (by omega)
  have hcs : 0 ≤ C.2.2.2.2.1.cells ∧ 0 ≤ C.2.2.2.2.1.slots := ⟨Nat.zero_le _, Nat.zero_le _⟩
  unfold m_X9_nextHolder
  refine s_iconst (n := 0) (pc2 := 1) X dX9_nextHolder_0 rfl ?_
  refine s_istore_n (pc2 := 2) X dX9_nextHolder_1 rfl (by decide) rfl rfl cat1_I (inI_c 0 rfl) (fun w1 hw1 => ?_)
  refine s_sub (lv2 := [(0, vR C.1.1 l0), (1, vI l1), (2, vI w1)]) [1, 2, 0] rfl ?_
  exact z_X9_nextHolder_L2 d hd K X 1000000000 l0 l1 w1 h1 hw1
theorem c_X9_nextHolder (d : Nat) (hd : 2 ≤ d) (G : hG) (l : Launch) (l0 : Nat) (l1 : Int) (h1 : inI l1) : hMet G l yX9_nextHolder cX9_nextHolder 3 (some .int) d 0 0 [vR G.1 l0, vI l1] (m_X9_nextHolder l0 l1) := by
  refine hMet.of (lv := [(0, vR G.1 l0), (1, vI l1)]) (by decide +kernel) (by simp [lg_sl, vR_cat, vI_cat, vL_cat, vS_cat2, vT_cat2]) (by simp [lv_args, vR_cat, vI_cat, vL_cat, vS_cat2, vT_cat2]) (fun C K X => ?_)
  obtain ⟨rfl, rfl, K⟩ := K
  exact z_X9_nextHolder d hd ⟨rfl, rfl, K⟩ X l0 l1 h1
def m_X9_holderAfter_L5 : Nat → Nat → Int → Int → Int → hM
  | 0, _, _, _, _ => hfail
  | n + 1, l0, l2, l3, l4 =>
    hif (l4 ≥ l2) (
hret l3) (
hcallV 9 l0 (m_X9_nextHolder l0 l3) fun v1 =>
  hlet v1 fun (w2 : Int) =>
  hlet (w32 (l4 + 1)) fun (w3 : Int) =>
  m_X9_holderAfter_L5 n l0 l2 w2 w3)
def m_X9_holderAfter (l0 : Nat) (l1 : Int) (l2 : Int) : hM :=
  hlet l1 fun (w1 : Int) =>
  hlet (0 : Int) fun (w2 : Int) =>
  m_X9_holderAfter_L5 1000000000 l0 l2 w1 w2
set_option maxRecDepth 4000 in
theorem z_X9_holderAfter_L5 (d : Nat) (hd : 3 ≤ d) {C : hCx} (K : hCtx C.1 C.2.2.1 d 0 0 "holderAfter" C) (X : hOK C cX9_holderAfter RX9 5 (some .int)) : ∀ (n : Nat) (l0 : Nat) (l2 : Int) (l3 : Int) (l4 : Int) (h2 : inI l2) (h3 : inI l3) (h4 : inI l4), hSim C (some .int) 0 0 5 5 [(0, vR C.1.1 l0), (2, vI l2), (3, vI l3), (4, vI l4)] [] 0 0 (m_X9_holderAfter_L5 n l0 l2 l3 l4) := by
  obtain ⟨⟨hf, hlo⟩, ⟨hc1, hc2⟩, hf1, hl1⟩ := K_room K (by omega)
  have hcs : 0 ≤ C.2.2.2.2.1.cells ∧ 0 ≤ C.2.2.2.2.1.slots := ⟨Nat.zero_le _, Nat.zero_le _⟩
  intro n
  induction n with
  | zero => intros; exact s_none (fun _ => rfl)
  | succ n ih =>
    intro l0 l2 l3 l4 h2 h3 h4
    unfold m_X9_holderAfter_L5
    refine s_iload (j := 3) (pc2 := 7) X dX9_holderAfter_5 rfl rfl ?_
    refine s_iload_n (j := 1) (pc2 := 8) X dX9_holderAfter_7 rfl rfl ?_
    refine s_icge (tgt := 23) X dX9_holderAfter_8 (by decide) rfl h4 h2 ?_ ?_
    · refine s_iload_n (j := 2) (pc2 := 24) X dX9_holderAfter_23 rfl rfl ?_
      exact s_iret X dX9_holderAfter_24 h3
    · refine s_aload_n (j := 0) (pc2 := 12) X dX9_holderAfter_11 rfl rfl ?_
      refine s_iload_n (j := 2) (pc2 := 13) X dX9_holderAfter_12 rfl rfl ?_
      refine s_callVI (d2 := d - 1) (As := [vI l3]) (st := []) (pc2 := 16) X dX9_holderAfter_13 rfl ml_RX9_357 im_X9_nextHolder se_X9_nextHolder kX9 rfl (c_X9_nextHolder (d - 1) (by omega) C.1 C.2.2.1 l0 l3 h3) hy_X9_nextHolder rfl rfl hf hlo (st_room (Nat.le_of_ble_eq_true rfl)) hcs (fun v1 hv1 => ?_)
      refine s_istore_n (pc2 := 17) X dX9_holderAfter_16 rfl (by decide) rfl rfl cat1_I hv1 (fun w2 hw2 => ?_)
      refine s_iinc (j := 3) (pc2 := 20) X dX9_holderAfter_17 rfl (by decide) rfl rfl rfl cat1_I (fun w3 hw3 => ?_)
      refine s_goto (pc2 := 5) X dX9_holderAfter_20 (by decide) ?_
      refine s_sub (lv2 := [(0, vR C.1.1 l0), (2, vI l2), (3, vI w2), (4, vI w3)]) [2, 3, 1, 0] rfl ?_
      exact ih l0 l2 w2 w3 h2 hw2 hw3
set_option maxRecDepth 4000 in
set_option maxHeartbeats 20000000 in
theorem z_X9_holderAfter (d : Nat) (hd : 3 ≤ d) {C : hCx} (K : hCtx C.1 C.2.2.1 d 0 0 "holderAfter" C) (X : hOK C cX9_holderAfter RX9 5 (some .int)) (l0 : Nat) (l1 : Int) (l2 : Int) (h1 : inI l1) (h2 : inI l2) : hSim C (some .int) 0 0 5 0 [(0, vR C.1.1 l0), (1, vI l1), (2, vI l2)] [] 0 0 (m_X9_holderAfter l0 l1 l2) := by
  obtain ⟨⟨hf, hlo⟩, ⟨hc1, hc2⟩, hf1, hl1⟩ := K_room K (by omega)
  have hcs : 0 ≤ C.2.2.2.2.1.cells ∧ 0 ≤ C.2.2.2.2.1.slots := ⟨Nat.zero_le _, Nat.zero_le _⟩
  unfold m_X9_holderAfter
  refine s_iload_n (j := 1) (pc2 := 1) X dX9_holderAfter_0 rfl rfl ?_
  refine s_istore_n (pc2 := 2) X dX9_holderAfter_1 rfl (by decide) rfl rfl cat1_I h1 (fun w1 hw1 => ?_)
  refine s_iconst (n := 0) (pc2 := 3) X dX9_holderAfter_2 rfl ?_
  refine s_istore (pc2 := 5) X dX9_holderAfter_3 rfl (by decide) rfl rfl cat1_I (inI_c 0 rfl) (fun w2 hw2 => ?_)
  refine s_sub (lv2 := [(0, vR C.1.1 l0), (2, vI l2), (3, vI w1), (4, vI w2)]) [2, 4, 1, 0] rfl ?_
  exact z_X9_holderAfter_L5 d hd K X 1000000000 l0 l2 w1 w2 h2 hw1 hw2
theorem c_X9_holderAfter (d : Nat) (hd : 3 ≤ d) (G : hG) (l : Launch) (l0 : Nat) (l1 : Int) (l2 : Int) (h1 : inI l1) (h2 : inI l2) : hMet G l yX9_holderAfter cX9_holderAfter 5 (some .int) d 0 0 [vR G.1 l0, vI l1, vI l2] (m_X9_holderAfter l0 l1 l2) := by
  refine hMet.of (lv := [(0, vR G.1 l0), (1, vI l1), (2, vI l2)]) (by decide +kernel) (by simp [lg_sl, vR_cat, vI_cat, vL_cat, vS_cat2, vT_cat2]) (by simp [lv_args, vR_cat, vI_cat, vL_cat, vS_cat2, vT_cat2]) (fun C K X => ?_)
  obtain ⟨rfl, rfl, K⟩ := K
  exact z_X9_holderAfter d hd ⟨rfl, rfl, K⟩ X l0 l1 l2 h1 h2
def m_X9_letter_L18 : hM :=
  hret ((-1))
def m_X9_letter_L77 (s0 : Int) : hM :=
  hret s0
def m_X9_letter (l0 : Nat) (l1 : Int) (l2 : Int) (l3 : Int) : hM :=
  hcallV 9 l0 (m_X9_arePair l0 l1 l2) fun v1 =>
  hif (v1 = 0) (
m_X9_letter_L18) (
hif (l3 < 0) (
m_X9_letter_L18) (
hif (l3 ≤ 2) (
hcallV 9 l0 (m_X9_findReaches l0) fun _ =>
  hcallV 9 l0 (m_X9_findHands l0 l2) fun _ =>
  hgR 9 l0 17 fun v2 =>
  haI 20 v2 l1 fun v3 =>
  hif (v3 ≠ 99) (
hgR 9 l0 17 fun v4 =>
  haI 20 v4 l1 fun v5 =>
  hlet ((w32 (v5 - 1))) fun (w6 : Int) =>
  hif (l3 ≠ 0) (
hif (l3 ≤ w6) (
hcallV 9 l0 (m_X9_holderAfter l0 l1 l3) fun v7 =>
  m_X9_letter_L77 v7) (
m_X9_letter_L77 ((-2)))) (
hret w6)) (
hret ((-2)))) (
m_X9_letter_L18)))
set_option maxRecDepth 4000 in
theorem z_X9_letter_L18 (d : Nat) (hd : 4 ≤ d) {C : hCx} (K : hCtx C.1 C.2.2.1 d 0 0 "letter" C) (X : hOK C cX9_letter RX9 5 (some .int)) : hSim C (some .int) 0 0 5 18 [] [] 0 0 (m_X9_letter_L18) := by
  obtain ⟨⟨hf, hlo⟩, ⟨hc1, hc2⟩, hf1, hl1⟩ := K_room K (by omega)
  have hcs : 0 ≤ C.2.2.2.2.1.cells ∧ 0 ≤ C.2.2.2.2.1.slots := ⟨Nat.zero_le _, Nat.zero_le _⟩
  unfold m_X9_letter_L18
  refine s_iconst (n := (-1)) (pc2 := 19) X dX9_letter_18 rfl ?_
  exact s_iret X dX9_letter_19 (inI_c (-1) rfl)
set_option maxRecDepth 4000 in
theorem z_X9_letter_L77 (d : Nat) (hd : 4 ≤ d) {C : hCx} (K : hCtx C.1 C.2.2.1 d 0 0 "letter" C) (X : hOK C cX9_letter RX9 5 (some .int)) (s0 : Int) (g0 : inI s0) : hSim C (some .int) 0 0 5 77 [] [vI s0] 0 0 (m_X9_letter_L77 s0) := by
  obtain ⟨⟨hf, hlo⟩, ⟨hc1, hc2⟩, hf1, hl1⟩ := K_room K (by omega)
  have hcs : 0 ≤ C.2.2.2.2.1.cells ∧ 0 ≤ C.2.2.2.2.1.slots := ⟨Nat.zero_le _, Nat.zero_le _⟩
  unfold m_X9_letter_L77
  exact s_iret X dX9_letter_77 g0
set_option maxRecDepth 4000 in
set_option maxHeartbeats 20000000 in
theorem z_X9_letter (d : Nat) (hd : 4 ≤ d) {C : hCx} (K : hCtx C.1 C.2.2.1 d 0 0 "letter" C) (X : hOK C cX9_letter RX9 5 (some .int)) (l0 : Nat) (l1 : Int) (l2 : Int) (l3 : Int) (h1 : inI l1) (h2 : inI l2) (h3 : inI l3) : hSim C (some .int) 0 0 5 0 [(0, vR C.1.1 l0), (1, vI l1), (2, vI l2), (3, vI l3)] [] 0 0 (m_X9_letter l0 l1 l2 l3) := by
  obtain ⟨⟨hf, hlo⟩, ⟨hc1, hc2⟩, hf1, hl1⟩ := K_room K (by omega)
  have hcs : 0 ≤ C.2.2.2.2.1.cells ∧ 0 ≤ C.2.2.2.2.1.slots := ⟨Nat.zero_le _, Nat.zero_le _⟩
  unfold m_X9_letter
  refine s_aload_n (j := 0) (pc2 := 1) X dX9_letter_0 rfl rfl ?_
  refine s_iload_n (j := 1) (pc2 := 2) X dX9_letter_1 rfl rfl ?_
  refine s_iload_n (j := 2) (pc2 := 3) X dX9_letter_2 rfl rfl ?_
  refine s_callVZ (d2 := d - 1) (As := [vI l1, vI l2]) (st := []) (pc2 := 6) X dX9_letter_3 rfl ml_RX9_219 im_X9_arePair se_X9_arePair kX9 rfl (c_X9_arePair (d - 1) (by omega) C.1 C.2.2.1 l0 l1 l2 h1 h2) hy_X9_arePair rfl rfl hf hlo (st_room (Nat.le_of_ble_eq_true rfl)) hcs (fun v1 hv1 => ?_)
  refine s_ifeq (tgt := 18) X dX9_letter_6 (by decide) rfl hv1 ?_ ?_
  · refine s_sub (lv2 := []) [] rfl ?_
    exact z_X9_letter_L18 d hd K X
  · refine s_iload_n (j := 3) (pc2 := 10) X dX9_letter_9 rfl rfl ?_
    refine s_iflt (tgt := 18) X dX9_letter_10 (by decide) rfl h3 ?_ ?_
    · refine s_sub (lv2 := []) [] rfl ?_
      exact z_X9_letter_L18 d hd K X
    · refine s_iload_n (j := 3) (pc2 := 14) X dX9_letter_13 rfl rfl ?_
      refine s_iconst (n := 2) (pc2 := 15) X dX9_letter_14 rfl ?_
      refine s_icle (tgt := 20) X dX9_letter_15 (by decide) rfl h3 (inI_c 2 rfl) ?_ ?_
      · refine s_aload_n (j := 0) (pc2 := 21) X dX9_letter_20 rfl rfl ?_
        refine s_callVV (d2 := d - 1) (As := []) (st := []) (pc2 := 24) X dX9_letter_21 rfl ml_RX9_270 im_X9_findReaches se_X9_findReaches kX9 rfl (c_X9_findReaches (d - 1) (by omega) C.1 C.2.2.1 l0) hy_X9_findReaches rfl rfl hf hlo (st_room (Nat.le_of_ble_eq_true rfl)) hcs (fun _ => ?_)
        refine s_aload_n (j := 0) (pc2 := 25) X dX9_letter_24 rfl rfl ?_
        refine s_iload_n (j := 2) (pc2 := 26) X dX9_letter_25 rfl rfl ?_
        refine s_callVV (d2 := d - 1) (As := [vI l2]) (st := []) (pc2 := 29) X dX9_letter_26 rfl ml_RX9_282 im_X9_findHands se_X9_findHands kX9 rfl (c_X9_findHands (d - 1) (by omega) C.1 C.2.2.1 l0 l2 h2) hy_X9_findHands rfl rfl hf hlo (st_room (Nat.le_of_ble_eq_true rfl)) hcs (fun _ => ?_)
        refine s_aload_n (j := 0) (pc2 := 30) X dX9_letter_29 rfl rfl ?_
        refine s_getR (pc2 := 33) X dX9_letter_30 rfl fl_RX9_62 rfl (fun v2 => ?_)
        refine s_iload_n (j := 1) (pc2 := 34) X dX9_letter_33 rfl rfl ?_
        refine s_iald (pc2 := 35) X dX9_letter_34 rfl (fun v3 hv3 => ?_)
        refine s_bipush (n := 99) (pc2 := 37) X dX9_letter_35 rfl rfl ?_
        refine s_icne (tgt := 43) X dX9_letter_37 (by decide) rfl hv3 (inI_c 99 rfl) ?_ ?_
        · refine s_aload_n (j := 0) (pc2 := 44) X dX9_letter_43 rfl rfl ?_
          refine s_getR (pc2 := 47) X dX9_letter_44 rfl fl_RX9_62 rfl (fun v4 => ?_)
          refine s_iload_n (j := 1) (pc2 := 48) X dX9_letter_47 rfl rfl ?_
          refine s_iald (pc2 := 49) X dX9_letter_48 rfl (fun v5 hv5 => ?_)
          refine s_iconst (n := 1) (pc2 := 50) X dX9_letter_49 rfl ?_
          refine s_isub (pc2 := 51) X dX9_letter_50 rfl ?_
          refine s_istore (pc2 := 53) X dX9_letter_51 rfl (by decide) rfl rfl cat1_I (w32_in _) (fun w6 hw6 => ?_)
          refine s_iload_n (j := 4) (pc2 := 54) X dX9_letter_53 rfl rfl ?_
          refine s_ifne (tgt := 60) X dX9_letter_54 (by decide) rfl h3 ?_ ?_
          · refine s_iload_n (j := 4) (pc2 := 61) X dX9_letter_60 rfl rfl ?_
            refine s_iload (j := 0) (pc2 := 63) X dX9_letter_61 rfl rfl ?_
            refine s_icle (tgt := 71) X dX9_letter_63 (by decide) rfl h3 hw6 ?_ ?_
            · refine s_aload_n (j := 1) (pc2 := 72) X dX9_letter_71 rfl rfl ?_
              refine s_iload_n (j := 2) (pc2 := 73) X dX9_letter_72 rfl rfl ?_
              refine s_iload_n (j := 4) (pc2 := 74) X dX9_letter_73 rfl rfl ?_
              refine s_callVI (d2 := d - 1) (As := [vI l1, vI l3]) (st := []) (pc2 := 77) X dX9_letter_74 rfl ml_RX9_285 im_X9_holderAfter se_X9_holderAfter kX9 rfl (c_X9_holderAfter (d - 1) (by omega) C.1 C.2.2.1 l0 l1 l3 h1 h3) hy_X9_holderAfter rfl rfl hf hlo (st_room (Nat.le_of_ble_eq_true rfl)) hcs (fun v7 hv7 => ?_)
              refine s_sub (lv2 := []) [] rfl ?_
              exact z_X9_letter_L77 d hd K X v7 hv7
            · refine s_bipush (n := (-2)) (pc2 := 68) X dX9_letter_66 rfl rfl ?_
              refine s_goto (pc2 := 77) X dX9_letter_68 (by decide) ?_
              refine s_sub (lv2 := []) [] rfl ?_
              exact z_X9_letter_L77 d hd K X ((-2)) (inI_c (-2) rfl)
          · refine s_iload (j := 0) (pc2 := 59) X dX9_letter_57 rfl rfl ?_
            exact s_iret X dX9_letter_59 hw6
        · refine s_bipush (n := (-2)) (pc2 := 42) X dX9_letter_40 rfl rfl ?_
          exact s_iret X dX9_letter_42 (inI_c (-2) rfl)
      · refine s_sub (lv2 := []) [] rfl ?_
        exact z_X9_letter_L18 d hd K X
theorem c_X9_letter (d : Nat) (hd : 4 ≤ d) (G : hG) (l : Launch) (l0 : Nat) (l1 : Int) (l2 : Int) (l3 : Int) (h1 : inI l1) (h2 : inI l2) (h3 : inI l3) : hMet G l yX9_letter cX9_letter 5 (some .int) d 0 0 [vR G.1 l0, vI l1, vI l2, vI l3] (m_X9_letter l0 l1 l2 l3) := by
  refine hMet.of (lv := [(0, vR G.1 l0), (1, vI l1), (2, vI l2), (3, vI l3)]) (by decide +kernel) (by simp [lg_sl, vR_cat, vI_cat, vL_cat, vS_cat2, vT_cat2]) (by simp [lv_args, vR_cat, vI_cat, vL_cat, vS_cat2, vT_cat2]) (fun C K X => ?_)
  obtain ⟨rfl, rfl, K⟩ := K
  exact z_X9_letter d hd ⟨rfl, rfl, K⟩ X l0 l1 l2 l3 h1 h2 h3
def m_X9_came_L17 : hM :=
  hret ((-1))
def m_X9_came (l0 : Nat) (l1 : Int) (l2 : Int) : hM :=
  hcallV 9 l0 (m_X9_isPerson l0 l1) fun v1 =>
  hif (v1 = 0) (
m_X9_came_L17) (
hif (l2 < 0) (
m_X9_came_L17) (
hif (l2 ≤ 2) (
hgR 9 l0 12 fun v2 =>
  hgR 9 l0 3 fun v3 =>
  hcallV 5 v2 (m_X5_prepare v2 v3 l1) fun v4 =>
  hif (v4 ≠ 0) (
hgR 9 l0 12 fun v5 =>
  hcallV 5 v5 (m_X5_tell v5) fun _ =>
  hif (l2 = 0) (
hgR 9 l0 12 fun v6 =>
  hcallV 5 v6 (m_X5_rowCount v6) fun v7 =>
  hret v7) <|
  hif (l2 = 1) (
hgR 9 l0 12 fun v8 =>
  hcallV 5 v8 (m_X5_lastOnes v8) fun v9 =>
  hret v9) <|
  hgR 9 l0 12 fun v10 =>
  hcallV 5 v10 (m_X5_lastOfFirst v10) fun v11 =>
  hret v11) (
hret ((-3)))) (
m_X9_came_L17)))
set_option maxRecDepth 4000 in
theorem z_X9_came_L17 (d : Nat) (hd : 16 ≤ d) {C : hCx} (K : hCtx C.1 C.2.2.1 d 0 0 "came" C) (X : hOK C cX9_came RX9 3 (some .int)) : hSim C (some .int) 0 0 3 17 [] [] 0 0 (m_X9_came_L17) := by
  obtain ⟨⟨hf, hlo⟩, ⟨hc1, hc2⟩, hf1, hl1⟩ := K_room K (by omega)
  have hcs : 0 ≤ C.2.2.2.2.1.cells ∧ 0 ≤ C.2.2.2.2.1.slots := ⟨Nat.zero_le _, Nat.zero_le _⟩
  unfold m_X9_came_L17
  refine s_iconst (n := (-1)) (pc2 := 18) X dX9_came_17 rfl ?_
  exact s_iret X dX9_came_18 (inI_c (-1) rfl)
set_option maxRecDepth 4000 in
set_option maxHeartbeats 20000000 in
theorem z_X9_came (d : Nat) (hd : 16 ≤ d) {C : hCx} (K : hCtx C.1 C.2.2.1 d 0 0 "came" C) (X : hOK C cX9_came RX9 3 (some .int)) (l0 : Nat) (l1 : Int) (l2 : Int) (h1 : inI l1) (h2 : inI l2) : hSim C (some .int) 0 0 3 0 [(0, vR C.1.1 l0), (1, vI l1), (2, vI l2)] [] 0 0 (m_X9_came l0 l1 l2) := by
  obtain ⟨⟨hf, hlo⟩, ⟨hc1, hc2⟩, hf1, hl1⟩ := K_room K (by omega)
  have hcs : 0 ≤ C.2.2.2.2.1.cells ∧ 0 ≤ C.2.2.2.2.1.slots := ⟨Nat.zero_le _, Nat.zero_le _⟩
  unfold m_X9_came
  refine s_aload_n (j := 0) (pc2 := 1) X dX9_came_0 rfl rfl ?_
  refine s_iload_n (j := 1) (pc2 := 2) X dX9_came_1 rfl rfl ?_
  refine s_callVZ (d2 := d - 1) (As := [vI l1]) (st := []) (pc2 := 5) X dX9_came_2 rfl ml_RX9_133 im_X9_isPerson se_X9_isPerson kX9 rfl (c_X9_isPerson (d - 1) (by omega) C.1 C.2.2.1 l0 l1 h1) hy_X9_isPerson rfl rfl hf hlo (st_room (Nat.le_of_ble_eq_true rfl)) hcs (fun v1 hv1 => ?_)
  refine s_ifeq (tgt := 17) X dX9_came_5 (by decide) rfl hv1 ?_ ?_
  · refine s_sub (lv2 := []) [] rfl ?_
    exact z_X9_came_L17 d hd K X
  · refine s_iload_n (j := 2) (pc2 := 9) X dX9_came_8 rfl rfl ?_
    refine s_iflt (tgt := 17) X dX9_came_9 (by decide) rfl h2 ?_ ?_
    · refine s_sub (lv2 := []) [] rfl ?_
      exact z_X9_came_L17 d hd K X
    · refine s_iload_n (j := 2) (pc2 := 13) X dX9_came_12 rfl rfl ?_
      refine s_iconst (n := 2) (pc2 := 14) X dX9_came_13 rfl ?_
      refine s_icle (tgt := 19) X dX9_came_14 (by decide) rfl h2 (inI_c 2 rfl) ?_ ?_
      · refine s_aload_n (j := 0) (pc2 := 20) X dX9_came_19 rfl rfl ?_
        refine s_getR (pc2 := 23) X dX9_came_20 rfl fl_RX9_101 rfl (fun v2 => ?_)
        refine s_aload_n (j := 0) (pc2 := 24) X dX9_came_23 rfl rfl ?_
        refine s_getR (pc2 := 27) X dX9_came_24 rfl fl_RX9_71 rfl (fun v3 => ?_)
        refine s_iload_n (j := 1) (pc2 := 28) X dX9_came_27 rfl rfl ?_
        refine s_callVZ (d2 := d - 1) (As := [vR C.1.1 v3, vI l1]) (st := []) (pc2 := 31) X dX9_came_28 rfl ml_RX9_288 im_X5_prepare se_X5_prepare kX5 rfl (c_X5_prepare (d - 1) (by omega) C.1 C.2.2.1 v2 v3 l1 h1) hy_X5_prepare rfl rfl hf hlo (st_room (Nat.le_of_ble_eq_true rfl)) hcs (fun v4 hv4 => ?_)
        refine s_ifne (tgt := 37) X dX9_came_31 (by decide) rfl hv4 ?_ ?_
        · refine s_aload_n (j := 0) (pc2 := 38) X dX9_came_37 rfl rfl ?_
          refine s_getR (pc2 := 41) X dX9_came_38 rfl fl_RX9_101 rfl (fun v5 => ?_)
          refine s_callVV (d2 := d - 1) (As := []) (st := []) (pc2 := 44) X dX9_came_41 rfl ml_RX9_291 im_X5_tell se_X5_tell kX5 rfl (c_X5_tell (d - 1) (by omega) C.1 C.2.2.1 v5) hy_X5_tell rfl rfl hf hlo (st_room (Nat.le_of_ble_eq_true rfl)) hcs (fun _ => ?_)
          refine s_iload_n (j := 2) (pc2 := 45) X dX9_came_44 rfl rfl ?_
          refine s_split (fun e45_0 => ?_) (fun e45_0 => ?_)
          · refine s_lsw (tgt := 72) X dX9_came_45 h2 rfl (lsw_hit e45_0) (by decide) ?_
            refine s_aload_n (j := 0) (pc2 := 73) X dX9_came_72 rfl rfl ?_
            refine s_getR (pc2 := 76) X dX9_came_73 rfl fl_RX9_101 rfl (fun v6 => ?_)
            refine s_callVI (d2 := d - 1) (As := []) (st := []) (pc2 := 79) X dX9_came_76 rfl ml_RX9_294 im_X5_rowCount se_X5_rowCount kX5 rfl (c_X5_rowCount (d - 1) (by omega) C.1 C.2.2.1 v6) hy_X5_rowCount rfl rfl hf hlo (st_room (Nat.le_of_ble_eq_true rfl)) hcs (fun v7 hv7 => ?_)
            exact s_iret X dX9_came_79 hv7
          refine s_split (fun e45_1 => ?_) (fun e45_1 => ?_)
          · refine s_lsw (tgt := 80) X dX9_came_45 h2 rfl (lsw_miss e45_0 (lsw_hit e45_1)) (by decide) ?_
            refine s_aload_n (j := 0) (pc2 := 81) X dX9_came_80 rfl rfl ?_
            refine s_getR (pc2 := 84) X dX9_came_81 rfl fl_RX9_101 rfl (fun v8 => ?_)
            refine s_callVI (d2 := d - 1) (As := []) (st := []) (pc2 := 87) X dX9_came_84 rfl ml_RX9_297 im_X5_lastOnes se_X5_lastOnes kX5 rfl (c_X5_lastOnes (d - 1) (by omega) C.1 C.2.2.1 v8) hy_X5_lastOnes rfl rfl hf hlo (st_room (Nat.le_of_ble_eq_true rfl)) hcs (fun v9 hv9 => ?_)
            exact s_iret X dX9_came_87 hv9
          refine s_lsw (tgt := 88) X dX9_came_45 h2 rfl (lsw_miss e45_0 (lsw_miss e45_1 (lsw_nil))) (by decide) ?_
          refine s_aload_n (j := 0) (pc2 := 89) X dX9_came_88 rfl rfl ?_
          refine s_getR (pc2 := 92) X dX9_came_89 rfl fl_RX9_101 rfl (fun v10 => ?_)
          refine s_callVI (d2 := d - 1) (As := []) (st := []) (pc2 := 95) X dX9_came_92 rfl ml_RX9_300 im_X5_lastOfFirst se_X5_lastOfFirst kX5 rfl (c_X5_lastOfFirst (d - 1) (by omega) C.1 C.2.2.1 v10) hy_X5_lastOfFirst rfl rfl hf hlo (st_room (Nat.le_of_ble_eq_true rfl)) hcs (fun v11 hv11 => ?_)
          exact s_iret X dX9_came_95 hv11
        · refine s_bipush (n := (-3)) (pc2 := 36) X dX9_came_34 rfl rfl ?_
          exact s_iret X dX9_came_36 (inI_c (-3) rfl)
      · refine s_sub (lv2 := []) [] rfl ?_
        exact z_X9_came_L17 d hd K X
theorem c_X9_came (d : Nat) (hd : 16 ≤ d) (G : hG) (l : Launch) (l0 : Nat) (l1 : Int) (l2 : Int) (h1 : inI l1) (h2 : inI l2) : hMet G l yX9_came cX9_came 3 (some .int) d 0 0 [vR G.1 l0, vI l1, vI l2] (m_X9_came l0 l1 l2) := by
  refine hMet.of (lv := [(0, vR G.1 l0), (1, vI l1), (2, vI l2)]) (by decide +kernel) (by simp [lg_sl, vR_cat, vI_cat, vL_cat, vS_cat2, vT_cat2]) (by simp [lv_args, vR_cat, vI_cat, vL_cat, vS_cat2, vT_cat2]) (fun C K X => ?_)
  obtain ⟨rfl, rfl, K⟩ := K
  exact z_X9_came d hd ⟨rfl, rfl, K⟩ X l0 l1 l2 h1 h2
def m_X9_trail_L17 : hM :=
  hret ((-1))
def m_X9_trail_L52 (s0 : Int) : hM :=
  hret s0
def m_X9_trail (l0 : Nat) (l1 : Int) (l2 : Int) : hM :=
  hcallV 9 l0 (m_X9_isPerson l0 l1) fun v1 =>
  hif (v1 = 0) (
m_X9_trail_L17) (
hif (l2 < 0) (
m_X9_trail_L17) (
hif (l2 ≤ 1) (
hgR 9 l0 11 fun v2 =>
  hgR 9 l0 3 fun v3 =>
  hcallV 8 v2 (m_X8_start v2 v3 l1) fun _ =>
  hif (l2 ≠ 0) (
hgR 9 l0 11 fun v4 =>
  hgI 8 v4 3 fun v5 =>
  m_X9_trail_L52 v5) (
hgR 9 l0 11 fun v6 =>
  hgI 8 v6 2 fun v7 =>
  m_X9_trail_L52 v7)) (
m_X9_trail_L17)))
set_option maxRecDepth 4000 in
theorem z_X9_trail_L17 (d : Nat) (hd : 16 ≤ d) {C : hCx} (K : hCtx C.1 C.2.2.1 d 0 0 "trail" C) (X : hOK C cX9_trail RX9 3 (some .int)) : hSim C (some .int) 0 0 3 17 [] [] 0 0 (m_X9_trail_L17) := by
  obtain ⟨⟨hf, hlo⟩, ⟨hc1, hc2⟩, hf1, hl1⟩ := K_room K (by omega)
  have hcs : 0 ≤ C.2.2.2.2.1.cells ∧ 0 ≤ C.2.2.2.2.1.slots := ⟨Nat.zero_le _, Nat.zero_le _⟩
  unfold m_X9_trail_L17
  refine s_iconst (n := (-1)) (pc2 := 18) X dX9_trail_17 rfl ?_
  exact s_iret X dX9_trail_18 (inI_c (-1) rfl)
set_option maxRecDepth 4000 in
theorem z_X9_trail_L52 (d : Nat) (hd : 16 ≤ d) {C : hCx} (K : hCtx C.1 C.2.2.1 d 0 0 "trail" C) (X : hOK C cX9_trail RX9 3 (some .int)) (s0 : Int) (g0 : inI s0) : hSim C (some .int) 0 0 3 52 [] [vI s0] 0 0 (m_X9_trail_L52 s0) := by
  obtain ⟨⟨hf, hlo⟩, ⟨hc1, hc2⟩, hf1, hl1⟩ := K_room K (by omega)
  have hcs : 0 ≤ C.2.2.2.2.1.cells ∧ 0 ≤ C.2.2.2.2.1.slots := ⟨Nat.zero_le _, Nat.zero_le _⟩
  unfold m_X9_trail_L52
  exact s_iret X dX9_trail_52 g0
set_option maxRecDepth 4000 in
set_option maxHeartbeats 20000000 in
theorem z_X9_trail (d : Nat) (hd : 16 ≤ d) {C : hCx} (K : hCtx C.1 C.2.2.1 d 0 0 "trail" C) (X : hOK C cX9_trail RX9 3 (some .int)) (l0 : Nat) (l1 : Int) (l2 : Int) (h1 : inI l1) (h2 : inI l2) : hSim C (some .int) 0 0 3 0 [(0, vR C.1.1 l0), (1, vI l1), (2, vI l2)] [] 0 0 (m_X9_trail l0 l1 l2) := by
  obtain ⟨⟨hf, hlo⟩, ⟨hc1, hc2⟩, hf1, hl1⟩ := K_room K (by omega)
  have hcs : 0 ≤ C.2.2.2.2.1.cells ∧ 0 ≤ C.2.2.2.2.1.slots := ⟨Nat.zero_le _, Nat.zero_le _⟩
  unfold m_X9_trail
  refine s_aload_n (j := 0) (pc2 := 1) X dX9_trail_0 rfl rfl ?_
  refine s_iload_n (j := 1) (pc2 := 2) X dX9_trail_1 rfl rfl ?_
  refine s_callVZ (d2 := d - 1) (As := [vI l1]) (st := []) (pc2 := 5) X dX9_trail_2 rfl ml_RX9_133 im_X9_isPerson se_X9_isPerson kX9 rfl (c_X9_isPerson (d - 1) (by omega) C.1 C.2.2.1 l0 l1 h1) hy_X9_isPerson rfl rfl hf hlo (st_room (Nat.le_of_ble_eq_true rfl)) hcs (fun v1 hv1 => ?_)
  refine s_ifeq (tgt := 17) X dX9_trail_5 (by decide) rfl hv1 ?_ ?_
  · refine s_sub (lv2 := []) [] rfl ?_
    exact z_X9_trail_L17 d hd K X
  · refine s_iload_n (j := 2) (pc2 := 9) X dX9_trail_8 rfl rfl ?_
    refine s_iflt (tgt := 17) X dX9_trail_9 (by decide) rfl h2 ?_ ?_
    · refine s_sub (lv2 := []) [] rfl ?_
      exact z_X9_trail_L17 d hd K X
    · refine s_iload_n (j := 2) (pc2 := 13) X dX9_trail_12 rfl rfl ?_
      refine s_iconst (n := 1) (pc2 := 14) X dX9_trail_13 rfl ?_
      refine s_icle (tgt := 19) X dX9_trail_14 (by decide) rfl h2 (inI_c 1 rfl) ?_ ?_
      · refine s_aload_n (j := 0) (pc2 := 20) X dX9_trail_19 rfl rfl ?_
        refine s_getR (pc2 := 23) X dX9_trail_20 rfl fl_RX9_94 rfl (fun v2 => ?_)
        refine s_aload_n (j := 0) (pc2 := 24) X dX9_trail_23 rfl rfl ?_
        refine s_getR (pc2 := 27) X dX9_trail_24 rfl fl_RX9_71 rfl (fun v3 => ?_)
        refine s_iload_n (j := 1) (pc2 := 28) X dX9_trail_27 rfl rfl ?_
        refine s_callVV (d2 := d - 1) (As := [vR C.1.1 v3, vI l1]) (st := []) (pc2 := 31) X dX9_trail_28 rfl ml_RX9_303 im_X8_start se_X8_start kX8 rfl (c_X8_start (d - 1) (by omega) C.1 C.2.2.1 v2 v3 l1 h1) hy_X8_start rfl rfl hf hlo (st_room (Nat.le_of_ble_eq_true rfl)) hcs (fun _ => ?_)
        refine s_iload_n (j := 2) (pc2 := 32) X dX9_trail_31 rfl rfl ?_
        refine s_ifne (tgt := 45) X dX9_trail_32 (by decide) rfl h2 ?_ ?_
        · refine s_aload_n (j := 0) (pc2 := 46) X dX9_trail_45 rfl rfl ?_
          refine s_getR (pc2 := 49) X dX9_trail_46 rfl fl_RX9_94 rfl (fun v4 => ?_)
          refine s_getI (pc2 := 52) X dX9_trail_49 rfl fl_RX9_310 rfl (fun v5 hv5 => ?_)
          refine s_sub (lv2 := []) [] rfl ?_
          exact z_X9_trail_L52 d hd K X v5 hv5
        · refine s_aload_n (j := 0) (pc2 := 36) X dX9_trail_35 rfl rfl ?_
          refine s_getR (pc2 := 39) X dX9_trail_36 rfl fl_RX9_94 rfl (fun v6 => ?_)
          refine s_getI (pc2 := 42) X dX9_trail_39 rfl fl_RX9_307 rfl (fun v7 hv7 => ?_)
          refine s_goto (pc2 := 52) X dX9_trail_42 (by decide) ?_
          refine s_sub (lv2 := []) [] rfl ?_
          exact z_X9_trail_L52 d hd K X v7 hv7
      · refine s_sub (lv2 := []) [] rfl ?_
        exact z_X9_trail_L17 d hd K X
theorem c_X9_trail (d : Nat) (hd : 16 ≤ d) (G : hG) (l : Launch) (l0 : Nat) (l1 : Int) (l2 : Int) (h1 : inI l1) (h2 : inI l2) : hMet G l yX9_trail cX9_trail 3 (some .int) d 0 0 [vR G.1 l0, vI l1, vI l2] (m_X9_trail l0 l1 l2) := by
  refine hMet.of (lv := [(0, vR G.1 l0), (1, vI l1), (2, vI l2)]) (by decide +kernel) (by simp [lg_sl, vR_cat, vI_cat, vL_cat, vS_cat2, vT_cat2]) (by simp [lv_args, vR_cat, vI_cat, vL_cat, vS_cat2, vT_cat2]) (fun C K X => ?_)
  obtain ⟨rfl, rfl, K⟩ := K
  exact z_X9_trail d hd ⟨rfl, rfl, K⟩ X l0 l1 l2 h1 h2
def m_X9_seed (l0 : Nat) (l1 : Int) : hM :=
  hif (l1 ≥ 0) (
hgI 9 l0 9 fun v1 =>
  hlet ((w32 v1)) fun (w2 : Int) =>
  hpI 9 l0 9 l1 <|
  hret w2) (
hret ((-1)))
set_option maxRecDepth 4000 in
set_option maxHeartbeats 20000000 in
theorem z_X9_seed (d : Nat) (hd : 1 ≤ d) {C : hCx} (K : hCtx C.1 C.2.2.1 d 0 0 "seed" C) (X : hOK C cX9_seed RX9 3 (some .int)) (l0 : Nat) (l1 : Int) (h1 : inI l1) : hSim C (some .int) 0 0 3 0 [(0, vR C.1.1 l0), (1, vI l1)] [] 0 0 (m_X9_seed l0 l1) := by
  obtain ⟨⟨hf, hlo⟩, ⟨hc1, hc2⟩, hf1, hl1⟩ := K_room K (by omega)
  have hcs : 0 ≤ C.2.2.2.2.1.cells ∧ 0 ≤ C.2.2.2.2.1.slots := ⟨Nat.zero_le _, Nat.zero_le _⟩
  unfold m_X9_seed
  refine s_iload_n (j := 1) (pc2 := 1) X dX9_seed_0 rfl rfl ?_
  refine s_ifge (tgt := 6) X dX9_seed_1 (by decide) rfl h1 ?_ ?_
  · refine s_aload_n (j := 0) (pc2 := 7) X dX9_seed_6 rfl rfl ?_
    refine s_getL (pc2 := 10) X dX9_seed_7 rfl fl_RX9_44 rfl (fun v1 hv1 => ?_)
    refine s_l2i (pc2 := 11) X dX9_seed_10 rfl hv1 ?_
    refine s_istore_n (pc2 := 12) X dX9_seed_11 rfl (by decide) rfl rfl cat1_I (w32_in _) (fun w2 hw2 => ?_)
    refine s_aload_n (j := 1) (pc2 := 13) X dX9_seed_12 rfl rfl ?_
    refine s_iload_n (j := 2) (pc2 := 14) X dX9_seed_13 rfl rfl ?_
    refine s_i2l (pc2 := 15) X dX9_seed_14 rfl h1 ?_
    refine s_putL (pc2 := 18) X dX9_seed_15 rfl fl_RX9_44 (Or.inl rfl) rfl (inL_of h1) ?_
    refine s_iload_n (j := 0) (pc2 := 19) X dX9_seed_18 rfl rfl ?_
    exact s_iret X dX9_seed_19 hw2
  · refine s_iconst (n := (-1)) (pc2 := 5) X dX9_seed_4 rfl ?_
    exact s_iret X dX9_seed_5 (inI_c (-1) rfl)
theorem c_X9_seed (d : Nat) (hd : 1 ≤ d) (G : hG) (l : Launch) (l0 : Nat) (l1 : Int) (h1 : inI l1) : hMet G l yX9_seed cX9_seed 3 (some .int) d 0 0 [vR G.1 l0, vI l1] (m_X9_seed l0 l1) := by
  refine hMet.of (lv := [(0, vR G.1 l0), (1, vI l1)]) (by decide +kernel) (by simp [lg_sl, vR_cat, vI_cat, vL_cat, vS_cat2, vT_cat2]) (by simp [lv_args, vR_cat, vI_cat, vL_cat, vS_cat2, vT_cat2]) (fun C K X => ?_)
  obtain ⟨rfl, rfl, K⟩ := K
  exact z_X9_seed d hd ⟨rfl, rfl, K⟩ X l0 l1 h1
def m_X9_drawBelow_L39 (s0 : Int) : hM :=
  hret s0
def m_X9_drawBelow (l0 : Nat) (l1 : Int) : hM :=
  hgI 9 l0 9 fun v1 =>
  hpI 9 l0 9 ((landZ ((w64 (((w64 (v1 * 1103515245))) + 12345))) 2147483647)) <|
  hif (l1 ≤ 0) (
m_X9_drawBelow_L39 0) (
hgI 9 l0 9 fun v2 =>
  hnz 65536 <|
  hnz l1 <|
  m_X9_drawBelow_L39 ((iremZ ((w32 ((ldivZ v2 65536)))) l1)))
set_option maxRecDepth 4000 in
theorem z_X9_drawBelow_L39 (d : Nat) (hd : 1 ≤ d) {C : hCx} (K : hCtx C.1 C.2.2.1 d 0 0 "drawBelow" C) (X : hOK C cX9_drawBelow RX9 2 (some .int)) (s0 : Int) (g0 : inI s0) : hSim C (some .int) 0 0 2 39 [] [vI s0] 0 0 (m_X9_drawBelow_L39 s0) := by
  obtain ⟨⟨hf, hlo⟩, ⟨hc1, hc2⟩, hf1, hl1⟩ := K_room K (by omega)
  have hcs : 0 ≤ C.2.2.2.2.1.cells ∧ 0 ≤ C.2.2.2.2.1.slots := ⟨Nat.zero_le _, Nat.zero_le _⟩
  unfold m_X9_drawBelow_L39
  exact s_iret X dX9_drawBelow_39 g0
set_option maxRecDepth 4000 in
set_option maxHeartbeats 20000000 in
theorem z_X9_drawBelow (d : Nat) (hd : 1 ≤ d) {C : hCx} (K : hCtx C.1 C.2.2.1 d 0 0 "drawBelow" C) (X : hOK C cX9_drawBelow RX9 2 (some .int)) (l0 : Nat) (l1 : Int) (h1 : inI l1) : hSim C (some .int) 0 0 2 0 [(0, vR C.1.1 l0), (1, vI l1)] [] 0 0 (m_X9_drawBelow l0 l1) := by
  obtain ⟨⟨hf, hlo⟩, ⟨hc1, hc2⟩, hf1, hl1⟩ := K_room K (by omega)
  have hcs : 0 ≤ C.2.2.2.2.1.cells ∧ 0 ≤ C.2.2.2.2.1.slots := ⟨Nat.zero_le _, Nat.zero_le _⟩
  unfold m_X9_drawBelow
  refine s_aload_n (j := 0) (pc2 := 1) X dX9_drawBelow_0 rfl rfl ?_
  refine s_aload_n (j := 0) (pc2 := 2) X dX9_drawBelow_1 rfl rfl ?_
  refine s_getL (pc2 := 5) X dX9_drawBelow_2 rfl fl_RX9_44 rfl (fun v1 hv1 => ?_)
  refine s_ldc2 (z := 1103515245) (pc2 := 8) X dX9_drawBelow_5 rfl kc_RX9_360 ?_
  refine s_lmul (pc2 := 9) X dX9_drawBelow_8 rfl ?_
  refine s_ldc2 (z := 12345) (pc2 := 12) X dX9_drawBelow_9 rfl kc_RX9_362 ?_
  refine s_ladd (pc2 := 13) X dX9_drawBelow_12 rfl ?_
  refine s_ldc2 (z := 2147483647) (pc2 := 16) X dX9_drawBelow_13 rfl kc_RX9_364 ?_
  refine s_land (pc2 := 17) X dX9_drawBelow_16 rfl ?_
  refine s_putL (pc2 := 20) X dX9_drawBelow_17 rfl fl_RX9_44 (Or.inl rfl) rfl (landZ_in _ _) ?_
  refine s_iload_n (j := 1) (pc2 := 21) X dX9_drawBelow_20 rfl rfl ?_
  refine s_ifle (tgt := 38) X dX9_drawBelow_21 (by decide) rfl h1 ?_ ?_
  · refine s_iconst (n := 0) (pc2 := 39) X dX9_drawBelow_38 rfl ?_
    refine s_sub (lv2 := []) [] rfl ?_
    exact z_X9_drawBelow_L39 d hd K X 0 (inI_c 0 rfl)
  · refine s_aload_n (j := 0) (pc2 := 25) X dX9_drawBelow_24 rfl rfl ?_
    refine s_getL (pc2 := 28) X dX9_drawBelow_25 rfl fl_RX9_44 rfl (fun v2 hv2 => ?_)
    refine s_ldc2 (z := 65536) (pc2 := 31) X dX9_drawBelow_28 rfl kc_RX9_366 ?_
    refine s_ldiv (pc2 := 32) X dX9_drawBelow_31 rfl hv2 (inL_c 65536 rfl) ?_
    refine s_l2i (pc2 := 33) X dX9_drawBelow_32 rfl (ldivZ_in _ _) ?_
    refine s_iload_n (j := 1) (pc2 := 34) X dX9_drawBelow_33 rfl rfl ?_
    refine s_irem (pc2 := 35) X dX9_drawBelow_34 rfl (w32_in _) h1 ?_
    refine s_goto (pc2 := 39) X dX9_drawBelow_35 (by decide) ?_
    refine s_sub (lv2 := []) [] rfl ?_
    exact z_X9_drawBelow_L39 d hd K X ((iremZ ((w32 ((ldivZ v2 65536)))) l1)) (iremZ_in (w32_in _) h1)
theorem c_X9_drawBelow (d : Nat) (hd : 1 ≤ d) (G : hG) (l : Launch) (l0 : Nat) (l1 : Int) (h1 : inI l1) : hMet G l yX9_drawBelow cX9_drawBelow 2 (some .int) d 0 0 [vR G.1 l0, vI l1] (m_X9_drawBelow l0 l1) := by
  refine hMet.of (lv := [(0, vR G.1 l0), (1, vI l1)]) (by decide +kernel) (by simp [lg_sl, vR_cat, vI_cat, vL_cat, vS_cat2, vT_cat2]) (by simp [lv_args, vR_cat, vI_cat, vL_cat, vS_cat2, vT_cat2]) (fun C K X => ?_)
  obtain ⟨rfl, rfl, K⟩ := K
  exact z_X9_drawBelow d hd ⟨rfl, rfl, K⟩ X l0 l1 h1
def m_X9_wanderByDraws_L73 (k18 : Nat → Int → Int → Int → hM) (l0 : Nat) (l1 : Int) (l2 : Int) (l3 : Int) : hM :=
  hlet (w32 (l3 + 1)) fun (w1 : Int) =>
  k18 l0 l1 l2 w1
def m_X9_wanderByDraws_L18 : Nat → Nat → Int → Int → Int → hM
  | 0, _, _, _, _ => hfail
  | n + 1, l0, l1, l2, l3 =>
    hgR 9 l0 4 fun v1 =>
  hgR 4 v1 0 fun v2 =>
  hgI 7 v2 7 fun v3 =>
  hif (l3 ≥ v3) (
hret l1) (
hcallV 9 l0 (m_X9_drawBelow l0 ((w32 (l2 + 1)))) fun v4 =>
  hlet v4 fun (w5 : Int) =>
  hif (w5 ≥ l2) (
m_X9_wanderByDraws_L73 (m_X9_wanderByDraws_L18 n) l0 l1 l2 l3) (
hgR 9 l0 4 fun v6 =>
  hcallV 4 v6 (m_X4_canCross v6 l3 w5) fun v7 =>
  hif (v7 = 0) (
m_X9_wanderByDraws_L73 (m_X9_wanderByDraws_L18 n) l0 l1 l2 l3) (
hgR 9 l0 4 fun v8 =>
  hcallV 4 v8 (m_X4_goOver v8 l3 w5) fun _ =>
  hlet (w32 (l1 + 1)) fun (w9 : Int) =>
  m_X9_wanderByDraws_L73 (m_X9_wanderByDraws_L18 n) l0 w9 l2 l3)))
def m_X9_wanderByDraws (l0 : Nat) : hM :=
  hlet (0 : Int) fun (w1 : Int) =>
  hgR 9 l0 4 fun v2 =>
  hgR 4 v2 0 fun v3 =>
  hgR 7 v3 2 fun v4 =>
  hgI 1 v4 3 fun v5 =>
  hlet v5 fun (w6 : Int) =>
  hlet (0 : Int) fun (w7 : Int) =>
  m_X9_wanderByDraws_L18 1000000000 l0 w1 w6 w7
set_option maxRecDepth 4000 in
theorem z_X9_wanderByDraws_L73 (d : Nat) (hd : 3 ≤ d) {C : hCx} (K : hCtx C.1 C.2.2.1 d 0 0 "wanderByDraws" C) (X : hOK C cX9_wanderByDraws RX9 5 (some .int)) (k18 : Nat → Int → Int → Int → hM) (hk18 : ∀ (l0 : Nat) (l1 : Int) (l2 : Int) (l3 : Int), inI l1 → inI l2 → inI l3 → hSim C (some .int) 0 0 5 18 [(0, vR C.1.1 l0), (1, vI l1), (2, vI l2), (3, vI l3)] [] 0 0 (k18 l0 l1 l2 l3)) (l0 : Nat) (l1 : Int) (l2 : Int) (l3 : Int) (h1 : inI l1) (h2 : inI l2) (h3 : inI l3) : hSim C (some .int) 0 0 5 73 [(0, vR C.1.1 l0), (1, vI l1), (2, vI l2), (3, vI l3)] [] 0 0 (m_X9_wanderByDraws_L73 k18 l0 l1 l2 l3) := by
  obtain ⟨⟨hf, hlo⟩, ⟨hc1, hc2⟩, hf1, hl1⟩ := K_room K (by omega)
  have hcs : 0 ≤ C.2.2.2.2.1.cells ∧ 0 ≤ C.2.2.2.2.1.slots := ⟨Nat.zero_le _, Nat.zero_le _⟩
  unfold m_X9_wanderByDraws_L73
  refine s_iinc (j := 3) (pc2 := 76) X dX9_wanderByDraws_73 rfl (by decide) rfl rfl rfl cat1_I (fun w1 hw1 => ?_)
  refine s_goto (pc2 := 18) X dX9_wanderByDraws_76 (by decide) ?_
  refine s_sub (lv2 := [(0, vR C.1.1 l0), (1, vI l1), (2, vI l2), (3, vI w1)]) [1, 2, 3, 0] rfl ?_
  exact hk18 l0 l1 l2 w1 h1 h2 hw1
set_option maxRecDepth 4000 in
theorem z_X9_wanderByDraws_L18 (d : Nat) (hd : 3 ≤ d) {C : hCx} (K : hCtx C.1 C.2.2.1 d 0 0 "wanderByDraws" C) (X : hOK C cX9_wanderByDraws RX9 5 (some .int)) : ∀ (n : Nat) (l0 : Nat) (l1 : Int) (l2 : Int) (l3 : Int) (h1 : inI l1) (h2 : inI l2) (h3 : inI l3), hSim C (some .int) 0 0 5 18 [(0, vR C.1.1 l0), (1, vI l1), (2, vI l2), (3, vI l3)] [] 0 0 (m_X9_wanderByDraws_L18 n l0 l1 l2 l3) := by
  obtain ⟨⟨hf, hlo⟩, ⟨hc1, hc2⟩, hf1, hl1⟩ := K_room K (by omega)
  have hcs : 0 ≤ C.2.2.2.2.1.cells ∧ 0 ≤ C.2.2.2.2.1.slots := ⟨Nat.zero_le _, Nat.zero_le _⟩
  intro n
  induction n with
  | zero => intros; exact s_none (fun _ => rfl)
  | succ n ih =>
    intro l0 l1 l2 l3 h1 h2 h3
    unfold m_X9_wanderByDraws_L18
    refine s_iload_n (j := 3) (pc2 := 19) X dX9_wanderByDraws_18 rfl rfl ?_
    refine s_aload_n (j := 0) (pc2 := 20) X dX9_wanderByDraws_19 rfl rfl ?_
    refine s_getR (pc2 := 23) X dX9_wanderByDraws_20 rfl fl_RX9_75 rfl (fun v1 => ?_)
    refine s_getR (pc2 := 26) X dX9_wanderByDraws_23 rfl fl_RX9_140 rfl (fun v2 => ?_)
    refine s_getI (pc2 := 29) X dX9_wanderByDraws_26 rfl fl_RX9_185 rfl (fun v3 hv3 => ?_)
    refine s_icge (tgt := 79) X dX9_wanderByDraws_29 (by decide) rfl h3 hv3 ?_ ?_
    · refine s_iload_n (j := 1) (pc2 := 80) X dX9_wanderByDraws_79 rfl rfl ?_
      exact s_iret X dX9_wanderByDraws_80 h1
    · refine s_aload_n (j := 0) (pc2 := 33) X dX9_wanderByDraws_32 rfl rfl ?_
      refine s_iload_n (j := 2) (pc2 := 34) X dX9_wanderByDraws_33 rfl rfl ?_
      refine s_iconst (n := 1) (pc2 := 35) X dX9_wanderByDraws_34 rfl ?_
      refine s_iadd (pc2 := 36) X dX9_wanderByDraws_35 rfl ?_
      refine s_callVI (d2 := d - 1) (As := [vI ((w32 (l2 + 1)))]) (st := []) (pc2 := 39) X dX9_wanderByDraws_36 rfl ml_RX9_368 im_X9_drawBelow se_X9_drawBelow kX9 rfl (c_X9_drawBelow (d - 1) (by omega) C.1 C.2.2.1 l0 ((w32 (l2 + 1))) (w32_in _)) hy_X9_drawBelow rfl rfl hf hlo (st_room (Nat.le_of_ble_eq_true rfl)) hcs (fun v4 hv4 => ?_)
      refine s_istore (pc2 := 41) X dX9_wanderByDraws_39 rfl (by decide) rfl rfl cat1_I hv4 (fun w5 hw5 => ?_)
      refine s_iload (j := 0) (pc2 := 43) X dX9_wanderByDraws_41 rfl rfl ?_
      refine s_iload_n (j := 3) (pc2 := 44) X dX9_wanderByDraws_43 rfl rfl ?_
      refine s_icge (tgt := 73) X dX9_wanderByDraws_44 (by decide) rfl hw5 h2 ?_ ?_
      · refine s_sub (lv2 := [(0, vR C.1.1 l0), (1, vI l1), (2, vI l2), (3, vI l3)]) [1, 2, 3, 4] rfl ?_
        exact z_X9_wanderByDraws_L73 d hd K X (m_X9_wanderByDraws_L18 n) ih l0 l1 l2 l3 h1 h2 h3
      · refine s_aload_n (j := 1) (pc2 := 48) X dX9_wanderByDraws_47 rfl rfl ?_
        refine s_getR (pc2 := 51) X dX9_wanderByDraws_48 rfl fl_RX9_75 rfl (fun v6 => ?_)
        refine s_iload_n (j := 4) (pc2 := 52) X dX9_wanderByDraws_51 rfl rfl ?_
        refine s_iload (j := 0) (pc2 := 54) X dX9_wanderByDraws_52 rfl rfl ?_
        refine s_callVZ (d2 := d - 1) (As := [vI l3, vI w5]) (st := []) (pc2 := 57) X dX9_wanderByDraws_54 rfl ml_RX9_205 im_X4_canCross se_X4_canCross kX4 rfl (c_X4_canCross (d - 1) (by omega) C.1 C.2.2.1 v6 l3 w5 h3 hw5) hy_X4_canCross rfl rfl hf hlo (st_room (Nat.le_of_ble_eq_true rfl)) hcs (fun v7 hv7 => ?_)
        refine s_ifeq (tgt := 73) X dX9_wanderByDraws_57 (by decide) rfl hv7 ?_ ?_
        · refine s_sub (lv2 := [(0, vR C.1.1 l0), (1, vI l1), (2, vI l2), (3, vI l3)]) [1, 2, 3, 4] rfl ?_
          exact z_X9_wanderByDraws_L73 d hd K X (m_X9_wanderByDraws_L18 n) ih l0 l1 l2 l3 h1 h2 h3
        · refine s_aload_n (j := 1) (pc2 := 61) X dX9_wanderByDraws_60 rfl rfl ?_
          refine s_getR (pc2 := 64) X dX9_wanderByDraws_61 rfl fl_RX9_75 rfl (fun v8 => ?_)
          refine s_iload_n (j := 4) (pc2 := 65) X dX9_wanderByDraws_64 rfl rfl ?_
          refine s_iload (j := 0) (pc2 := 67) X dX9_wanderByDraws_65 rfl rfl ?_
          refine s_callVV (d2 := d - 1) (As := [vI l3, vI w5]) (st := []) (pc2 := 70) X dX9_wanderByDraws_67 rfl ml_RX9_212 im_X4_goOver se_X4_goOver kX4 rfl (c_X4_goOver (d - 1) (by omega) C.1 C.2.2.1 v8 l3 w5 h3 hw5) hy_X4_goOver rfl rfl hf hlo (st_room (Nat.le_of_ble_eq_true rfl)) hcs (fun _ => ?_)
          refine s_iinc (j := 2) (pc2 := 73) X dX9_wanderByDraws_70 rfl (by decide) rfl rfl rfl cat1_R (fun w9 hw9 => ?_)
          refine s_sub (lv2 := [(0, vR C.1.1 l0), (1, vI w9), (2, vI l2), (3, vI l3)]) [2, 0, 3, 4] rfl ?_
          exact z_X9_wanderByDraws_L73 d hd K X (m_X9_wanderByDraws_L18 n) ih l0 w9 l2 l3 hw9 h2 h3
set_option maxRecDepth 4000 in
set_option maxHeartbeats 20000000 in
theorem z_X9_wanderByDraws (d : Nat) (hd : 3 ≤ d) {C : hCx} (K : hCtx C.1 C.2.2.1 d 0 0 "wanderByDraws" C) (X : hOK C cX9_wanderByDraws RX9 5 (some .int)) (l0 : Nat) : hSim C (some .int) 0 0 5 0 [(0, vR C.1.1 l0)] [] 0 0 (m_X9_wanderByDraws l0) := by
  obtain ⟨⟨hf, hlo⟩, ⟨hc1, hc2⟩, hf1, hl1⟩ := K_room K (by omega)
  have hcs : 0 ≤ C.2.2.2.2.1.cells ∧ 0 ≤ C.2.2.2.2.1.slots := ⟨Nat.zero_le _, Nat.zero_le _⟩
  unfold m_X9_wanderByDraws
  refine s_iconst (n := 0) (pc2 := 1) X dX9_wanderByDraws_0 rfl ?_
  refine s_istore_n (pc2 := 2) X dX9_wanderByDraws_1 rfl (by decide) rfl rfl cat1_R (inI_c 0 rfl) (fun w1 hw1 => ?_)
  refine s_aload_n (j := 1) (pc2 := 3) X dX9_wanderByDraws_2 rfl rfl ?_
  refine s_getR (pc2 := 6) X dX9_wanderByDraws_3 rfl fl_RX9_75 rfl (fun v2 => ?_)
  refine s_getR (pc2 := 9) X dX9_wanderByDraws_6 rfl fl_RX9_140 rfl (fun v3 => ?_)
  refine s_getR (pc2 := 12) X dX9_wanderByDraws_9 rfl fl_RX9_87 rfl (fun v4 => ?_)
  refine s_getI (pc2 := 15) X dX9_wanderByDraws_12 rfl fl_RX9_127 rfl (fun v5 hv5 => ?_)
  refine s_istore_n (pc2 := 16) X dX9_wanderByDraws_15 rfl (by decide) rfl rfl cat1_I hv5 (fun w6 hw6 => ?_)
  refine s_iconst (n := 0) (pc2 := 17) X dX9_wanderByDraws_16 rfl ?_
  refine s_istore_n (pc2 := 18) X dX9_wanderByDraws_17 rfl (by decide) rfl rfl cat1_I (inI_c 0 rfl) (fun w7 hw7 => ?_)
  refine s_sub (lv2 := [(0, vR C.1.1 l0), (1, vI w1), (2, vI w6), (3, vI w7)]) [3, 2, 1, 0] rfl ?_
  exact z_X9_wanderByDraws_L18 d hd K X 1000000000 l0 w1 w6 w7 hw1 hw6 hw7
theorem c_X9_wanderByDraws (d : Nat) (hd : 3 ≤ d) (G : hG) (l : Launch) (l0 : Nat) : hMet G l yX9_wanderByDraws cX9_wanderByDraws 5 (some .int) d 0 0 [vR G.1 l0] (m_X9_wanderByDraws l0) := by
  refine hMet.of (lv := [(0, vR G.1 l0)]) (by decide +kernel) (by simp [lg_sl, vR_cat, vI_cat, vL_cat, vS_cat2, vT_cat2]) (by simp [lv_args, vR_cat, vI_cat, vL_cat, vS_cat2, vT_cat2]) (fun C K X => ?_)
  obtain ⟨rfl, rfl, K⟩ := K
  exact z_X9_wanderByDraws d hd ⟨rfl, rfl, K⟩ X l0
def m_X9_lives_L38 : hM :=
  hret ((-1))
def m_X9_lives_L131 (s0 : Int) : hM :=
  hret s0
def m_X9_lives_L75 (k55 : Nat → Int → Int → Int → Int → Int → Int → Int → hM) : Nat → Nat → Int → Int → Int → Int → Int → Int → Int → Int → hM
  | 0, _, _, _, _, _, _, _, _, _ => hfail
  | n + 1, l0, l1, l2, l3, l4, l6, l7, l8, l9 =>
    hif (l9 ≥ l2) (
hlet (w32 (l8 + 1)) fun (w1 : Int) =>
  k55 l0 l1 l2 l3 l4 l6 l7 w1) (
hcallV 9 l0 (m_X9_wanderByDraws l0) fun v2 =>
  hlet ((w32 (l6 + v2))) fun (w3 : Int) =>
  hgR 9 l0 4 fun v4 =>
  hcallV 4 v4 (m_X4_endDay v4) fun v5 =>
  hlet ((w32 (l7 + v5))) fun (w6 : Int) =>
  hlet (w32 (l9 + 1)) fun (w7 : Int) =>
  m_X9_lives_L75 k55 n l0 l1 l2 l3 l4 w3 w6 l8 w7)
def m_X9_lives_L55 : Nat → Nat → Int → Int → Int → Int → Int → Int → Int → hM
  | 0, _, _, _, _, _, _, _, _ => hfail
  | n + 1, l0, l1, l2, l3, l4, l6, l7, l8 =>
    hif (l8 ≥ l1) (
hpI 9 l0 9 l4 <|
  hif (l3 ≠ 0) (
m_X9_lives_L131 l7) (
m_X9_lives_L131 l6)) (
hgR 9 l0 4 fun v1 =>
  hgR 9 l0 3 fun v2 =>
  hcallV 4 v1 (m_X4_copy v1 v2) fun _ =>
  hlet (0 : Int) fun (w3 : Int) =>
  m_X9_lives_L75 (m_X9_lives_L55 n) 1000000000 l0 l1 l2 l3 l4 l6 l7 l8 w3)
def m_X9_lives (l0 : Nat) (l1 : Int) (l2 : Int) (l3 : Int) : hM :=
  hcallV 9 l0 (m_X9_hasTown l0) fun v1 =>
  hif (v1 = 0) (
m_X9_lives_L38) (
hif (l1 < 1) (
m_X9_lives_L38) (
hif (l1 > 10) (
m_X9_lives_L38) (
hif (l2 < 1) (
m_X9_lives_L38) (
hif (l2 > 60) (
m_X9_lives_L38) (
hif (l3 < 0) (
m_X9_lives_L38) (
hif (l3 ≤ 1) (
hgI 9 l0 9 fun v2 =>
  hlet v2 fun (w3 : Int) =>
  hlet (0 : Int) fun (w4 : Int) =>
  hlet (0 : Int) fun (w5 : Int) =>
  hlet (0 : Int) fun (w6 : Int) =>
  m_X9_lives_L55 1000000000 l0 l1 l2 l3 w3 w4 w5 w6) (
m_X9_lives_L38)))))))
set_option maxRecDepth 4000 in
theorem z_X9_lives_L38 (d : Nat) (hd : 4 ≤ d) {C : hCx} (K : hCtx C.1 C.2.2.1 d 0 0 "lives" C) (X : hOK C cX9_lives RX9 10 (some .int)) : hSim C (some .int) 0 0 10 38 [] [] 0 0 (m_X9_lives_L38) := by
  obtain ⟨⟨hf, hlo⟩, ⟨hc1, hc2⟩, hf1, hl1⟩ := K_room K (by omega)
  have hcs : 0 ≤ C.2.2.2.2.1.cells ∧ 0 ≤ C.2.2.2.2.1.slots := ⟨Nat.zero_le _, Nat.zero_le _⟩
  unfold m_X9_lives_L38
  refine s_iconst (n := (-1)) (pc2 := 39) X dX9_lives_38 rfl ?_
  exact s_iret X dX9_lives_39 (inI_c (-1) rfl)
set_option maxRecDepth 4000 in
theorem z_X9_lives_L131 (d : Nat) (hd : 4 ≤ d) {C : hCx} (K : hCtx C.1 C.2.2.1 d 0 0 "lives" C) (X : hOK C cX9_lives RX9 10 (some .int)) (s0 : Int) (g0 : inI s0) : hSim C (some .int) 0 0 10 131 [] [vI s0] 0 0 (m_X9_lives_L131 s0) := by
  obtain ⟨⟨hf, hlo⟩, ⟨hc1, hc2⟩, hf1, hl1⟩ := K_room K (by omega)
  have hcs : 0 ≤ C.2.2.2.2.1.cells ∧ 0 ≤ C.2.2.2.2.1.slots := ⟨Nat.zero_le _, Nat.zero_le _⟩
  unfold m_X9_lives_L131
  exact s_iret X dX9_lives_131 g0
set_option maxRecDepth 4000 in
theorem z_X9_lives_L75 (d : Nat) (hd : 4 ≤ d) {C : hCx} (K : hCtx C.1 C.2.2.1 d 0 0 "lives" C) (X : hOK C cX9_lives RX9 10 (some .int)) (k55 : Nat → Int → Int → Int → Int → Int → Int → Int → hM) (hk55 : ∀ (l0 : Nat) (l1 : Int) (l2 : Int) (l3 : Int) (l4 : Int) (l6 : Int) (l7 : Int) (l8 : Int), inI l1 → inI l2 → inI l3 → inL l4 → inI l6 → inI l7 → inI l8 → hSim C (some .int) 0 0 10 55 [(0, vR C.1.1 l0), (1, vI l1), (2, vI l2), (3, vI l3), (4, vL l4), (6, vI l6), (7, vI l7), (8, vI l8)] [] 0 0 (k55 l0 l1 l2 l3 l4 l6 l7 l8)) : ∀ (n : Nat) (l0 : Nat) (l1 : Int) (l2 : Int) (l3 : Int) (l4 : Int) (l6 : Int) (l7 : Int) (l8 : Int) (l9 : Int) (h1 : inI l1) (h2 : inI l2) (h3 : inI l3) (h4 : inL l4) (h6 : inI l6) (h7 : inI l7) (h8 : inI l8) (h9 : inI l9), hSim C (some .int) 0 0 10 75 [(0, vR C.1.1 l0), (1, vI l1), (2, vI l2), (3, vI l3), (4, vL l4), (6, vI l6), (7, vI l7), (8, vI l8), (9, vI l9)] [] 0 0 (m_X9_lives_L75 k55 n l0 l1 l2 l3 l4 l6 l7 l8 l9) := by
  obtain ⟨⟨hf, hlo⟩, ⟨hc1, hc2⟩, hf1, hl1⟩ := K_room K (by omega)
  have hcs : 0 ≤ C.2.2.2.2.1.cells ∧ 0 ≤ C.2.2.2.2.1.slots := ⟨Nat.zero_le _, Nat.zero_le _⟩
  intro n
  induction n with
  | zero => intros; exact s_none (fun _ => rfl)
  | succ n ih =>
    intro l0 l1 l2 l3 l4 l6 l7 l8 l9 h1 h2 h3 h4 h6 h7 h8 h9
    unfold m_X9_lives_L75
    refine s_iload (j := 8) (pc2 := 77) X dX9_lives_75 rfl rfl ?_
    refine s_iload_n (j := 2) (pc2 := 78) X dX9_lives_77 rfl rfl ?_
    refine s_icge (tgt := 108) X dX9_lives_78 (by decide) rfl h9 h2 ?_ ?_
    · refine s_iinc (j := 7) (pc2 := 111) X dX9_lives_108 rfl (by decide) rfl rfl rfl cat1_I (fun w1 hw1 => ?_)
      refine s_goto (pc2 := 55) X dX9_lives_111 (by decide) ?_
      refine s_sub (lv2 := [(0, vR C.1.1 l0), (1, vI l1), (2, vI l2), (3, vI l3), (4, vL l4), (6, vI l6), (7, vI l7), (8, vI w1)]) [1, 2, 3, 4, 5, 6, 7, 0] rfl ?_
      exact hk55 l0 l1 l2 l3 l4 l6 l7 w1 h1 h2 h3 h4 h6 h7 hw1
    · refine s_iload (j := 5) (pc2 := 83) X dX9_lives_81 rfl rfl ?_
      refine s_aload_n (j := 0) (pc2 := 84) X dX9_lives_83 rfl rfl ?_
      refine s_callVI (d2 := d - 1) (As := []) (st := [vI l6]) (pc2 := 87) X dX9_lives_84 rfl ml_RX9_313 im_X9_wanderByDraws se_X9_wanderByDraws kX9 rfl (c_X9_wanderByDraws (d - 1) (by omega) C.1 C.2.2.1 l0) hy_X9_wanderByDraws rfl rfl hf hlo (st_room (Nat.le_of_ble_eq_true rfl)) hcs (fun v2 hv2 => ?_)
      refine s_iadd (pc2 := 88) X dX9_lives_87 rfl ?_
      refine s_istore (pc2 := 90) X dX9_lives_88 rfl (by decide) rfl rfl cat1_N (w32_in _) (fun w3 hw3 => ?_)
      refine s_iload (j := 6) (pc2 := 92) X dX9_lives_90 rfl rfl ?_
      refine s_aload_n (j := 1) (pc2 := 93) X dX9_lives_92 rfl rfl ?_
      refine s_getR (pc2 := 96) X dX9_lives_93 rfl fl_RX9_75 rfl (fun v4 => ?_)
      refine s_callVI (d2 := d - 1) (As := []) (st := [vI l7]) (pc2 := 99) X dX9_lives_96 rfl ml_RX9_228 im_X4_endDay se_X4_endDay kX4 rfl (c_X4_endDay (d - 1) (by omega) C.1 C.2.2.1 v4) hy_X4_endDay rfl rfl hf hlo (st_room (Nat.le_of_ble_eq_true rfl)) hcs (fun v5 hv5 => ?_)
      refine s_iadd (pc2 := 100) X dX9_lives_99 rfl ?_
      refine s_istore (pc2 := 102) X dX9_lives_100 rfl (by decide) rfl rfl cat1_I (w32_in _) (fun w6 hw6 => ?_)
      refine s_iinc (j := 8) (pc2 := 105) X dX9_lives_102 rfl (by decide) rfl rfl rfl cat1_I (fun w7 hw7 => ?_)
      refine s_goto (pc2 := 75) X dX9_lives_105 (by decide) ?_
      refine s_sub (lv2 := [(0, vR C.1.1 l0), (1, vI l1), (2, vI l2), (3, vI l3), (4, vL l4), (6, vI w3), (7, vI w6), (8, vI l8), (9, vI w7)]) [3, 4, 5, 6, 7, 2, 1, 8, 0] rfl ?_
      exact ih l0 l1 l2 l3 l4 w3 w6 l8 w7 h1 h2 h3 h4 hw3 hw6 h8 hw7
set_option maxRecDepth 4000 in
theorem z_X9_lives_L55 (d : Nat) (hd : 4 ≤ d) {C : hCx} (K : hCtx C.1 C.2.2.1 d 0 0 "lives" C) (X : hOK C cX9_lives RX9 10 (some .int)) : ∀ (n : Nat) (l0 : Nat) (l1 : Int) (l2 : Int) (l3 : Int) (l4 : Int) (l6 : Int) (l7 : Int) (l8 : Int) (h1 : inI l1) (h2 : inI l2) (h3 : inI l3) (h4 : inL l4) (h6 : inI l6) (h7 : inI l7) (h8 : inI l8), hSim C (some .int) 0 0 10 55 [(0, vR C.1.1 l0), (1, vI l1), (2, vI l2), (3, vI l3), (4, vL l4), (6, vI l6), (7, vI l7), (8, vI l8)] [] 0 0 (m_X9_lives_L55 n l0 l1 l2 l3 l4 l6 l7 l8) := by
  obtain ⟨⟨hf, hlo⟩, ⟨hc1, hc2⟩, hf1, hl1⟩ := K_room K (by omega)
  have hcs : 0 ≤ C.2.2.2.2.1.cells ∧ 0 ≤ C.2.2.2.2.1.slots := ⟨Nat.zero_le _, Nat.zero_le _⟩
  intro n
  induction n with
  | zero => intros; exact s_none (fun _ => rfl)
  | succ n ih =>
    intro l0 l1 l2 l3 l4 l6 l7 l8 h1 h2 h3 h4 h6 h7 h8
    unfold m_X9_lives_L55
    refine s_iload (j := 7) (pc2 := 57) X dX9_lives_55 rfl rfl ?_
    refine s_iload_n (j := 1) (pc2 := 58) X dX9_lives_57 rfl rfl ?_
    refine s_icge (tgt := 114) X dX9_lives_58 (by decide) rfl h8 h1 ?_ ?_
    · refine s_aload_n (j := 0) (pc2 := 115) X dX9_lives_114 rfl rfl ?_
      refine s_lload (j := 4) (pc2 := 117) X dX9_lives_115 rfl rfl ?_
      refine s_putL (pc2 := 120) X dX9_lives_117 rfl fl_RX9_44 (Or.inl rfl) rfl h4 ?_
      refine s_iload_n (j := 3) (pc2 := 121) X dX9_lives_120 rfl rfl ?_
      refine s_ifne (tgt := 129) X dX9_lives_121 (by decide) rfl h3 ?_ ?_
      · refine s_iload (j := 6) (pc2 := 131) X dX9_lives_129 rfl rfl ?_
        refine s_sub (lv2 := []) [] rfl ?_
        exact z_X9_lives_L131 d hd K X l7 h7
      · refine s_iload (j := 5) (pc2 := 126) X dX9_lives_124 rfl rfl ?_
        refine s_goto (pc2 := 131) X dX9_lives_126 (by decide) ?_
        refine s_sub (lv2 := []) [] rfl ?_
        exact z_X9_lives_L131 d hd K X l6 h6
    · refine s_aload_n (j := 0) (pc2 := 62) X dX9_lives_61 rfl rfl ?_
      refine s_getR (pc2 := 65) X dX9_lives_62 rfl fl_RX9_75 rfl (fun v1 => ?_)
      refine s_aload_n (j := 0) (pc2 := 66) X dX9_lives_65 rfl rfl ?_
      refine s_getR (pc2 := 69) X dX9_lives_66 rfl fl_RX9_71 rfl (fun v2 => ?_)
      refine s_callVV (d2 := d - 1) (As := [vR C.1.1 v2]) (st := []) (pc2 := 72) X dX9_lives_69 rfl ml_RX9_231 im_X4_copy se_X4_copy kX4 rfl (c_X4_copy (d - 1) (by omega) C.1 C.2.2.1 v1 v2) hy_X4_copy rfl rfl hf hlo (st_room (Nat.le_of_ble_eq_true rfl)) hcs (fun _ => ?_)
      refine s_iconst (n := 0) (pc2 := 73) X dX9_lives_72 rfl ?_
      refine s_istore (pc2 := 75) X dX9_lives_73 rfl (by decide) rfl rfl cat1_I (inI_c 0 rfl) (fun w3 hw3 => ?_)
      refine s_sub (lv2 := [(0, vR C.1.1 l0), (1, vI l1), (2, vI l2), (3, vI l3), (4, vL l4), (6, vI l6), (7, vI l7), (8, vI l8), (9, vI w3)]) [1, 2, 3, 4, 5, 6, 7, 8, 0] rfl ?_
      exact z_X9_lives_L75 d hd K X (m_X9_lives_L55 n) ih 1000000000 l0 l1 l2 l3 l4 l6 l7 l8 w3 h1 h2 h3 h4 h6 h7 h8 hw3
set_option maxRecDepth 4000 in
set_option maxHeartbeats 20000000 in
theorem z_X9_lives (d : Nat) (hd : 4 ≤ d) {C : hCx} (K : hCtx C.1 C.2.2.1 d 0 0 "lives" C) (X : hOK C cX9_lives RX9 10 (some .int)) (l0 : Nat) (l1 : Int) (l2 : Int) (l3 : Int) (h1 : inI l1) (h2 : inI l2) (h3 : inI l3) : hSim C (some .int) 0 0 10 0 [(0, vR C.1.1 l0), (1, vI l1), (2, vI l2), (3, vI l3)] [] 0 0 (m_X9_lives l0 l1 l2 l3) := by
  obtain ⟨⟨hf, hlo⟩, ⟨hc1, hc2⟩, hf1, hl1⟩ := K_room K (by omega)
  have hcs : 0 ≤ C.2.2.2.2.1.cells ∧ 0 ≤ C.2.2.2.2.1.slots := ⟨Nat.zero_le _, Nat.zero_le _⟩
  unfold m_X9_lives
  refine s_aload_n (j := 0) (pc2 := 1) X dX9_lives_0 rfl rfl ?_
  refine s_callVZ (d2 := d - 1) (As := []) (st := []) (pc2 := 4) X dX9_lives_1 rfl ml_RX9_225 im_X9_hasTown se_X9_hasTown kX9 rfl (c_X9_hasTown (d - 1) (by omega) C.1 C.2.2.1 l0) hy_X9_hasTown rfl rfl hf hlo (st_room (Nat.le_of_ble_eq_true rfl)) hcs (fun v1 hv1 => ?_)
  refine s_ifeq (tgt := 38) X dX9_lives_4 (by decide) rfl hv1 ?_ ?_
  · refine s_sub (lv2 := []) [] rfl ?_
    exact z_X9_lives_L38 d hd K X
  · refine s_iload_n (j := 1) (pc2 := 8) X dX9_lives_7 rfl rfl ?_
    refine s_iconst (n := 1) (pc2 := 9) X dX9_lives_8 rfl ?_
    refine s_iclt (tgt := 38) X dX9_lives_9 (by decide) rfl h1 (inI_c 1 rfl) ?_ ?_
    · refine s_sub (lv2 := []) [] rfl ?_
      exact z_X9_lives_L38 d hd K X
    · refine s_iload_n (j := 1) (pc2 := 13) X dX9_lives_12 rfl rfl ?_
      refine s_bipush (n := 10) (pc2 := 15) X dX9_lives_13 rfl rfl ?_
      refine s_icgt (tgt := 38) X dX9_lives_15 (by decide) rfl h1 (inI_c 10 rfl) ?_ ?_
      · refine s_sub (lv2 := []) [] rfl ?_
        exact z_X9_lives_L38 d hd K X
      · refine s_iload_n (j := 2) (pc2 := 19) X dX9_lives_18 rfl rfl ?_
        refine s_iconst (n := 1) (pc2 := 20) X dX9_lives_19 rfl ?_
        refine s_iclt (tgt := 38) X dX9_lives_20 (by decide) rfl h2 (inI_c 1 rfl) ?_ ?_
        · refine s_sub (lv2 := []) [] rfl ?_
          exact z_X9_lives_L38 d hd K X
        · refine s_iload_n (j := 2) (pc2 := 24) X dX9_lives_23 rfl rfl ?_
          refine s_bipush (n := 60) (pc2 := 26) X dX9_lives_24 rfl rfl ?_
          refine s_icgt (tgt := 38) X dX9_lives_26 (by decide) rfl h2 (inI_c 60 rfl) ?_ ?_
          · refine s_sub (lv2 := []) [] rfl ?_
            exact z_X9_lives_L38 d hd K X
          · refine s_iload_n (j := 3) (pc2 := 30) X dX9_lives_29 rfl rfl ?_
            refine s_iflt (tgt := 38) X dX9_lives_30 (by decide) rfl h3 ?_ ?_
            · refine s_sub (lv2 := []) [] rfl ?_
              exact z_X9_lives_L38 d hd K X
            · refine s_iload_n (j := 3) (pc2 := 34) X dX9_lives_33 rfl rfl ?_
              refine s_iconst (n := 1) (pc2 := 35) X dX9_lives_34 rfl ?_
              refine s_icle (tgt := 40) X dX9_lives_35 (by decide) rfl h3 (inI_c 1 rfl) ?_ ?_
              · refine s_aload_n (j := 0) (pc2 := 41) X dX9_lives_40 rfl rfl ?_
                refine s_getL (pc2 := 44) X dX9_lives_41 rfl fl_RX9_44 rfl (fun v2 hv2 => ?_)
                refine s_lstore (pc2 := 46) X dX9_lives_44 rfl (by decide) rfl rfl cat1_I hv2 (fun w3 hw3 => ?_)
                refine s_iconst (n := 0) (pc2 := 47) X dX9_lives_46 rfl ?_
                refine s_istore (pc2 := 49) X dX9_lives_47 rfl (by decide) rfl rfl cat1_N (inI_c 0 rfl) (fun w4 hw4 => ?_)
                refine s_iconst (n := 0) (pc2 := 50) X dX9_lives_49 rfl ?_
                refine s_istore (pc2 := 52) X dX9_lives_50 rfl (by decide) rfl rfl cat1_I (inI_c 0 rfl) (fun w5 hw5 => ?_)
                refine s_iconst (n := 0) (pc2 := 53) X dX9_lives_52 rfl ?_
                refine s_istore (pc2 := 55) X dX9_lives_53 rfl (by decide) rfl rfl cat1_I (inI_c 0 rfl) (fun w6 hw6 => ?_)
                refine s_sub (lv2 := [(0, vR C.1.1 l0), (1, vI l1), (2, vI l2), (3, vI l3), (4, vL w3), (6, vI w4), (7, vI w5), (8, vI w6)]) [4, 5, 6, 7, 3, 2, 1, 0] rfl ?_
                exact z_X9_lives_L55 d hd K X 1000000000 l0 l1 l2 l3 w3 w4 w5 w6 h1 h2 h3 hw3 hw4 hw5 hw6
              · refine s_sub (lv2 := []) [] rfl ?_
                exact z_X9_lives_L38 d hd K X
theorem c_X9_lives (d : Nat) (hd : 4 ≤ d) (G : hG) (l : Launch) (l0 : Nat) (l1 : Int) (l2 : Int) (l3 : Int) (h1 : inI l1) (h2 : inI l2) (h3 : inI l3) : hMet G l yX9_lives cX9_lives 10 (some .int) d 0 0 [vR G.1 l0, vI l1, vI l2, vI l3] (m_X9_lives l0 l1 l2 l3) := by
  refine hMet.of (lv := [(0, vR G.1 l0), (1, vI l1), (2, vI l2), (3, vI l3)]) (by decide +kernel) (by simp [lg_sl, vR_cat, vI_cat, vL_cat, vS_cat2, vT_cat2]) (by simp [lv_args, vR_cat, vI_cat, vL_cat, vS_cat2, vT_cat2]) (fun C K X => ?_)
  obtain ⟨rfl, rfl, K⟩ := K
  exact z_X9_lives d hd ⟨rfl, rfl, K⟩ X l0 l1 l2 l3 h1 h2 h3
def m_X9_image_L9 : hM :=
  hret ((-1))
def m_X9_image (l0 : Nat) (l1 : Int) : hM :=
  hif (l1 < 0) (
m_X9_image_L9) (
hif (l1 < 4) (
hgR 9 l0 8 fun v1 =>
  haR 26 v1 l1 fun v2 =>
  hpZ 0 v2 1 1 <|
  hgR 9 l0 8 fun v3 =>
  haR 26 v3 l1 fun v4 =>
  hgR 0 v4 0 fun v5 =>
  hgR 9 l0 3 fun v6 =>
  hcallV 4 v5 (m_X4_copy v5 v6) fun _ =>
  hgR 9 l0 8 fun v7 =>
  haR 26 v7 l1 fun v8 =>
  hgI 9 l0 9 fun v9 =>
  hpI 0 v8 2 v9 <|
  hgR 9 l0 3 fun v10 =>
  hgI 4 v10 1 fun v11 =>
  hret v11) (
m_X9_image_L9))
set_option maxRecDepth 4000 in
theorem z_X9_image_L9 (d : Nat) (hd : 2 ≤ d) {C : hCx} (K : hCtx C.1 C.2.2.1 d 0 0 "image" C) (X : hOK C cX9_image RX9 2 (some .int)) : hSim C (some .int) 0 0 2 9 [] [] 0 0 (m_X9_image_L9) := by
  obtain ⟨⟨hf, hlo⟩, ⟨hc1, hc2⟩, hf1, hl1⟩ := K_room K (by omega)
  have hcs : 0 ≤ C.2.2.2.2.1.cells ∧ 0 ≤ C.2.2.2.2.1.slots := ⟨Nat.zero_le _, Nat.zero_le _⟩
  unfold m_X9_image_L9
  refine s_iconst (n := (-1)) (pc2 := 10) X dX9_image_9 rfl ?_
  exact s_iret X dX9_image_10 (inI_c (-1) rfl)
set_option maxRecDepth 4000 in
set_option maxHeartbeats 20000000 in
theorem z_X9_image (d : Nat) (hd : 2 ≤ d) {C : hCx} (K : hCtx C.1 C.2.2.1 d 0 0 "image" C) (X : hOK C cX9_image RX9 2 (some .int)) (l0 : Nat) (l1 : Int) (h1 : inI l1) : hSim C (some .int) 0 0 2 0 [(0, vR C.1.1 l0), (1, vI l1)] [] 0 0 (m_X9_image l0 l1) := by
  obtain ⟨⟨hf, hlo⟩, ⟨hc1, hc2⟩, hf1, hl1⟩ := K_room K (by omega)
  have hcs : 0 ≤ C.2.2.2.2.1.cells ∧ 0 ≤ C.2.2.2.2.1.slots := ⟨Nat.zero_le _, Nat.zero_le _⟩
  unfold m_X9_image
  refine s_iload_n (j := 1) (pc2 := 1) X dX9_image_0 rfl rfl ?_
  refine s_iflt (tgt := 9) X dX9_image_1 (by decide) rfl h1 ?_ ?_
  · refine s_sub (lv2 := []) [] rfl ?_
    exact z_X9_image_L9 d hd K X
  · refine s_iload_n (j := 1) (pc2 := 5) X dX9_image_4 rfl rfl ?_
    refine s_iconst (n := 4) (pc2 := 6) X dX9_image_5 rfl ?_
    refine s_iclt (tgt := 11) X dX9_image_6 (by decide) rfl h1 (inI_c 4 rfl) ?_ ?_
    · refine s_aload_n (j := 0) (pc2 := 12) X dX9_image_11 rfl rfl ?_
      refine s_getR (pc2 := 15) X dX9_image_12 rfl fl_RX9_40 rfl (fun v1 => ?_)
      refine s_iload_n (j := 1) (pc2 := 16) X dX9_image_15 rfl rfl ?_
      refine s_aald26 (pc2 := 17) X dX9_image_16 rfl (fun v2 => ?_)
      refine s_iconst (n := 1) (pc2 := 18) X dX9_image_17 rfl ?_
      refine s_putZ (pc2 := 21) X dX9_image_18 rfl fl_RX9_316 (Or.inl rfl) rfl ?_
      refine s_aload_n (j := 0) (pc2 := 22) X dX9_image_21 rfl rfl ?_
      refine s_getR (pc2 := 25) X dX9_image_22 rfl fl_RX9_40 rfl (fun v3 => ?_)
      refine s_iload_n (j := 1) (pc2 := 26) X dX9_image_25 rfl rfl ?_
      refine s_aald26 (pc2 := 27) X dX9_image_26 rfl (fun v4 => ?_)
      refine s_getR (pc2 := 30) X dX9_image_27 rfl fl_RX9_320 rfl (fun v5 => ?_)
      refine s_aload_n (j := 0) (pc2 := 31) X dX9_image_30 rfl rfl ?_
      refine s_getR (pc2 := 34) X dX9_image_31 rfl fl_RX9_71 rfl (fun v6 => ?_)
      refine s_callVV (d2 := d - 1) (As := [vR C.1.1 v6]) (st := []) (pc2 := 37) X dX9_image_34 rfl ml_RX9_231 im_X4_copy se_X4_copy kX4 rfl (c_X4_copy (d - 1) (by omega) C.1 C.2.2.1 v5 v6) hy_X4_copy rfl rfl hf hlo (st_room (Nat.le_of_ble_eq_true rfl)) hcs (fun _ => ?_)
      refine s_aload_n (j := 0) (pc2 := 38) X dX9_image_37 rfl rfl ?_
      refine s_getR (pc2 := 41) X dX9_image_38 rfl fl_RX9_40 rfl (fun v7 => ?_)
      refine s_iload_n (j := 1) (pc2 := 42) X dX9_image_41 rfl rfl ?_
      refine s_aald26 (pc2 := 43) X dX9_image_42 rfl (fun v8 => ?_)
      refine s_aload_n (j := 0) (pc2 := 44) X dX9_image_43 rfl rfl ?_
      refine s_getL (pc2 := 47) X dX9_image_44 rfl fl_RX9_44 rfl (fun v9 hv9 => ?_)
      refine s_putL (pc2 := 50) X dX9_image_47 rfl fl_RX9_323 (Or.inl rfl) rfl hv9 ?_
      refine s_aload_n (j := 0) (pc2 := 51) X dX9_image_50 rfl rfl ?_
      refine s_getR (pc2 := 54) X dX9_image_51 rfl fl_RX9_71 rfl (fun v10 => ?_)
      refine s_getI (pc2 := 57) X dX9_image_54 rfl fl_RX9_191 rfl (fun v11 hv11 => ?_)
      exact s_iret X dX9_image_57 hv11
    · refine s_sub (lv2 := []) [] rfl ?_
      exact z_X9_image_L9 d hd K X
theorem c_X9_image (d : Nat) (hd : 2 ≤ d) (G : hG) (l : Launch) (l0 : Nat) (l1 : Int) (h1 : inI l1) : hMet G l yX9_image cX9_image 2 (some .int) d 0 0 [vR G.1 l0, vI l1] (m_X9_image l0 l1) := by
  refine hMet.of (lv := [(0, vR G.1 l0), (1, vI l1)]) (by decide +kernel) (by simp [lg_sl, vR_cat, vI_cat, vL_cat, vS_cat2, vT_cat2]) (by simp [lv_args, vR_cat, vI_cat, vL_cat, vS_cat2, vT_cat2]) (fun C K X => ?_)
  obtain ⟨rfl, rfl, K⟩ := K
  exact z_X9_image d hd ⟨rfl, rfl, K⟩ X l0 l1 h1
def m_X9_back_L21 : hM :=
  hret ((-1))
def m_X9_back (l0 : Nat) (l1 : Int) : hM :=
  hif (l1 < 0) (
m_X9_back_L21) (
hif (l1 ≥ 4) (
m_X9_back_L21) (
hgR 9 l0 8 fun v1 =>
  haR 26 v1 l1 fun v2 =>
  hgI 0 v2 1 fun v3 =>
  hif (v3 ≠ 0) (
hgR 9 l0 3 fun v4 =>
  hgR 9 l0 8 fun v5 =>
  haR 26 v5 l1 fun v6 =>
  hgR 0 v6 0 fun v7 =>
  hcallV 4 v4 (m_X4_copy v4 v7) fun _ =>
  hgR 9 l0 8 fun v8 =>
  haR 26 v8 l1 fun v9 =>
  hgI 0 v9 2 fun v10 =>
  hpI 9 l0 9 v10 <|
  hcallV 9 l0 (m_X9_forgetActs l0) fun _ =>
  hgR 9 l0 3 fun v11 =>
  hgI 4 v11 1 fun v12 =>
  hret v12) (
m_X9_back_L21)))
set_option maxRecDepth 4000 in
theorem z_X9_back_L21 (d : Nat) (hd : 2 ≤ d) {C : hCx} (K : hCtx C.1 C.2.2.1 d 0 0 "back" C) (X : hOK C cX9_back RX9 2 (some .int)) : hSim C (some .int) 0 0 2 21 [] [] 0 0 (m_X9_back_L21) := by
  obtain ⟨⟨hf, hlo⟩, ⟨hc1, hc2⟩, hf1, hl1⟩ := K_room K (by omega)
  have hcs : 0 ≤ C.2.2.2.2.1.cells ∧ 0 ≤ C.2.2.2.2.1.slots := ⟨Nat.zero_le _, Nat.zero_le _⟩
  unfold m_X9_back_L21
  refine s_iconst (n := (-1)) (pc2 := 22) X dX9_back_21 rfl ?_
  exact s_iret X dX9_back_22 (inI_c (-1) rfl)
set_option maxRecDepth 4000 in
set_option maxHeartbeats 20000000 in
theorem z_X9_back (d : Nat) (hd : 2 ≤ d) {C : hCx} (K : hCtx C.1 C.2.2.1 d 0 0 "back" C) (X : hOK C cX9_back RX9 2 (some .int)) (l0 : Nat) (l1 : Int) (h1 : inI l1) : hSim C (some .int) 0 0 2 0 [(0, vR C.1.1 l0), (1, vI l1)] [] 0 0 (m_X9_back l0 l1) := by
  obtain ⟨⟨hf, hlo⟩, ⟨hc1, hc2⟩, hf1, hl1⟩ := K_room K (by omega)
  have hcs : 0 ≤ C.2.2.2.2.1.cells ∧ 0 ≤ C.2.2.2.2.1.slots := ⟨Nat.zero_le _, Nat.zero_le _⟩
  unfold m_X9_back
  refine s_iload_n (j := 1) (pc2 := 1) X dX9_back_0 rfl rfl ?_
  refine s_iflt (tgt := 21) X dX9_back_1 (by decide) rfl h1 ?_ ?_
  · refine s_sub (lv2 := []) [] rfl ?_
    exact z_X9_back_L21 d hd K X
  · refine s_iload_n (j := 1) (pc2 := 5) X dX9_back_4 rfl rfl ?_
    refine s_iconst (n := 4) (pc2 := 6) X dX9_back_5 rfl ?_
    refine s_icge (tgt := 21) X dX9_back_6 (by decide) rfl h1 (inI_c 4 rfl) ?_ ?_
    · refine s_sub (lv2 := []) [] rfl ?_
      exact z_X9_back_L21 d hd K X
    · refine s_aload_n (j := 0) (pc2 := 10) X dX9_back_9 rfl rfl ?_
      refine s_getR (pc2 := 13) X dX9_back_10 rfl fl_RX9_40 rfl (fun v1 => ?_)
      refine s_iload_n (j := 1) (pc2 := 14) X dX9_back_13 rfl rfl ?_
      refine s_aald26 (pc2 := 15) X dX9_back_14 rfl (fun v2 => ?_)
      refine s_getZ (pc2 := 18) X dX9_back_15 rfl fl_RX9_316 rfl (fun v3 hv3 => ?_)
      refine s_ifne (tgt := 23) X dX9_back_18 (by decide) rfl hv3 ?_ ?_
      · refine s_aload_n (j := 0) (pc2 := 24) X dX9_back_23 rfl rfl ?_
        refine s_getR (pc2 := 27) X dX9_back_24 rfl fl_RX9_71 rfl (fun v4 => ?_)
        refine s_aload_n (j := 0) (pc2 := 28) X dX9_back_27 rfl rfl ?_
        refine s_getR (pc2 := 31) X dX9_back_28 rfl fl_RX9_40 rfl (fun v5 => ?_)
        refine s_iload_n (j := 1) (pc2 := 32) X dX9_back_31 rfl rfl ?_
        refine s_aald26 (pc2 := 33) X dX9_back_32 rfl (fun v6 => ?_)
        refine s_getR (pc2 := 36) X dX9_back_33 rfl fl_RX9_320 rfl (fun v7 => ?_)
        refine s_callVV (d2 := d - 1) (As := [vR C.1.1 v7]) (st := []) (pc2 := 39) X dX9_back_36 rfl ml_RX9_231 im_X4_copy se_X4_copy kX4 rfl (c_X4_copy (d - 1) (by omega) C.1 C.2.2.1 v4 v7) hy_X4_copy rfl rfl hf hlo (st_room (Nat.le_of_ble_eq_true rfl)) hcs (fun _ => ?_)
        refine s_aload_n (j := 0) (pc2 := 40) X dX9_back_39 rfl rfl ?_
        refine s_aload_n (j := 0) (pc2 := 41) X dX9_back_40 rfl rfl ?_
        refine s_getR (pc2 := 44) X dX9_back_41 rfl fl_RX9_40 rfl (fun v8 => ?_)
        refine s_iload_n (j := 1) (pc2 := 45) X dX9_back_44 rfl rfl ?_
        refine s_aald26 (pc2 := 46) X dX9_back_45 rfl (fun v9 => ?_)
        refine s_getL (pc2 := 49) X dX9_back_46 rfl fl_RX9_323 rfl (fun v10 hv10 => ?_)
        refine s_putL (pc2 := 52) X dX9_back_49 rfl fl_RX9_44 (Or.inl rfl) rfl hv10 ?_
        refine s_aload_n (j := 0) (pc2 := 53) X dX9_back_52 rfl rfl ?_
        refine s_callVV (d2 := d - 1) (As := []) (st := []) (pc2 := 56) X dX9_back_53 rfl ml_RX9_124 im_X9_forgetActs se_X9_forgetActs kX9 rfl (c_X9_forgetActs (d - 1) (by omega) C.1 C.2.2.1 l0) hy_X9_forgetActs rfl rfl hf hlo (st_room (Nat.le_of_ble_eq_true rfl)) hcs (fun _ => ?_)
        refine s_aload_n (j := 0) (pc2 := 57) X dX9_back_56 rfl rfl ?_
        refine s_getR (pc2 := 60) X dX9_back_57 rfl fl_RX9_71 rfl (fun v11 => ?_)
        refine s_getI (pc2 := 63) X dX9_back_60 rfl fl_RX9_191 rfl (fun v12 hv12 => ?_)
        exact s_iret X dX9_back_63 hv12
      · refine s_sub (lv2 := []) [] rfl ?_
        exact z_X9_back_L21 d hd K X
theorem c_X9_back (d : Nat) (hd : 2 ≤ d) (G : hG) (l : Launch) (l0 : Nat) (l1 : Int) (h1 : inI l1) : hMet G l yX9_back cX9_back 2 (some .int) d 0 0 [vR G.1 l0, vI l1] (m_X9_back l0 l1) := by
  refine hMet.of (lv := [(0, vR G.1 l0), (1, vI l1)]) (by decide +kernel) (by simp [lg_sl, vR_cat, vI_cat, vL_cat, vS_cat2, vT_cat2]) (by simp [lv_args, vR_cat, vI_cat, vL_cat, vS_cat2, vT_cat2]) (fun C K X => ?_)
  obtain ⟨rfl, rfl, K⟩ := K
  exact z_X9_back d hd ⟨rfl, rfl, K⟩ X l0 l1 h1
