/-! the reference's ways that one came -/
def VS (u : hS) (L W : Nat → Int) (z : cZ) : hS := hput (hput (hput u 238 L) 234 W) 220 (sup (sup (sup (hV u 220) 34 z.1) 35 (z.2.1 : Int)) 36 z.2.2)
theorem VS_238 (u : hS) (L W : Nat → Int) (z : cZ) : hV (VS u L W z) 238 = L := by
  unfold VS
  rw [hV_put_n (by decide), hV_put_n (by decide), hV_put_s]
theorem VS_234 (u : hS) (L W : Nat → Int) (z : cZ) : hV (VS u L W z) 234 = W := by
  unfold VS
  rw [hV_put_n (by decide), hV_put_s]
theorem VS_34 (u : hS) (L W : Nat → Int) (z : cZ) : hV (VS u L W z) 220 34 = z.1 := by
  unfold VS
  rw [hV_put_s, sup_n (by decide), sup_n (by decide), sup_s]
theorem VS_35 (u : hS) (L W : Nat → Int) (z : cZ) : hV (VS u L W z) 220 35 = (z.2.1 : Int) := by
  unfold VS
  rw [hV_put_s, sup_n (by decide), sup_s]
theorem VS_36 (u : hS) (L W : Nat → Int) (z : cZ) : hV (VS u L W z) 220 36 = z.2.2 := by
  unfold VS
  rw [hV_put_s, sup_s]
theorem VS_n {u : hS} {L W : Nat → Int} {z : cZ} {a : Nat} (h : a ≠ 238) (h2 : a ≠ 234) (h3 : a ≠ 220) : hV (VS u L W z) a = hV u a := by
  unfold VS
  rw [hV_put_n h3, hV_put_n h2, hV_put_n h]
theorem VS_shp {u : hS} (L W : Nat → Int) (z : cZ) (hs : shp u) : shp (VS u L W z) := hs
theorem VS_L (u : hS) (L W : Nat → Int) (z : cZ) (i : Nat) (x : Int) : hsetV (VS u L W z) 238 i x = VS u (sup L i x) W z := by
  rw [setV_put1, VS_238]
  unfold VS
  rw [put_comm (show 220 ≠ 238 by decide), put_comm (show 234 ≠ 238 by decide), hput_put]
theorem VS_W (u : hS) (L W : Nat → Int) (z : cZ) (i : Nat) (x : Int) : hsetV (VS u L W z) 234 i x = VS u L (sup W i x) z := by
  rw [setV_put1, VS_234]
  unfold VS
  rw [put_comm (show 220 ≠ 234 by decide), hput_put]
theorem VS_z1 (u : hS) (L W : Nat → Int) (z : cZ) (a : Int) : hsetV (VS u L W z) 220 34 a = VS u L W (a, z.2.1, z.2.2) := by
  unfold VS
  rw [setV_put, sup_comm (show 36 ≠ 34 by decide), sup_comm (show 35 ≠ 34 by decide), sup_sup]
theorem VS_z2 (u : hS) (L W : Nat → Int) (z : cZ) (a : Nat) : hsetV (VS u L W z) 220 35 (a : Int) = VS u L W (z.1, a, z.2.2) := by
  unfold VS
  rw [setV_put, sup_comm (show 36 ≠ 35 by decide), sup_sup]
theorem VS_z3 (u : hS) (L W : Nat → Int) (z : cZ) (a : Int) : hsetV (VS u L W z) 220 36 a = VS u L W (z.1, z.2.1, a) := by
  unfold VS
  rw [setV_put, sup_sup]
/-- what is known while they are counted -/
def cmC (u : hS) (S : Nat → Int) (p B n : Nat) (fin : Int) : Prop := shp u ∧ hV u 230 = S ∧ S 2 = (B : Int) ∧ B ≤ 9 ∧ p < 4 ∧ S (10 + 3 * p) = fin ∧ (1 ≤ n ∧ n ≤ 8)
def lok9 (B : Nat) (L : Nat → Int) : Prop := ∀ b, b < B → 0 ≤ L b ∧ L b ≤ 9
theorem lok9.ls {B : Nat} {L : Nat → Int} (h : lok9 B L) {i : Nat} (o : 0 < L i) : lok9 B (lsA L i) := fun b hb => by
  have y := h b hb
  by_cases x : b = i
  · subst x
    rw [lsA_s]
    omega
  · rw [lsA_n x]
    exact y
theorem y_ntL {u : hS} {S : Nat → Int} {p B n : Nat} {fin : Int} (c : cmC u S p B n fin) {q : Int} {L : Nat → Int} (hL : lok9 B L) (W : Nat → Int) (z : cZ) : ∀ m fl i : Nat, m < fl → i + m = B → m_X10_nextToGo_L4 fl 220 q i (VS u L W z) = some ((nxB (opQ S q L) m i : Int), VS u L W z) := by
  obtain ⟨hs, hS, hB, B9, p4, hf, hn⟩ := c
  have h1 := VS_shp L W z hs
  have q230 : hV (VS u L W z) 230 = S := by rw [VS_n (by decide) (by decide) (by decide), hS]
  intro m
  induction m with
  | zero =>
    intro fl i hf hi
    obtain ⟨fl, rfl⟩ : ∃ x, fl = x + 1 := ⟨fl - 1, by omega⟩
    simp only [m_X10_nextToGo_L4, m_X10_nextToGo_L38, hgI_k, hgR_k, hpI_k, hpR_k, hpZ_k, haI_k, haR_k, hsI_k, hsZ_k, hlen_k, hlet_p, hret_p, hretZ_0, hretZ_1, hif_p, okk_setV, okk_setF, nV, nF, fV, vF, haI_2, kk_220 h1, rf_220_20 h1, kk_230 h1, ln_230 h1, lt_c 2 160 rfl, q230, hB]
    rw [if_pos (by omega)]
    rfl
  | succ m ih =>
    intro fl i hf hi
    obtain ⟨fl, rfl⟩ : ∃ x, fl = x + 1 := ⟨fl - 1, by omega⟩
    have i9 : i < 9 := by omega
    have l := hL i (by omega)
    have ov := y_over h1 i9 q
    rw [q230] at ov
    simp only [m_X10_nextToGo_L4, m_X10_nextToGo_L38, m_X10_nextToGo_L32, hgI_k, hgR_k, hpI_k, hpR_k, hpZ_k, haI_k, haR_k, hsI_k, hsZ_k, hlen_k, hlet_p, hret_p, hretZ_0, hretZ_1, hif_p, okk_setV, okk_setF, nV, nF, fV, vF, hcallV_b, hbind_p, haI_n, haI_2, kk_220 h1, rf_220_20 h1, rf_220_33 h1, kk_230 h1, ln_230 h1, kk_238 h1, ln_238 h1, lt_c 2 160 rfl, q230, hB, i9, VS_238, ov, ih fl (i + 1) (by omega) (by omega), ix_s (show i < 1000000 by omega)]
    rw [if_neg (by omega)]
    show _ = some (((if opQ S q L i = true then i else nxB (opQ S q L) m (i + 1) : Nat) : Int), VS u L W z)
    by_cases y : L i = 0
    · rw [if_pos y, if_neg (fun x => by
        have := (of_decide_eq_true x).2
        omega)]
    · rw [if_neg y]
      by_cases x : qEnd S (94 + 2 * i) q ≥ 0
      · rw [if_pos x, if_pos (show opQ S q L i = true from decide_eq_true ⟨x, by omega⟩)]
      · rw [if_neg x, if_neg (fun y => x (of_decide_eq_true y).1)]
theorem y_next {u : hS} {S : Nat → Int} {p B n : Nat} {fin : Int} (c : cmC u S p B n fin) {q : Int} {L : Nat → Int} (hL : lok9 B L) (W : Nat → Int) (z : cZ) {i m : Nat} (im : i + m = B) {w : Int} (hw : w = (i : Int) - 1) : m_X10_nextToGo 220 q w (VS u L W z) = some ((nxB (opQ S q L) m i : Int), VS u L W z) := by
  have B9 := c.2.2.2.1
  have e : True → w32 (w + 1) = (i : Int) := by
    intro _
    rw [hw, w32_id ⟨by omega, by omega⟩]
    omega
  simp only [m_X10_nextToGo, hlet_p, e trivial]
  exact y_ntL c hL W z m 1000000000 i (by omega) im
/-- what is done once a crossing is chosen -/
def tlC (K : Nat → Int → Int → Int → Int → hM) (p n q k : Int) : hM :=
  hif (k ≥ ((w32 (n - 1)))) (
hcallV 10 220 (m_X10_personOf 220 p 0) fun v17 =>
  hif (q ≠ v17) (
K 220 p n q k) (
hgI 10 220 34 fun v18 =>
  hif (v18 ≠ 0) (
m_X10_findsRows_L205 K 220 p n q k) (
hgR 10 220 26 fun v19 =>
  haI 20 v19 k fun v20 =>
  hpI 10 220 36 v20 <|
  m_X10_findsRows_L205 K 220 p n q k))) (
hlet (w32 (k + 1)) fun (w21 : Int) =>
  hgR 10 220 26 fun v22 =>
  hsI 20 v22 w21 ((-1)) <|
  K 220 p n q w21)
theorem y_upC {u : hS} {S : Nat → Int} {p B n : Nat} {fin : Int} (c : cmC u S p B n fin) {q : Int} {L W : Nat → Int} {z : cZ} (hL : lok9 B L) {k i m : Nat} (hk : k < n) (im : i + m = B) (hw : W k = (i : Int) - 1) (no : nxB (opQ S q L) m i = B) (K : Nat → Int → Int → Int → Int → hM) : m_X10_findsRows_L77 K 220 p n q k (VS u L W z) = K 220 p n q ((k : Int) - 1) (VS u L (sup (sup W k (B : Int)) k (-1)) z) := by
  have nt := y_next c (q := q) hL W z im hw
  rw [no] at nt
  obtain ⟨hs, hS, hB, B9, p4, hf, hn⟩ := c
  have k8 : k < 8 := by omega
  have h1 := VS_shp L W z hs
  have h2 := VS_shp L (sup W k (B : Int)) z hs
  have q230 : hV (VS u L (sup W k (B : Int)) z) 230 = S := by rw [VS_n (by decide) (by decide) (by decide), hS]
  have w1 : True → w32 ((k : Int) + -1) = (k : Int) - 1 := by
    intro _
    rw [w32_id ⟨by omega, by omega⟩]
    omega
  simp only [m_X10_findsRows_L77, hgI_k, hgR_k, hpI_k, hpR_k, hpZ_k, haI_k, haR_k, hsI_k, hsZ_k, hlen_k, hlet_p, hret_p, hretZ_0, hretZ_1, hif_p, okk_setV, okk_setF, nV, nF, fV, vF, hcallV_b, hbind_p, haI_n, haI_2, hsI_n, kk_220 h1, rf_220_26 h1, kk_234 h1, ln_234 h1, k8, VS_234, nt, VS_W, kk_220 h2, rf_220_26 h2, kk_234 h2, ln_234 h2, rf_220_20 h2, kk_230 h2, ln_230 h2, lt_c 2 160 rfl, q230, hB, sup_s, w1 trivial]
  rw [if_neg (fun y => y rfl)]
theorem y_dnC {u : hS} {S : Nat → Int} {p B n : Nat} {fin : Int} (c : cmC u S p B n fin) {q : Int} {L W : Nat → Int} {z : cZ} (hL : lok9 B L) {k i m x : Nat} (hk : k < n) (im : i + m = B) (hw : W k = (i : Int) - 1) (hx : nxB (opQ S q L) m i = x) (xB : x < B) (K : Nat → Int → Int → Int → Int → hM) : m_X10_findsRows_L77 K 220 p n q k (VS u L W z) = tlC K p n (qEnd S (94 + 2 * x) q) k (VS u (lsA L x) (sup W k (x : Int)) z) := by
  have nt := y_next c (q := q) hL W z im hw
  rw [hx] at nt
  obtain ⟨hs, hS, hB, B9, p4, hf, hn⟩ := c
  have k8 : k < 8 := by omega
  have x9 : x < 9 := by omega
  have lx := hL x xB
  have h1 := VS_shp L W z hs
  have h2 := VS_shp L (sup W k (x : Int)) z hs
  have h3 := VS_shp (lsA L x) (sup W k (x : Int)) z hs
  have q230 : hV (VS u L (sup W k (x : Int)) z) 230 = S := by rw [VS_n (by decide) (by decide) (by decide), hS]
  have ov := y_over h3 x9 q
  rw [VS_n (by decide) (by decide) (by decide), hS] at ov
  have w1 : w32 (L x - 1) = L x - 1 := w32_id ⟨by omega, by omega⟩
  have e1 : sup L x (L x - 1) = lsA L x := rfl
  simp only [m_X10_findsRows_L77, hlet_p, hif_p, hgR_k, hgI_k, hcallV_b, hbind_p, haI_n, haI_2, hsI_n, kk_220 h1, rf_220_26 h1, kk_234 h1, ln_234 h1, k8, VS_234, nt, VS_W, kk_220 h2, rf_220_26 h2, kk_234 h2, ln_234 h2, rf_220_20 h2, kk_230 h2, ln_230 h2, lt_c 2 160 rfl, q230, hB, sup_s, rf_220_33 h2, kk_238 h2, ln_238 h2, x9, VS_238, w1, VS_L, e1, kk_220 h3, rf_220_26 h3, kk_234 h3, ln_234 h3, ov]
  rw [if_pos (by omega)]
  unfold tlC
  simp only [hlet_p, hif_p, hgR_k, hgI_k, hcallV_b, kk_220 h3, rf_220_26 h3]
theorem y_hdC {u : hS} {S : Nat → Int} {p B n : Nat} {fin : Int} (c : cmC u S p B n fin) {q : Int} {L W : Nat → Int} {z : cZ} {k nn x : Nat} (hk : k < n) (xB : x < B) (lx : 0 < L x ∧ L x ≤ 9) (q0 : 0 ≤ qEnd S (94 + 2 * x) q) (hw : W k = (x : Int)) : m_X10_findsRows_L33 (nn + 1) 220 p n (qEnd S (94 + 2 * x) q) k (VS u (lsA L x) W z) = m_X10_findsRows_L77 (m_X10_findsRows_L33 nn) 220 p n q k (VS u L W z) := by
  obtain ⟨hs, hS, hB, B9, p4, hf, hn⟩ := c
  have k8 : k < 8 := by omega
  have x9 : x < 9 := by omega
  have h1 := VS_shp (lsA L x) W z hs
  have ov := y_over h1 x9 (qEnd S (94 + 2 * x) q)
  rw [VS_n (by decide) (by decide) (by decide), hS, qEnd_back rfl q0] at ov
  have w3 : w32 (L x - 1 + 1) = L x := by
    rw [w32_id ⟨by omega, by omega⟩]
    omega
  have e2 : sup (lsA L x) x (L x) = L := by
    unfold lsA
    rw [sup_sup, sup_self]
  have e3 : lsA L x x = L x - 1 := sup_s
  simp only [m_X10_findsRows_L33, hgI_k, hgR_k, hpI_k, hpR_k, hpZ_k, haI_k, haR_k, hsI_k, hsZ_k, hlen_k, hlet_p, hret_p, hretZ_0, hretZ_1, hif_p, okk_setV, okk_setF, nV, nF, fV, vF, hcallV_b, hbind_p, haI_n, hsI_n, kk_220 h1, rf_220_26 h1, rf_220_33 h1, kk_234 h1, ln_234 h1, kk_238 h1, ln_238 h1, k8, x9, VS_234, VS_238, hw, ov, e3, w3, VS_L, e2]
  rw [if_neg (by omega), if_neg (by omega)]
theorem y_hd0 {u : hS} (hs : shp u) {p n k nn : Nat} {q : Int} {L W : Nat → Int} {z : cZ} (k8 : k < 8) (h : W k < 0) : m_X10_findsRows_L33 (nn + 1) 220 p n q k (VS u L W z) = m_X10_findsRows_L77 (m_X10_findsRows_L33 nn) 220 p n q k (VS u L W z) := by
  have h1 := VS_shp L W z hs
  simp only [m_X10_findsRows_L33, hgI_k, hgR_k, hpI_k, hpR_k, hpZ_k, haI_k, haR_k, hsI_k, hsZ_k, hlen_k, hlet_p, hret_p, hretZ_0, hretZ_1, hif_p, okk_setV, okk_setF, nV, nF, fV, vF, haI_n, kk_220 h1, rf_220_26 h1, kk_234 h1, ln_234 h1, k8, VS_234]
  rw [if_neg (by omega), if_pos h]
