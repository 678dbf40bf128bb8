/-! rows that agree where they are used -/
def eqS (S S' : Nat → Int) : Prop := ∀ j, j < 160 → S' j = S j
theorem RepS.cg {u : hS} {s t : Nat} {S S' : Nat → Int} (h : RepS u s t S) (ws : WS S) (e : eqS S S') : RepS u s t S' := by
  obtain ⟨w0, w1, w2, w3, w4, w5, w6, w7⟩ := ws
  have e0 := e 0 (by omega)
  have e1 := e 1 (by omega)
  have e2 := e 2 (by omega)
  have e3 := e 3 (by omega)
  have e4 := e 4 (by omega)
  have e5 := e 5 (by omega)
  have e6 := e 6 (by omega)
  have e7 := e 7 (by omega)
  exact ⟨h.ha, h.ht, h.to, h.v0.trans e0.symm, h.v1.trans e1.symm, h.v2.trans e2.symm, h.v3.trans e3.symm, h.v4.trans e4.symm, h.v5.trans e5.symm, h.v6.trans e6.symm, h.v7.trans e7.symm, fun i k => (h.at i (by omega)).trans (e (10 + 3 * i) (by omega)).symm, fun i k => (h.home i (by omega)).trans (e (11 + 3 * i) (by omega)).symm, fun i k => (h.paid i (by omega)).trans (e (12 + 3 * i) (by omega)).symm, fun i j k l => (h.cro i j (by omega) (by omega)).trans (e (22 + 9 * i + j) (by omega)).symm, fun i j k l => (h.sin i j (by omega) (by omega)).trans (e (58 + 9 * i + j) (by omega)).symm, fun i k => (h.br0 i (by omega)).trans (e (94 + 2 * i) (by omega)).symm, fun i k => (h.br1 i (by omega)).trans (e (94 + 2 * i + 1) (by omega)).symm, fun i k => (h.fe0 i (by omega)).trans (e (112 + 2 * i) (by omega)).symm, fun i k => (h.fe1 i (by omega)).trans (e (112 + 2 * i + 1) (by omega)).symm, fun i k => (h.fr0 i (by omega)).trans (e (120 + 2 * i) (by omega)).symm, fun i k => (h.fr1 i (by omega)).trans (e (121 + 2 * i) (by omega)).symm, fun i k => (h.wa0 i (by omega)).trans (e (128 + 4 * i) (by omega)).symm, fun i k => (h.wa1 i (by omega)).trans (e (129 + 4 * i) (by omega)).symm, fun i k => (h.wa2 i (by omega)).trans (e (130 + 4 * i) (by omega)).symm, fun i k => (h.wa3 i (by omega)).trans (e (131 + 4 * i) (by omega)).symm⟩
theorem WS.cg {S S' : Nat → Int} (ws : WS S) (e : eqS S S') : WS S' := by
  unfold WS
  rw [e 0 (by omega), e 1 (by omega), e 2 (by omega), e 3 (by omega), e 4 (by omega), e 5 (by omega), e 6 (by omega), e 7 (by omega)]
  exact ws
theorem WV.cg {S S' : Nat → Int} (ws : WS S) (wv : WV S) (e : eqS S S') : WV S' := by
  obtain ⟨v1, v2, v3, v4, v5⟩ := wv
  obtain ⟨w0, w1, w2, w3, w4, w5, w6, w7⟩ := ws
  have e2 := e 2 (by omega)
  have e3 := e 3 (by omega)
  have e4 := e 4 (by omega)
  have e5 := e 5 (by omega)
  refine ⟨fun b hb => ?_, fun b hb => ?_, fun q hq => ?_, fun q b hq hb => ?_, fun k hk => ?_⟩
  · rw [e (94 + 2 * b) (by omega), e (94 + 2 * b + 1) (by omega), e 0 (by omega)]
    exact v1 b (by omega)
  · rw [e (112 + 2 * b) (by omega), e (112 + 2 * b + 1) (by omega), e 0 (by omega)]
    exact v2 b (by omega)
  · rw [e (10 + 3 * q) (by omega), e (11 + 3 * q) (by omega), e (12 + 3 * q) (by omega), e 0 (by omega), e 6 (by omega)]
    exact v3 q (by omega)
  · rw [e (58 + 9 * q + b) (by omega), e (22 + 9 * q + b) (by omega), e 1 (by omega)]
    exact v4 q b (by omega) (by omega)
  · rw [e (128 + 4 * k) (by omega), e (129 + 4 * k) (by omega), e (130 + 4 * k) (by omega), e (131 + 4 * k) (by omega), e 4 (by omega), e 0 (by omega)]
    exact v5 k (by omega)
theorem twn_cg {S S' : Nat → Int} (e : eqS S S') : twn S' = twn S := by
  funext j
  unfold twn
  by_cases h1 : j = 0 ∨ j = 2 ∨ 94 ≤ j ∧ j < 112
  · rw [if_pos h1, if_pos h1, e j (by omega)]
  · rw [if_neg h1, if_neg h1]
theorem RepF.cg {u : hS} {s t : Nat} {S S' : Nat → Int} (h : RepF u s t S) (e : eqS S S') : RepF u s t S' := ⟨h.1.cg h.2.2.2.1 e, h.2.1, by rw [twn_cg e]; exact h.2.2.1, h.2.2.2.1.cg e, h.2.2.2.2.cg h.2.2.2.1 e⟩
/-! images -/
def iS (G : Nat → Int) (k : Nat) : Nat → Int := fun j => G (160 * k + j)
def imgR (u : hS) (k : Nat) : Prop := hV u (196 + 6 * k) 1 = hV u 242 k ∧ (hV u 242 k = 0 ∨ hV u 242 k = 1) ∧ (hV u 242 k = 1 → hV u (196 + 6 * k) 2 = hV u 241 k ∧ (0 ≤ hV u 241 k ∧ hV u 241 k < 2147483648) ∧ ∃ t, RepF u (197 + 6 * k) t (iS (hV u 240) k))
def RepI (u : hS) : Prop := ∀ k, k < 4 → imgR u k
theorem kk_img {u : hS} (hs : shp u) : ∀ k, k < 4 → okk u (196 + 6 * k) 0 := by
  intro k hk
  have h : k = 0 ∨ k = 1 ∨ k = 2 ∨ k = 3 := by omega
  rcases h with rfl | rfl | rfl | rfl
  · exact kk_196 hs
  · exact kk_202 hs
  · exact kk_208 hs
  · exact kk_214 hs
theorem rf_imgs {u : hS} (hs : shp u) : ∀ k, k < 4 → hF u 6 k = 196 + 6 * k := by
  intro k hk
  have h : k = 0 ∨ k = 1 ∨ k = 2 ∨ k = 3 := by omega
  rcases h with rfl | rfl | rfl | rfl
  · exact rf_6_0 hs
  · exact rf_6_1 hs
  · exact rf_6_2 hs
  · exact rf_6_3 hs
theorem rf_img {u : hS} (hs : shp u) : ∀ k, k < 4 → hF u (196 + 6 * k) 0 = 197 + 6 * k := by
  intro k hk
  have h : k = 0 ∨ k = 1 ∨ k = 2 ∨ k = 3 := by omega
  rcases h with rfl | rfl | rfl | rfl
  · exact rf_196_0 hs
  · exact rf_202_0 hs
  · exact rf_208_0 hs
  · exact rf_214_0 hs
theorem hpZ_1 {k a i : Nat} {f : hM} {u : hS} (h : okk u a k) : hpZ k a i 1 f u = f (hsetV u a i 1) := if_pos ⟨h, Or.inr rfl⟩
theorem hsZ_1 {k a i : Nat} {f : hM} {u : hS} (h : okk u a k) (h1 : i < hN u a) : hsZ k a (i : Int) 1 f u = f (hsetV u a i 1) := if_pos ⟨⟨h, by omega, by omega⟩, Or.inr rfl⟩
def imW (G S : Nat → Int) (k i : Nat) : Nat → Int := fun j => if 160 * k ≤ j ∧ j < 160 * k + i then S (j - 160 * k) else G j
def bkW (G S : Nat → Int) (k i : Nat) : Nat → Int := fun j => if j < i then G (160 * k + j) else S j
theorem ix_160 {k i : Nat} (hk : k < 4) (hi : i < 160) : w32 (w32 (160 * (k : Int)) + i) = ((160 * k + i : Nat) : Int) := by
  rw [w32_n (x := 160 * (k : Int)) (n := 160 * k) (by omega) (by omega)]
  exact w32_n (by omega) (by omega)
theorem y_imgL {u : hS} (hs : shp u) {k : Nat} (hk : k < 4) (G : Nat → Int) : ∀ m n i : Nat, m < n → i + m = 160 → m_X10_image_L33 n 220 k i (hput u 240 (imW G (hV u 230) k i)) = some (hV u 230 6, hput u 240 (imW G (hV u 230) k 160)) := by
  intro m
  induction m with
  | zero =>
    intro n i hn hi
    obtain ⟨n, rfl⟩ : ∃ m, n = m + 1 := ⟨n - 1, by omega⟩
    obtain rfl : i = 160 := by omega
    simp only [m_X10_image_L33, hgI_k, hgR_k, hpI_k, hpR_k, hpZ_k, haI_k, haR_k, hsI_k, hsZ_k, hlen_k, hlet_e, hret_e, hretZ_0, hretZ_1, hif_e, okk_setV, okk_setF, nV, nF, fV, vF, okk_put, nP, fP, haI_6, kk_220 hs, kk_230 hs, rf_220_20 hs, ln_230 hs, lt_c 6 160 rfl, hV_put_n (show 230 ≠ 240 by decide)]
    rw [if_pos (by omega)]
  | succ m ih =>
    intro n i hn hi
    obtain ⟨n, rfl⟩ : ∃ m, n = m + 1 := ⟨n - 1, by omega⟩
    have i1 : i < 160 := by omega
    have i2 : 160 * k + i < 640 := by omega
    have i4 : i < 1000000 := by omega
    simp only [m_X10_image_L33, hgI_k, hgR_k, hpI_k, hpR_k, hpZ_k, haI_k, haR_k, hsI_k, hsZ_k, hlen_k, hlet_e, hret_e, hretZ_0, hretZ_1, hif_e, okk_setV, okk_setF, nV, nF, fV, vF, okk_put, nP, fP, haI_n, hsI_n, kk_220 hs, kk_230 hs, kk_240 hs, rf_220_20 hs, rf_220_40 hs, ln_230 hs, ln_240 hs, hV_put_n (show 230 ≠ 240 by decide), ix_160 hk i1, ix_s i4, i1, i2, setV_put]
    rw [if_neg (by omega), ← ih n (i + 1) (by omega) (by omega)]
    congr 2
    funext j
    unfold sup imW
    by_cases h : j = 160 * k + i
    · rw [if_pos h, if_pos (by omega), h]
      congr 1
      omega
    · rw [if_neg h]
      by_cases h1 : 160 * k ≤ j ∧ j < 160 * k + i
      · rw [if_pos h1, if_pos (by omega)]
      · rw [if_neg h1, if_neg (by omega)]
theorem y_backL {u : hS} (hs : shp u) {k : Nat} (hk : k < 4) (S : Nat → Int) : ∀ m n i : Nat, m < n → i + m = 160 → m_X10_back_L40 n 220 k i (hput u 230 (bkW (hV u 240) S k i)) = some (bkW (hV u 240) S k 160 6, hput u 230 (bkW (hV u 240) S k 160)) := by
  intro m
  induction m with
  | zero =>
    intro n i hn hi
    obtain ⟨n, rfl⟩ : ∃ m, n = m + 1 := ⟨n - 1, by omega⟩
    obtain rfl : i = 160 := by omega
    simp only [m_X10_back_L40, hgI_k, hgR_k, hpI_k, hpR_k, hpZ_k, haI_k, haR_k, hsI_k, hsZ_k, hlen_k, hlet_e, hret_e, hretZ_0, hretZ_1, hif_e, okk_setV, okk_setF, nV, nF, fV, vF, okk_put, nP, fP, haI_6, kk_220 hs, kk_230 hs, rf_220_20 hs, ln_230 hs, lt_c 6 160 rfl, hV_put_s]
    rw [if_pos (by omega)]
  | succ m ih =>
    intro n i hn hi
    obtain ⟨n, rfl⟩ : ∃ m, n = m + 1 := ⟨n - 1, by omega⟩
    have i1 : i < 160 := by omega
    have i2 : 160 * k + i < 640 := by omega
    have i4 : i < 1000000 := by omega
    simp only [m_X10_back_L40, hgI_k, hgR_k, hpI_k, hpR_k, hpZ_k, haI_k, haR_k, hsI_k, hsZ_k, hlen_k, hlet_e, hret_e, hretZ_0, hretZ_1, hif_e, okk_setV, okk_setF, nV, nF, fV, vF, okk_put, nP, fP, haI_n, hsI_n, kk_220 hs, kk_230 hs, kk_240 hs, rf_220_20 hs, rf_220_40 hs, ln_230 hs, ln_240 hs, hV_put_n (show 240 ≠ 230 by decide), ix_160 hk i1, ix_s i4, i1, i2, setV_put]
    rw [if_neg (by omega), ← ih n (i + 1) (by omega) (by omega)]
    congr 2
    funext j
    unfold sup bkW
    by_cases h : j = i
    · rw [if_pos h, if_pos (by omega), h]
    · rw [if_neg h]
      by_cases h1 : j < i
      · rw [if_pos h1, if_pos (by omega)]
      · rw [if_neg h1, if_neg (by omega)]
