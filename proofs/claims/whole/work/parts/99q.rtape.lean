/-! the tape as the reference reads it -/
def rf (g : Nat → Int) (p w k : Int) : Nat → Int := fun i => if i = 8 then p else if i = 9 then w else if i = 10 then k else g i
def rS (u : hS) (p w k : Int) : hS := hput u 220 (rf (hV u 220) p w k)
theorem rS_8 (u : hS) (p w k : Int) : hV (rS u p w k) 220 8 = p := by
  unfold rS
  rw [hV_put_s]
  rfl
theorem rS_9 (u : hS) (p w k : Int) : hV (rS u p w k) 220 9 = w := by
  unfold rS
  rw [hV_put_s]
  rfl
theorem rS_10 (u : hS) (p w k : Int) : hV (rS u p w k) 220 10 = k := by
  unfold rS
  rw [hV_put_s]
  rfl
theorem rS_i {u : hS} {p w k : Int} {i : Nat} (h : i ≠ 8 ∧ i ≠ 9 ∧ i ≠ 10) : hV (rS u p w k) 220 i = hV u 220 i := by
  unfold rS
  rw [hV_put_s]
  unfold rf
  rw [if_neg h.1, if_neg h.2.1, if_neg h.2.2]
theorem rS_o {u : hS} {p w k : Int} {a : Nat} (h : a ≠ 220) : hV (rS u p w k) a = hV u a := hV_put_n h
theorem rS_k (u : hS) (p w k : Int) (a j : Nat) : okk (rS u p w k) a j = okk u a j := okk_put _ _ _ _ _
theorem rS_N (u : hS) (p w k : Int) : hN (rS u p w k) = hN u := nP _ _ _
theorem rS_F (u : hS) (p w k : Int) : hF (rS u p w k) = hF u := fP _ _ _
theorem rS_B (u : hS) (p w k : Int) : hB (rS u p w k) = hB u := Eq.trans (b := hB u) rfl rfl
theorem rS_shp (u : hS) (p w k : Int) : shp (rS u p w k) = shp u := shp_put _ _ _
theorem rS_w8 (u : hS) (p w k x : Int) : hsetV (rS u p w k) 220 8 x = rS u x w k := by
  unfold rS
  rw [setV_put]
  congr 1
  funext i
  unfold sup rf
  by_cases h : i = 8
  · rw [if_pos h, if_pos h]
  · rw [if_neg h, if_neg h, if_neg h]
theorem rS_w9 (u : hS) (p w k x : Int) : hsetV (rS u p w k) 220 9 x = rS u p x k := by
  unfold rS
  rw [setV_put]
  congr 1
  funext i
  unfold sup rf
  by_cases h : i = 9
  · subst h
    rfl
  · rw [if_neg h, if_neg h, if_neg h]
theorem rS_w10 (u : hS) (p w k x : Int) : hsetV (rS u p w k) 220 10 x = rS u p w x := by
  unfold rS
  rw [setV_put]
  congr 1
  funext i
  unfold sup rf
  by_cases h : i = 10
  · subst h
    rfl
  · rw [if_neg h, if_neg h, if_neg h]
theorem rS_self (u : hS) : rS u (hV u 220 8) (hV u 220 9) (hV u 220 10) = u := by
  unfold rS
  have e : rf (hV u 220) (hV u 220 8) (hV u 220 9) (hV u 220 10) = hV u 220 := by
    funext i
    unfold rf
    split
    · rename_i h
      rw [h]
    · split
      · rename_i h
        rw [h]
      · split
        · rename_i h
          rw [h]
        · rfl
  rw [e, hput_self]
theorem rS_set {u : hS} {p w k : Int} {a i : Nat} {x : Int} (h : a ≠ 220) : hsetV (rS u p w k) a i x = rS (hsetV u a i x) p w k := by
  unfold rS
  have e : hV (hsetV u a i x) 220 = hV u 220 := by
    funext j
    exact hV_setV_a (Ne.symm h)
  rw [put_set_c u _ i x h, e]
theorem put_setV (u : hS) (a i : Nat) (x : Int) (g : Nat → Int) : hput (hsetV u a i x) a g = hput u a g := by
  obtain ⟨K, N, V, F, B⟩ := u
  unfold hput hsetV
  simp only [Prod.mk.injEq, and_true, true_and]
  funext b j
  by_cases h : b = a
  · rw [if_pos h, if_pos h]
  · rw [if_neg h, if_neg h, if_neg (fun z => h z.1)]
theorem rS_seti {u : hS} {p w k : Int} {i : Nat} {x : Int} (h : i ≠ 8 ∧ i ≠ 9 ∧ i ≠ 10) : hsetV (rS u p w k) 220 i x = rS (hsetV u 220 i x) p w k := by
  unfold rS
  rw [setV_put, put_setV]
  congr 1
  funext j
  unfold sup rf
  by_cases e : j = i
  · subst e
    rw [if_pos rfl, if_neg h.1, if_neg h.2.1, if_neg h.2.2, hV_setV_s]
  · rw [if_neg e, hV_setV_i e]
theorem n1 : (1 : Nat) ≠ 8 ∧ (1 : Nat) ≠ 9 ∧ (1 : Nat) ≠ 10 := by decide
theorem lor_b {v b : Int} (v0 : 0 ≤ v) (v1 : v < 281474976710656) (b0 : 0 ≤ b) (b1 : b < 256) : lorZ (lshlZ v 8) b = v * 256 + b := by
  obtain ⟨a, rfl⟩ : ∃ a : Nat, v = a := ⟨v.toNat, by omega⟩
  obtain ⟨c, rfl⟩ : ∃ c : Nat, b = c := ⟨b.toNat, by omega⟩
  have e1 : ∀ x : Nat, (Int64.ofInt (x : Int)).toBitVec = BitVec.ofNat 64 x := fun x => by
    rw [Int64.toBitVec_ofInt]
    exact BitVec.ofInt_natCast 64 x
  have e2 : ∀ x : Nat, x < 2 ^ 63 → (BitVec.ofNat 64 x).toInt = (x : Int) := fun x hx => by
    rw [BitVec.toInt_eq_toNat_bmod, BitVec.toNat_ofNat, Nat.mod_eq_of_lt (by omega)]
    rw [Int.bmod_def]
    split <;> omega
  have e3 : lshlZ (a : Int) 8 = ((a * 256 : Nat) : Int) := by
    have : (Int64.ofInt (a : Int) <<< ((Int32.ofInt 8).toInt64 &&& 63)).toBitVec = BitVec.ofNat 64 (a * 256) := by
      rw [Int64.toBitVec_shiftLeft, e1]
      have : ((Int32.ofInt 8).toInt64 &&& 63).toBitVec.smod 64 = 8#64 := by decide
      rw [this]
      apply BitVec.eq_of_toNat_eq
      rw [BitVec.shiftLeft_eq', BitVec.toNat_shiftLeft, BitVec.toNat_ofNat, BitVec.toNat_ofNat]
      rw [Nat.shiftLeft_eq]
      show (a % 2 ^ 64) * 2 ^ 8 % 2 ^ 64 = a * 256 % 2 ^ 64
      omega
    show (Int64.ofInt (a : Int) <<< ((Int32.ofInt 8).toInt64 &&& 63)).toBitVec.toInt = _
    rw [this]
    exact e2 _ (by omega)
  rw [e3]
  show (Int64.ofInt ((a * 256 : Nat) : Int) ||| Int64.ofInt (c : Int)).toBitVec.toInt = _
  rw [Int64.toBitVec_or, e1, e1, ← BitVec.ofNat_or]
  have : a * 256 ||| c = a * 256 + c := by
    have := Nat.two_pow_add_eq_or_of_lt (i := 8) (b := c) (by omega) a
    rw [Nat.mul_comm a 256]
    exact this.symm
  rw [this, e2 _ (by omega)]
  omega
theorem y_seeL {u : hS} (hs : shp u) {n : Nat} (hn : hV u 220 1 = (n : Int)) (n4 : n ≤ 400) (w k : Int) : ∀ d m p : Nat, d < m → p + d = n → m_X10_see_L0 m 220 (rS u (p : Int) w k) = some (chr (hV u 221) n (skp (hV u 221) d p), rS u ((skp (hV u 221) d p : Nat) : Int) w k) := by
  intro d
  induction d with
  | zero =>
    intro m p hm hp
    obtain ⟨m, rfl⟩ : ∃ j, m = j + 1 := ⟨m - 1, by omega⟩
    simp only [m_X10_see_L0, m_X10_see_L38, m_X10_see_L66, hgI_k, hgR_k, hpI_k, hpR_k, hpZ_k, haI_k, haR_k, hsI_k, hsZ_k, hlen_k, hlet_e, hret_e, hretZ_0, hretZ_1, hif_e, okk_setV, okk_setF, nV, nF, fV, vF, rS_k, rS_N, rS_F, rS_i n1, rS_8, kk_220 hs, hn]
    rw [if_pos (by omega), if_pos (by omega)]
    show _ = some (chr (hV u 221) n p, rS u (p : Int) w k)
    unfold chr
    rw [if_neg (by omega)]
  | succ d ih =>
    intro m p hm hp
    obtain ⟨m, rfl⟩ : ∃ j, m = j + 1 := ⟨m - 1, by omega⟩
    have p4 : p < 400 := by omega
    have p6 : p < 1000000 := by omega
    simp only [m_X10_see_L0, m_X10_see_L38, m_X10_see_L66, hgI_k, hgR_k, hpI_k, hpR_k, hpZ_k, haI_k, haR_k, hsI_k, hsZ_k, hlen_k, hlet_e, hret_e, hretZ_0, hretZ_1, hif_e, okk_setV, okk_setF, nV, nF, fV, vF, haI_n, rS_k, rS_N, rS_F, rS_i n1, rS_8, rS_w8, rS_o (show 221 ≠ 220 by decide), kk_220 hs, kk_221 hs, ln_221 hs, rf_220_0 hs, hn, p4, ix_s p6, skp_s]
    rw [if_neg (by omega)]
    by_cases h : hV u 221 p = 32
    · rw [if_neg (by rw [h]; decide), if_pos h]
      exact ih m (p + 1) (by omega) (by omega)
    · rw [if_pos h, if_neg h, if_neg (by omega)]
      unfold chr
      rw [if_pos (by omega)]
theorem y_see {u : hS} (hs : shp u) {n : Nat} (hn : hV u 220 1 = (n : Int)) (n4 : n ≤ 400) (w k : Int) {p : Nat} (hp : p ≤ n) : m_X10_see 220 (rS u (p : Int) w k) = some (chr (hV u 221) n (sk (hV u 221) n p), rS u ((sk (hV u 221) n p : Nat) : Int) w k) := y_seeL hs hn n4 w k (n - p) 1000000000 p (by omega) (by omega)
theorem y_fails {u : hS} (hs : shp u) (p k : Int) {at' : Nat} (hw : at' ≤ 400) {j : Nat} (hk : j ≤ 4) : m_X10_fails 220 (j : Int) (at' : Int) (rS u p 0 k) = some (0, rS u p ((1 + 8 * at' + j : Nat) : Int) k) := by
  have e1 : w32 (8 * (at' : Int)) = ((8 * at' : Nat) : Int) := w32_n (by omega) (by omega)
  have e2 : w32 (1 + ((8 * at' : Nat) : Int)) = ((1 + 8 * at' : Nat) : Int) := w32_n (by omega) (by omega)
  have e3 : w32 (((1 + 8 * at' : Nat) : Int) + (j : Int)) = ((1 + 8 * at' + j : Nat) : Int) := w32_n (by omega) (by omega)
  simp only [m_X10_fails, m_X10_fails_L19, hgI_k, hgR_k, hpI_k, hpR_k, hpZ_k, haI_k, haR_k, hsI_k, hsZ_k, hlen_k, hlet_e, hret_e, hretZ_0, hretZ_1, hif_e, okk_setV, okk_setF, nV, nF, fV, vF, rS_k, rS_9, rS_w9, kk_220 hs, e1, e2, e3]
  rw [if_neg (by decide)]
theorem y_isDigit {u : hS} (hs : shp u) {n : Nat} (hn : hV u 220 1 = (n : Int)) (n4 : n ≤ 400) (p w k : Int) {j : Nat} (hj : j ≤ n) : m_X10_isDigit 220 (j : Int) (rS u p w k) = some (if j < n ∧ isDg (hV u 221 j) then 1 else 0, rS u p w k) := by
  by_cases h : j < n
  · have p4 : j < 400 := by omega
    simp only [m_X10_isDigit, m_X10_isDigit_L34, m_X10_isDigit_L35, hgI_k, hgR_k, hpI_k, hpR_k, hpZ_k, haI_k, haR_k, hsI_k, hsZ_k, hlen_k, hlet_e, hret_e, hretZ_0, hretZ_1, hif_e, okk_setV, okk_setF, nV, nF, fV, vF, haI_n, rS_k, rS_N, rS_F, rS_i n1, rS_o (show 221 ≠ 220 by decide), kk_220 hs, kk_221 hs, ln_221 hs, rf_220_0 hs, hn, p4]
    rw [if_neg (by omega)]
    by_cases h1 : hV u 221 j < 48
    · rw [if_pos h1, if_neg (by omega)]
    · rw [if_neg h1]
      by_cases h2 : hV u 221 j > 57
      · rw [if_pos h2, if_neg (by omega)]
      · rw [if_neg h2, if_pos ⟨h, by omega, by omega⟩]
  · simp only [m_X10_isDigit, m_X10_isDigit_L34, m_X10_isDigit_L35, hgI_k, hgR_k, hpI_k, hpR_k, hpZ_k, haI_k, haR_k, hsI_k, hsZ_k, hlen_k, hlet_e, hret_e, hretZ_0, hretZ_1, hif_e, okk_setV, okk_setF, nV, nF, fV, vF, rS_k, rS_i n1, kk_220 hs, hn]
    rw [if_pos (by omega), if_neg (fun z => h z.1)]
theorem y_isLetter {u : hS} (hs : shp u) {n : Nat} (hn : hV u 220 1 = (n : Int)) (n4 : n ≤ 400) (p w k : Int) {j : Nat} (hj : j ≤ n) : m_X10_isLetter 220 (j : Int) (rS u p w k) = some (if j < n ∧ isLt (hV u 221 j) then 1 else 0, rS u p w k) := by
  by_cases h : j < n
  · have p4 : j < 400 := by omega
    simp only [m_X10_isLetter, m_X10_isLetter_L34, m_X10_isLetter_L35, hgI_k, hgR_k, hpI_k, hpR_k, hpZ_k, haI_k, haR_k, hsI_k, hsZ_k, hlen_k, hlet_e, hret_e, hretZ_0, hretZ_1, hif_e, okk_setV, okk_setF, nV, nF, fV, vF, haI_n, rS_k, rS_N, rS_F, rS_i n1, rS_o (show 221 ≠ 220 by decide), kk_220 hs, kk_221 hs, ln_221 hs, rf_220_0 hs, hn, p4]
    rw [if_neg (by omega)]
    by_cases h1 : hV u 221 j < 97
    · rw [if_pos h1, if_neg (by omega)]
    · rw [if_neg h1]
      by_cases h2 : hV u 221 j > 122
      · rw [if_pos h2, if_neg (by omega)]
      · rw [if_neg h2, if_pos ⟨h, by omega, by omega⟩]
  · simp only [m_X10_isLetter, m_X10_isLetter_L34, m_X10_isLetter_L35, hgI_k, hgR_k, hpI_k, hpR_k, hpZ_k, haI_k, haR_k, hsI_k, hsZ_k, hlen_k, hlet_e, hret_e, hretZ_0, hretZ_1, hif_e, okk_setV, okk_setF, nV, nF, fV, vF, rS_k, rS_i n1, kk_220 hs, hn]
    rw [if_pos (by omega), if_neg (fun z => h z.1)]
theorem y_isWordL {u : hS} (hs : shp u) {n : Nat} (hn : hV u 220 1 = (n : Int)) (n4 : n ≤ 400) (W w k : Int) {q : Nat} (hq : q ≤ n) : ∀ (d m j : Nat) (v : Int), d < m → q + j + d = n → j + wln (hV u 221) d (q + j) = wl (hV u 221) n q → (j < 8 → v = wv (hV u 221) q j) → m_X10_isWord_L10 m 220 W v (j : Int) (rS u (q : Int) w k) = some (if isW (hV u 221) n q W then 1 else 0, rS u (q : Int) w k) := by
  have wb := wl_b (hV u 221) hq
  intro d
  have fin : ∀ (m j : Nat) (v : Int), j = wl (hV u 221) n q → (j < 8 → v = wv (hV u 221) q j) → (if ((j : Int) ≤ 0) then some (0, rS u (q : Int) w k) else if ((j : Int) ≥ 8) then some (0, rS u (q : Int) w k) else if ((lcmpZ v W) ≠ 0) then some (0, rS u (q : Int) w k) else some (1, rS u (q : Int) w k)) = some (if isW (hV u 221) n q W then (1 : Int) else 0, rS u (q : Int) w k) := by
    intro m j v hj hv
    by_cases h0 : j = 0
    · rw [if_pos (by omega), if_neg (fun z => by have := z.1; omega)]
    · rw [if_neg (by omega)]
      by_cases h8 : j < 8
      · rw [if_neg (by omega), hv h8, hj]
        by_cases z : wv (hV u 221) q (wl (hV u 221) n q) = W
        · rw [if_neg (fun y => (lcmp_0 _ _).2.1.1 y z), if_pos ⟨by omega, by omega, z⟩]
        · rw [if_pos ((lcmp_0 _ _).2.1.2 z), if_neg (fun y => z y.2.2)]
      · rw [if_pos (by omega), if_neg (fun z => by have := z.2.1; omega)]
  induction d with
  | zero =>
    intro m j v hm hp hj hv
    obtain ⟨m, rfl⟩ : ∃ j, m = j + 1 := ⟨m - 1, by omega⟩
    rw [show wln (hV u 221) 0 (q + j) = 0 from rfl, Nat.add_zero] at hj
    have e0 : w32 ((q : Int) + (j : Int)) = ((q + j : Nat) : Int) := ix_n (by omega)
    have hL := y_isLetter hs hn n4 (q : Int) w k (show q + j ≤ n by omega)
    rw [if_neg (fun z => by have := z.1; omega)] at hL
    rw [m_X10_isWord_L10]
    simp only [m_X10_isWord_L78, m_X10_isWord_L79, hgI_k, hgR_k, hpI_k, hpR_k, hpZ_k, haI_k, haR_k, hsI_k, hsZ_k, hlen_k, hlet_e, hret_e, hretZ_0, hretZ_1, hif_e, okk_setV, okk_setF, nV, nF, fV, vF, hcallV_b, rS_k, rS_8, kk_220 hs, e0, hL, hbind_s]
    rw [if_pos (by trivial)]
    exact fin m j v hj hv
  | succ d ih =>
    intro m j v hm hp hj hv
    obtain ⟨m, rfl⟩ : ∃ j, m = j + 1 := ⟨m - 1, by omega⟩
    have p4 : q + j < 400 := by omega
    have p6 : j < 1000000 := by omega
    have e0 : w32 ((q : Int) + (j : Int)) = ((q + j : Nat) : Int) := ix_n (by omega)
    have hL := y_isLetter hs hn n4 (q : Int) w k (show q + j ≤ n by omega)
    rw [m_X10_isWord_L10]
    rw [wln_s] at hj
    by_cases h : isLt (hV u 221 (q + j))
    · rw [if_pos h] at hj
      rw [if_pos ⟨by omega, h⟩] at hL
      simp only [m_X10_isWord_L50, m_X10_isWord_L78, m_X10_isWord_L79, hgI_k, hgR_k, hpI_k, hpR_k, hpZ_k, haI_k, haR_k, hsI_k, hsZ_k, hlen_k, hlet_e, hret_e, hretZ_0, hretZ_1, hif_e, okk_setV, okk_setF, nV, nF, fV, vF, haI_n, hcallV_b, rS_k, rS_N, rS_F, rS_8, rS_o (show 221 ≠ 220 by decide), kk_220 hs, kk_221 hs, ln_221 hs, rf_220_0 hs, e0, p4, ix_s p6, hL, hbind_s]
      rw [if_neg (by decide)]
      have I := fun v x => ih m (j + 1) v (by omega) (by omega) (by rw [← hj, show q + (j + 1) = q + j + 1 by omega]; omega) x
      by_cases h8 : (j : Int) ≥ 8
      · rw [if_pos h8]
        exact I v (fun z => by omega)
      · rw [if_neg h8]
        refine I _ (fun z => ?_)
        have hv := hv (by omega)
        have lt : ∀ i, i < j → isLt (hV u 221 (q + i)) := fun i hi => wb.2 i (by omega)
        have bb := wv_b (hV u 221) q j lt
        have pw : 256 ^ j ≤ 256 ^ 6 := Nat.pow_le_pow_right (by decide) (by omega)
        rw [hv, wv_s, lor_b bb.1 (by have := bb.2.1; omega) (by unfold isLt at h; omega) (by unfold isLt at h; omega)]
    · rw [if_neg h, Nat.add_zero] at hj
      rw [if_neg (fun z => h z.2)] at hL
      simp only [m_X10_isWord_L50, m_X10_isWord_L78, m_X10_isWord_L79, hgI_k, hgR_k, hpI_k, hpR_k, hpZ_k, haI_k, haR_k, hsI_k, hsZ_k, hlen_k, hlet_e, hret_e, hretZ_0, hretZ_1, hif_e, okk_setV, okk_setF, nV, nF, fV, vF, haI_n, hcallV_b, rS_k, rS_N, rS_F, rS_8, rS_o (show 221 ≠ 220 by decide), kk_220 hs, kk_221 hs, ln_221 hs, rf_220_0 hs, e0, p4, ix_s p6, hL, hbind_s]
      rw [if_pos (by trivial)]
      exact fin m j v hj hv
theorem y_isWord {u : hS} (hs : shp u) {n : Nat} (hn : hV u 220 1 = (n : Int)) (n4 : n ≤ 400) (W w k : Int) {p : Nat} (hp : p ≤ n) : m_X10_isWord 220 W (rS u (p : Int) w k) = some (if isW (hV u 221) n (sk (hV u 221) n p) W then 1 else 0, rS u ((sk (hV u 221) n p : Nat) : Int) w k) := by
  have b := (sk_le (hV u 221) hp).2
  simp only [m_X10_isWord, hgI_k, hgR_k, hpI_k, hpR_k, hpZ_k, haI_k, haR_k, hsI_k, hsZ_k, hlen_k, hlet_p, hret_p, hretZ_0, hretZ_1, hif_p, okk_setV, okk_setF, nV, nF, fV, vF, hcallV_b, hbind_p, rS_k, kk_220 hs, y_see hs hn n4 w k hp]
  exact y_isWordL hs hn n4 W w k b (n - sk (hV u 221) n p) 1000000000 0 0 (by omega) (by omega) (by rw [Nat.zero_add]; rfl) (fun _ => rfl)
theorem y_pwL {u : hS} (hs : shp u) {n : Nat} (hn : hV u 220 1 = (n : Int)) (n4 : n ≤ 400) (w k : Int) : ∀ d m p : Nat, d < m → p + d = n → m_X10_passWord_L0 m 220 (rS u (p : Int) w k) = some (0, rS u ((p + wln (hV u 221) d p : Nat) : Int) w k) := by
  intro d
  induction d with
  | zero =>
    intro m p hm hp
    obtain ⟨m, rfl⟩ : ∃ j, m = j + 1 := ⟨m - 1, by omega⟩
    have hL := y_isLetter hs hn n4 (p : Int) w k (show p ≤ n by omega)
    rw [if_neg (fun z => by have := z.1; omega)] at hL
    rw [m_X10_passWord_L0]
    simp only [hgI_k, hgR_k, hpI_k, hpR_k, hpZ_k, haI_k, haR_k, hsI_k, hsZ_k, hlen_k, hlet_e, hret_e, hretZ_0, hretZ_1, hif_e, okk_setV, okk_setF, nV, nF, fV, vF, hcallV_b, rS_k, rS_8, kk_220 hs, hL, hbind_s]
    rw [if_pos (by trivial)]
    rfl
  | succ d ih =>
    intro m p hm hp
    obtain ⟨m, rfl⟩ : ∃ j, m = j + 1 := ⟨m - 1, by omega⟩
    have p6 : p < 1000000 := by omega
    have hL := y_isLetter hs hn n4 (p : Int) w k (show p ≤ n by omega)
    rw [m_X10_passWord_L0, wln_s]
    by_cases h : isLt (hV u 221 p)
    · rw [if_pos ⟨by omega, h⟩] at hL
      simp only [hgI_k, hgR_k, hpI_k, hpR_k, hpZ_k, haI_k, haR_k, hsI_k, hsZ_k, hlen_k, hlet_e, hret_e, hretZ_0, hretZ_1, hif_e, okk_setV, okk_setF, nV, nF, fV, vF, hcallV_b, rS_k, rS_8, rS_w8, kk_220 hs, hL, hbind_s, ix_s p6]
      rw [if_neg (by decide), if_pos h, ih m (p + 1) (by omega) (by omega)]
      rw [show p + 1 + wln (hV u 221) d (p + 1) = p + (wln (hV u 221) d (p + 1) + 1) by omega]
    · rw [if_neg (fun z => h z.2)] at hL
      simp only [hgI_k, hgR_k, hpI_k, hpR_k, hpZ_k, haI_k, haR_k, hsI_k, hsZ_k, hlen_k, hlet_e, hret_e, hretZ_0, hretZ_1, hif_e, okk_setV, okk_setF, nV, nF, fV, vF, hcallV_b, rS_k, rS_8, rS_w8, kk_220 hs, hL, hbind_s, ix_s p6]
      rw [if_pos (by trivial), if_neg h]
      rfl
theorem y_passWord {u : hS} (hs : shp u) {n : Nat} (hn : hV u 220 1 = (n : Int)) (n4 : n ≤ 400) (w k : Int) {p : Nat} (hp : p ≤ n) : m_X10_passWord 220 (rS u (p : Int) w k) = some (0, rS u ((p + wl (hV u 221) n p : Nat) : Int) w k) := y_pwL hs hn n4 w k (n - p) 1000000000 p (by omega) (by omega)
theorem y_takesWord {u : hS} (hs : shp u) {n : Nat} (hn : hV u 220 1 = (n : Int)) (n4 : n ≤ 400) (W w k : Int) {p : Nat} (hp : p ≤ n) : m_X10_takesWord 220 W (rS u (p : Int) w k) = if isW (hV u 221) n (sk (hV u 221) n p) W then some (1, rS u ((sk (hV u 221) n p + wl (hV u 221) n (sk (hV u 221) n p) : Nat) : Int) w k) else some (0, rS u ((sk (hV u 221) n p : Nat) : Int) w k) := by
  have b := (sk_le (hV u 221) hp).2
  simp only [m_X10_takesWord, hgI_k, hgR_k, hpI_k, hpR_k, hpZ_k, haI_k, haR_k, hsI_k, hsZ_k, hlen_k, hlet_p, hret_p, hretZ_0, hretZ_1, hif_p, okk_setV, okk_setF, nV, nF, fV, vF, hcallV_b, hbind_p, rS_k, kk_220 hs, y_isWord hs hn n4 W w k hp, y_passWord hs hn n4 w k b]
  by_cases h : isW (hV u 221) n (sk (hV u 221) n p) W
  · rw [if_pos h, if_pos (by decide), if_pos h]
  · rw [if_neg h, if_neg (by decide), if_neg h]
theorem y_in' {u : hS} (hs : shp u) {n : Nat} (hn : hV u 220 1 = (n : Int)) (n4 : n ≤ 400) (x lo hi : Int) : m_X10_in x lo hi u = some (if lo ≤ x ∧ x ≤ hi then 1 else 0, u) := by
  simp only [m_X10_in, m_X10_in_L17, m_X10_in_L18, hgI_k, hgR_k, hpI_k, hpR_k, hpZ_k, haI_k, haR_k, hsI_k, hsZ_k, hlen_k, hlet_e, hret_e, hretZ_0, hretZ_1, hif_e, okk_setV, okk_setF, nV, nF, fV, vF]
  by_cases h1 : x < lo
  · rw [if_pos ((lcmp_0 x lo).2.2.1.2 h1), if_neg (by omega)]
  · rw [if_neg (fun z => h1 ((lcmp_0 x lo).2.2.1.1 z))]
    by_cases h2 : hi < x
    · rw [if_pos ((lcmp_0 x hi).2.2.2.1.2 h2), if_neg (by omega)]
    · rw [if_neg (fun z => h2 ((lcmp_0 x hi).2.2.2.1.1 z)), if_pos ⟨by omega, by omega⟩]
