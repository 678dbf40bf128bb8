/-! a new town's places -/
theorem mk_B (u : hS) (k n : Nat) : hB (hmake u k n) = hB u + 1 := Eq.trans (b := hB u + 1) rfl rfl
theorem mk_K (u : hS) (k n a : Nat) : hK (hmake u k n) a = if a = hB u then k else hK u a := Eq.trans (b := if a = hB u then k else hK u a) rfl rfl
theorem mk_N (u : hS) (k n a : Nat) : hN (hmake u k n) a = if a = hB u then n else hN u a := Eq.trans (b := if a = hB u then n else hN u a) rfl rfl
theorem mk_V (u : hS) (k n a i : Nat) : hV (hmake u k n) a i = if a = hB u then 0 else hV u a i := Eq.trans (b := if a = hB u then 0 else hV u a i) rfl rfl
theorem mk_F (u : hS) (k n a i : Nat) : hF (hmake u k n) a i = if a = hB u then 0 else hF u a i := Eq.trans (b := if a = hB u then 0 else hF u a i) rfl rfl
/-- a row more, told to t -/
def nA (u : hS) (n t i : Nat) : hS := hsetF (hmake u 20 n) t i (hB u)
theorem nA_B (u : hS) (n t i : Nat) : hB (nA u n t i) = hB u + 1 := Eq.trans (b := hB u + 1) rfl rfl
theorem nA_K (u : hS) (n t i a : Nat) : hK (nA u n t i) a = if a = hB u then 20 else hK u a := mk_K u 20 n a
theorem nA_N (u : hS) (n t i a : Nat) : hN (nA u n t i) a = if a = hB u then n else hN u a := mk_N u 20 n a
theorem nA_V (u : hS) (n t i a j : Nat) : hV (nA u n t i) a j = if a = hB u then 0 else hV u a j := mk_V u 20 n a j
theorem nA_F (u : hS) (n t i a j : Nat) : hF (nA u n t i) a j = if a = t ∧ j = i then hB u else if a = hB u then 0 else hF u a j := Eq.trans (b := if a = t ∧ j = i then hB u else if a = hB u then 0 else hF u a j) rfl rfl
theorem nA_r {u : hS} {n t i k : Nat} {f : hM} (h : okk u t k) : (hnewA 20 n fun v => hpR k t i v f) u = f (nA u n t i) := by
  have h' : okk (hmake u 20 n) t k := by
    obtain ⟨a, b, c⟩ := h
    refine ⟨a, ?_, ?_⟩
    · rw [mk_B]
      omega
    · rw [mk_K, if_neg (by omega)]
      exact c
  show hpR k t i (hB u) f (hmake u 20 n) = _
  rw [hpR_k h']
  rfl
theorem nA_k {u : hS} {n t i a k : Nat} (h : okk u a k) : okk (nA u n t i) a k := by
  obtain ⟨x, y, z⟩ := h
  refine ⟨x, ?_, ?_⟩
  · rw [nA_B]
    omega
  · rw [nA_K, if_neg (by omega)]
    exact z
/-- three rows for a set of links at l -/
def nL (u : hS) (n l : Nat) : hS := nA (nA (nA (hsetV u l 3 0) n l 0) n l 1) n l 2
theorem x_init9 {u : hS} {l : Nat} (h : okk u l 1) : m_X1_init_9 l u = some (0, nL u 9 l) := by
  have h0 : okk (hsetV u l 3 0) l 1 := h
  have h1 := nA_k (n := 9) (t := l) (i := 0) h0
  have h2 := nA_k (n := 9) (t := l) (i := 1) h1
  unfold m_X1_init_9
  rw [hpI_k h, hcall_b, J_max, hbind_p, if_neg (by decide), hlet_p, hassert_ok (by decide), nA_r h0, hassert_ok (by decide), nA_r h1, hassert_ok (by decide), nA_r h2]
  rfl
theorem x_init4 {u : hS} {l : Nat} (h : okk u l 1) : m_X1_init_4 l u = some (0, nL u 4 l) := by
  have h0 : okk (hsetV u l 3 0) l 1 := h
  have h1 := nA_k (n := 4) (t := l) (i := 0) h0
  have h2 := nA_k (n := 4) (t := l) (i := 1) h1
  unfold m_X1_init_4
  rw [hpI_k h, hcall_b, J_max, hbind_p, if_neg (by decide), hlet_p, hassert_ok (by decide), nA_r h0, hassert_ok (by decide), nA_r h1, hassert_ok (by decide), nA_r h2]
  rfl
/-- what the new town is: kinds, lengths, references, all numbers 0 -/
def nT1 (u : hS) (t : Nat) : hS := hsetF (nL (hmake (hsetV (hsetV (hmake u 7 0) t 0 0) t 1 0) 1 0) 9 (t + 1)) t 2 (t + 1)
def nT2 (u : hS) (t : Nat) : hS := hsetV (hsetF (nL (hmake (nT1 u t) 1 0) 4 (t + 5)) t 3 (t + 5)) t 4 0
def nT3 (u : hS) (t : Nat) : hS := hsetV (nA (nA (hsetV (nA (nA (nT2 u t) 4 t 5) 4 t 6) t 7 0) 4 t 8) 36 t 9) t 10 0
def nT (u : hS) (t : Nat) : hS := nA (nA (nA (nA (nA (nT3 u t) 8 t 11) 8 t 12) 8 t 13) 8 t 14) 64 t 15
theorem sF_B (u : hS) (a i x : Nat) : hB (hsetF u a i x) = hB u := Eq.trans (b := hB u) rfl rfl
theorem sF_K (u : hS) (a i x : Nat) : hK (hsetF u a i x) = hK u := Eq.trans (b := hK u) rfl rfl
theorem sF_N (u : hS) (a i x : Nat) : hN (hsetF u a i x) = hN u := Eq.trans (b := hN u) rfl rfl
theorem sF_V (u : hS) (a i x : Nat) : hV (hsetF u a i x) = hV u := Eq.trans (b := hV u) rfl rfl
theorem sF_F (u : hS) (a i x b j : Nat) : hF (hsetF u a i x) b j = if b = a ∧ j = i then x else hF u b j := Eq.trans (b := if b = a ∧ j = i then x else hF u b j) rfl rfl
theorem sV_B (u : hS) (a i : Nat) (x : Int) : hB (hsetV u a i x) = hB u := Eq.trans (b := hB u) rfl rfl
theorem sV_K (u : hS) (a i : Nat) (x : Int) : hK (hsetV u a i x) = hK u := Eq.trans (b := hK u) rfl rfl
theorem sV_N (u : hS) (a i : Nat) (x : Int) : hN (hsetV u a i x) = hN u := Eq.trans (b := hN u) rfl rfl
theorem sV_F (u : hS) (a i : Nat) (x : Int) : hF (hsetV u a i x) = hF u := Eq.trans (b := hF u) rfl rfl
theorem sV_V (u : hS) (a i : Nat) (x : Int) (b j : Nat) : hV (hsetV u a i x) b j = if b = a ∧ j = i then x else hV u b j := Eq.trans (b := if b = a ∧ j = i then x else hV u b j) rfl rfl
theorem nL_B {u : hS} {t : Nat} (hb : hB u = t) {w : hS} {n l b : Nat} (h : hB w = b) : hB (nL w n l) = b + 3 := by
  unfold nL
  rw [nA_B, nA_B, nA_B, sV_B, h]
theorem nT1_B {u : hS} {t : Nat} (hb : hB u = t) : hB (nT1 u t) = t + 5 := by
  unfold nT1
  rw [sF_B, nL_B rfl (b := t + 2) (by rw [mk_B, sV_B, sV_B, mk_B, hb])]
theorem nT2_B {u : hS} {t : Nat} (hb : hB u = t) : hB (nT2 u t) = t + 9 := by
  unfold nT2
  rw [sV_B, sF_B, nL_B rfl (b := t + 6) (by rw [mk_B, nT1_B hb])]
theorem nT3_B {u : hS} {t : Nat} (hb : hB u = t) : hB (nT3 u t) = t + 13 := by
  unfold nT3
  rw [sV_B, nA_B, nA_B, sV_B, nA_B, nA_B, nT2_B hb]
theorem nT_B {u : hS} {t : Nat} (hb : hB u = t) : hB (nT u t) = t + 18 := by
  unfold nT
  rw [nA_B, nA_B, nA_B, nA_B, nA_B, nT3_B hb]
theorem x_newT {u : hS} {t : Nat} (hb : hB u = t) (t0 : 0 < t) : m_X7_init t (hmake u 7 0) = some (0, nT u t) := by
  have k0 : okk (hmake u 7 0) t 7 := ⟨t0, by rw [mk_B]; omega, by rw [mk_K, if_pos hb.symm]⟩
  have k1 : okk (hsetV (hsetV (hmake u 7 0) t 0 0) t 1 0) t 7 := k0
  have b1 : hB (hsetV (hsetV (hmake u 7 0) t 0 0) t 1 0) = t + 1 := by rw [sV_B, sV_B, mk_B, hb]
  have k2 : ∀ {w : hS} {a k n : Nat} {j : Nat}, okk w a j → okk (hmake w k n) a j := fun {w a k n j} h => by
    obtain ⟨x, y, z⟩ := h
    refine ⟨x, ?_, ?_⟩
    · rw [mk_B]
      omega
    · rw [mk_K, if_neg (by omega)]
      exact z
  have k3 : ∀ {w : hS} {a n l j : Nat}, okk w a j → okk (nL w n l) a j := fun {w a n l j} h => nA_k (nA_k (nA_k h))
  have l1 : okk (hmake (hsetV (hsetV (hmake u 7 0) t 0 0) t 1 0) 1 0) (t + 1) 1 := ⟨by omega, by rw [mk_B, b1]; omega, by rw [mk_K, b1, if_pos rfl]⟩
  have m1 : okk (nL (hmake (hsetV (hsetV (hmake u 7 0) t 0 0) t 1 0) 1 0) 9 (t + 1)) t 7 := k3 (k2 k1)
  have b5 := nT1_B hb
  have l5 : okk (hmake (nT1 u t) 1 0) (t + 5) 1 := ⟨by omega, by rw [mk_B, b5]; omega, by rw [mk_K, b5, if_pos rfl]⟩
  have m5 : okk (nT1 u t) t 7 := m1
  have m6 : okk (nL (hmake (nT1 u t) 1 0) 4 (t + 5)) t 7 := k3 (k2 m5)
  have m7 : okk (hsetF (nL (hmake (nT1 u t) 1 0) 4 (t + 5)) t 3 (t + 5)) t 7 := m6
  have m8 : okk (nT2 u t) t 7 := m6
  have m9 := nA_k (n := 4) (t := t) (i := 5) m8
  have m10 := nA_k (n := 4) (t := t) (i := 6) m9
  have m10' : okk (hsetV (nA (nA (nT2 u t) 4 t 5) 4 t 6) t 7 0) t 7 := m10
  have m11 := nA_k (n := 4) (t := t) (i := 8) m10'
  have m12 := nA_k (n := 36) (t := t) (i := 9) m11
  have m12' : okk (nT3 u t) t 7 := m12
  have m13 := nA_k (n := 8) (t := t) (i := 11) m12'
  have m14 := nA_k (n := 8) (t := t) (i := 12) m13
  have m15 := nA_k (n := 8) (t := t) (i := 13) m14
  have m16 := nA_k (n := 8) (t := t) (i := 14) m15
  have hn : ∀ (k : Nat) (f : Nat → hM) (w : hS), hnew k f w = f (hB w) (hmake w k 0) := fun _ _ _ => rfl
  unfold m_X7_init
  rw [hpI_k k0, hpI_k (show okk (hsetV (hmake u 7 0) t 0 0) t 7 from k0), hn, b1, hassert_ok (by omega), hcall_b, x_init9 l1, hbind_p, hpR_k m1]
  show (hnew 1 _) (nT1 u t) = _
  rw [hn, b5, hassert_ok (by omega), hcall_b, x_init4 l5, hbind_p, hpR_k m6, hpI_k m7]
  show (hnewA 20 4 _) (nT2 u t) = _
  rw [nA_r m8, nA_r m9, hpI_k m10, nA_r m10', nA_r m11, hpI_k m12]
  show (hnewA 20 8 _) (nT3 u t) = _
  rw [nA_r m12', nA_r m13, nA_r m14, nA_r m15, nA_r m16]
  rfl
theorem nT_lo {u : hS} {t : Nat} (hb : hB u = t) (a : Nat) (ha : a < t) : hK (nT u t) a = hK u a ∧ hN (nT u t) a = hN u a ∧ (∀ i, hV (nT u t) a i = hV u a i) ∧ ∀ i, hF (nT u t) a i = hF u a i := by
  have b1 : hB (hsetV (hsetV (hmake u 7 0) t 0 0) t 1 0) = t + 1 := by rw [sV_B, sV_B, mk_B, hb]
  have b2 : hB (hmake (hsetV (hsetV (hmake u 7 0) t 0 0) t 1 0) 1 0) = t + 2 := by rw [mk_B, b1]
  have b5 := nT1_B hb
  have b6 : hB (hmake (nT1 u t) 1 0) = t + 6 := by rw [mk_B, b5]
  have b9 := nT2_B hb
  have b13 := nT3_B hb
  refine ⟨?_, ?_, fun i => ?_, fun i => ?_⟩
  · unfold nT
    rw [nA_K, nA_K, nA_K, nA_K, nA_K, nA_B, nA_B, nA_B, nA_B, b13, if_neg (by omega), if_neg (by omega), if_neg (by omega), if_neg (by omega), if_neg (by omega)]
    unfold nT3
    rw [sV_K, nA_K, nA_K, sV_K, nA_K, nA_K, nA_B, sV_B, nA_B, nA_B, b9, if_neg (by omega), if_neg (by omega), if_neg (by omega), if_neg (by omega)]
    unfold nT2 nL
    rw [sV_K, sF_K, nA_K, nA_K, nA_K, sV_K, mk_K, nA_B, nA_B, sV_B, b6, b5, if_neg (by omega), if_neg (by omega), if_neg (by omega), if_neg (by omega)]
    unfold nT1 nL
    rw [sF_K, nA_K, nA_K, nA_K, sV_K, mk_K, sV_K, sV_K, mk_K, nA_B, nA_B, sV_B, b2, b1, hb, if_neg (by omega), if_neg (by omega), if_neg (by omega), if_neg (by omega), if_neg (by omega)]
  · unfold nT
    rw [nA_N, nA_N, nA_N, nA_N, nA_N, nA_B, nA_B, nA_B, nA_B, b13, if_neg (by omega), if_neg (by omega), if_neg (by omega), if_neg (by omega), if_neg (by omega)]
    unfold nT3
    rw [sV_N, nA_N, nA_N, sV_N, nA_N, nA_N, nA_B, sV_B, nA_B, nA_B, b9, if_neg (by omega), if_neg (by omega), if_neg (by omega), if_neg (by omega)]
    unfold nT2 nL
    rw [sV_N, sF_N, nA_N, nA_N, nA_N, sV_N, mk_N, nA_B, nA_B, sV_B, b6, b5, if_neg (by omega), if_neg (by omega), if_neg (by omega), if_neg (by omega)]
    unfold nT1 nL
    rw [sF_N, nA_N, nA_N, nA_N, sV_N, mk_N, sV_N, sV_N, mk_N, nA_B, nA_B, sV_B, b2, b1, hb, if_neg (by omega), if_neg (by omega), if_neg (by omega), if_neg (by omega), if_neg (by omega)]
  · unfold nT
    rw [nA_V, nA_V, nA_V, nA_V, nA_V, nA_B, nA_B, nA_B, nA_B, b13, if_neg (by omega), if_neg (by omega), if_neg (by omega), if_neg (by omega), if_neg (by omega)]
    unfold nT3
    rw [sV_V, if_neg (by omega), nA_V, nA_V, sV_V, if_neg (show ¬ (a = t ∧ i = 7) by omega), nA_V, nA_V, nA_B, sV_B, nA_B, nA_B, b9, if_neg (by omega), if_neg (by omega), if_neg (by omega), if_neg (by omega)]
    unfold nT2 nL
    rw [sV_V, if_neg (by omega), sF_V, nA_V, nA_V, nA_V, sV_V, if_neg (show ¬ (a = t + 5 ∧ i = 3) by omega), mk_V, nA_B, nA_B, sV_B, b6, b5, if_neg (by omega), if_neg (by omega), if_neg (by omega), if_neg (by omega)]
    unfold nT1 nL
    rw [sF_V, nA_V, nA_V, nA_V, sV_V, if_neg (show ¬ (a = t + 1 ∧ i = 3) by omega), mk_V, sV_V, if_neg (show ¬ (a = t ∧ i = 1) by omega), sV_V, if_neg (show ¬ (a = t ∧ i = 0) by omega), mk_V, nA_B, nA_B, sV_B, b2, b1, hb, if_neg (by omega), if_neg (by omega), if_neg (by omega), if_neg (by omega), if_neg (by omega)]
  · unfold nT
    rw [nA_F, if_neg (by omega), nA_F, if_neg (by omega), if_neg (show ¬ (a = t ∧ i = 14) by omega), nA_F, if_neg (show ¬ (a = t ∧ i = 13) by omega), nA_F, if_neg (show ¬ (a = t ∧ i = 12) by omega), nA_F, if_neg (show ¬ (a = t ∧ i = 11) by omega), nA_B, nA_B, nA_B, b13, if_neg (by omega), if_neg (by omega), if_neg (by omega), if_neg (by omega)]
    sorry
