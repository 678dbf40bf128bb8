/-! a new town's places -/
theorem mk_B (u : hS) (k n : Nat) : hB (hmake u k n) = hB u + 1 := Eq.trans (b := hB u + 1) rfl rfl
theorem mk_K (u : hS) (k n a : Nat) : hK (hmake u k n) a = if a = hB u then k else hK u a := Eq.trans (b := if a = hB u then k else hK u a) rfl rfl
theorem mk_N (u : hS) (k n a : Nat) : hN (hmake u k n) a = if a = hB u then n else hN u a := Eq.trans (b := if a = hB u then n else hN u a) rfl rfl
theorem mk_V (u : hS) (k n a i : Nat) : hV (hmake u k n) a i = if a = hB u then 0 else hV u a i := Eq.trans (b := if a = hB u then 0 else hV u a i) rfl rfl
theorem mk_F (u : hS) (k n a i : Nat) : hF (hmake u k n) a i = if a = hB u then 0 else hF u a i := Eq.trans (b := if a = hB u then 0 else hF u a i) rfl rfl
/-- a row more, told to t -/
def nA (u : hS) (n t i : Nat) : hS := hsetF (hmake u 20 n) t i (hB u)
theorem nA_B (u : hS) (n t i : Nat) : hB (nA u n t i) = hB u + 1 := Eq.trans (b := hB u + 1) rfl rfl
theorem nA_K (u : hS) (n t i a : Nat) : hK (nA u n t i) a = if a = hB u then 20 else hK u a := mk_K u 20 n a
theorem nA_N (u : hS) (n t i a : Nat) : hN (nA u n t i) a = if a = hB u then n else hN u a := mk_N u 20 n a
theorem nA_V (u : hS) (n t i a j : Nat) : hV (nA u n t i) a j = if a = hB u then 0 else hV u a j := mk_V u 20 n a j
theorem nA_F (u : hS) (n t i a j : Nat) : hF (nA u n t i) a j = if a = t ∧ j = i then hB u else if a = hB u then 0 else hF u a j := Eq.trans (b := if a = t ∧ j = i then hB u else if a = hB u then 0 else hF u a j) rfl rfl
theorem nA_r {u : hS} {n t i k : Nat} {f : hM} (h : okk u t k) : (hnewA 20 n fun v => hpR k t i v f) u = f (nA u n t i) := by
  have h' : okk (hmake u 20 n) t k := by
    obtain ⟨a, b, c⟩ := h
    refine ⟨a, ?_, ?_⟩
    · rw [mk_B]
      omega
    · rw [mk_K, if_neg (by omega)]
      exact c
  show hpR k t i (hB u) f (hmake u 20 n) = _
  rw [hpR_k h']
  rfl
theorem nA_k {u : hS} {n t i a k : Nat} (h : okk u a k) : okk (nA u n t i) a k := by
  obtain ⟨x, y, z⟩ := h
  refine ⟨x, ?_, ?_⟩
  · rw [nA_B]
    omega
  · rw [nA_K, if_neg (by omega)]
    exact z
/-- three rows for a set of links at l -/
def nL (u : hS) (n l : Nat) : hS := nA (nA (nA (hsetV u l 3 0) n l 0) n l 1) n l 2
theorem x_init9 {u : hS} {l : Nat} (h : okk u l 1) : m_X1_init_9 l u = some (0, nL u 9 l) := by
  have h0 : okk (hsetV u l 3 0) l 1 := h
  have h1 := nA_k (n := 9) (t := l) (i := 0) h0
  have h2 := nA_k (n := 9) (t := l) (i := 1) h1
  unfold m_X1_init_9
  rw [hpI_k h, hcall_b, J_max, hbind_p, if_neg (by decide), hlet_p, hassert_ok (by decide), nA_r h0, hassert_ok (by decide), nA_r h1, hassert_ok (by decide), nA_r h2]
  rfl
theorem x_init4 {u : hS} {l : Nat} (h : okk u l 1) : m_X1_init_4 l u = some (0, nL u 4 l) := by
  have h0 : okk (hsetV u l 3 0) l 1 := h
  have h1 := nA_k (n := 4) (t := l) (i := 0) h0
  have h2 := nA_k (n := 4) (t := l) (i := 1) h1
  unfold m_X1_init_4
  rw [hpI_k h, hcall_b, J_max, hbind_p, if_neg (by decide), hlet_p, hassert_ok (by decide), nA_r h0, hassert_ok (by decide), nA_r h1, hassert_ok (by decide), nA_r h2]
  rfl
/-- what the new town is: kinds, lengths, references, all numbers 0 -/
def nT1 (u : hS) (t : Nat) : hS := hsetF (nL (hmake (hsetV (hsetV (hmake u 7 0) t 0 0) t 1 0) 1 0) 9 (t + 1)) t 2 (t + 1)
def nT2 (u : hS) (t : Nat) : hS := hsetV (hsetF (nL (hmake (nT1 u t) 1 0) 4 (t + 5)) t 3 (t + 5)) t 4 0
def nT3 (u : hS) (t : Nat) : hS := hsetV (nA (nA (hsetV (nA (nA (nT2 u t) 4 t 5) 4 t 6) t 7 0) 4 t 8) 36 t 9) t 10 0
def nT (u : hS) (t : Nat) : hS := nA (nA (nA (nA (nA (nT3 u t) 8 t 11) 8 t 12) 8 t 13) 8 t 14) 64 t 15
theorem sF_B (u : hS) (a i x : Nat) : hB (hsetF u a i x) = hB u := Eq.trans (b := hB u) rfl rfl
theorem sF_K (u : hS) (a i x : Nat) : hK (hsetF u a i x) = hK u := Eq.trans (b := hK u) rfl rfl
theorem sF_N (u : hS) (a i x : Nat) : hN (hsetF u a i x) = hN u := Eq.trans (b := hN u) rfl rfl
theorem sF_V (u : hS) (a i x : Nat) : hV (hsetF u a i x) = hV u := Eq.trans (b := hV u) rfl rfl
theorem sF_F (u : hS) (a i x b j : Nat) : hF (hsetF u a i x) b j = if b = a ∧ j = i then x else hF u b j := Eq.trans (b := if b = a ∧ j = i then x else hF u b j) rfl rfl
theorem sV_B (u : hS) (a i : Nat) (x : Int) : hB (hsetV u a i x) = hB u := Eq.trans (b := hB u) rfl rfl
theorem sV_K (u : hS) (a i : Nat) (x : Int) : hK (hsetV u a i x) = hK u := Eq.trans (b := hK u) rfl rfl
theorem sV_N (u : hS) (a i : Nat) (x : Int) : hN (hsetV u a i x) = hN u := Eq.trans (b := hN u) rfl rfl
theorem sV_F (u : hS) (a i : Nat) (x : Int) : hF (hsetV u a i x) = hF u := Eq.trans (b := hF u) rfl rfl
theorem sV_V (u : hS) (a i : Nat) (x : Int) (b j : Nat) : hV (hsetV u a i x) b j = if b = a ∧ j = i then x else hV u b j := Eq.trans (b := if b = a ∧ j = i then x else hV u b j) rfl rfl
theorem nL_B {w : hS} {n l b : Nat} (h : hB w = b) : hB (nL w n l) = b + 3 := by
  unfold nL
  rw [nA_B, nA_B, nA_B, sV_B, h]
theorem nT1_B {u : hS} {t : Nat} (hb : hB u = t) : hB (nT1 u t) = t + 5 := by
  unfold nT1
  rw [sF_B, nL_B (b := t + 2) (by rw [mk_B, sV_B, sV_B, mk_B, hb])]
theorem nT2_B {u : hS} {t : Nat} (hb : hB u = t) : hB (nT2 u t) = t + 9 := by
  unfold nT2
  rw [sV_B, sF_B, nL_B (b := t + 6) (by rw [mk_B, nT1_B hb])]
theorem nT3_B {u : hS} {t : Nat} (hb : hB u = t) : hB (nT3 u t) = t + 13 := by
  unfold nT3
  rw [sV_B, nA_B, nA_B, sV_B, nA_B, nA_B, nT2_B hb]
theorem nT_B {u : hS} {t : Nat} (hb : hB u = t) : hB (nT u t) = t + 18 := by
  unfold nT
  rw [nA_B, nA_B, nA_B, nA_B, nA_B, nT3_B hb]
theorem x_newT {u : hS} {t : Nat} (hb : hB u = t) (t0 : 0 < t) : m_X7_init t (hmake u 7 0) = some (0, nT u t) := by
  have k0 : okk (hmake u 7 0) t 7 := ⟨t0, by rw [mk_B]; omega, by rw [mk_K, if_pos hb.symm]⟩
  have k1 : okk (hsetV (hsetV (hmake u 7 0) t 0 0) t 1 0) t 7 := k0
  have b1 : hB (hsetV (hsetV (hmake u 7 0) t 0 0) t 1 0) = t + 1 := by rw [sV_B, sV_B, mk_B, hb]
  have k2 : ∀ {w : hS} {a k n : Nat} {j : Nat}, okk w a j → okk (hmake w k n) a j := fun {w a k n j} h => by
    obtain ⟨x, y, z⟩ := h
    refine ⟨x, ?_, ?_⟩
    · rw [mk_B]
      omega
    · rw [mk_K, if_neg (by omega)]
      exact z
  have k3 : ∀ {w : hS} {a n l j : Nat}, okk w a j → okk (nL w n l) a j := fun {w a n l j} h => nA_k (nA_k (nA_k h))
  have l1 : okk (hmake (hsetV (hsetV (hmake u 7 0) t 0 0) t 1 0) 1 0) (t + 1) 1 := ⟨by omega, by rw [mk_B, b1]; omega, by rw [mk_K, b1, if_pos rfl]⟩
  have m1 : okk (nL (hmake (hsetV (hsetV (hmake u 7 0) t 0 0) t 1 0) 1 0) 9 (t + 1)) t 7 := k3 (k2 k1)
  have b5 := nT1_B hb
  have l5 : okk (hmake (nT1 u t) 1 0) (t + 5) 1 := ⟨by omega, by rw [mk_B, b5]; omega, by rw [mk_K, b5, if_pos rfl]⟩
  have m5 : okk (nT1 u t) t 7 := m1
  have m6 : okk (nL (hmake (nT1 u t) 1 0) 4 (t + 5)) t 7 := k3 (k2 m5)
  have m7 : okk (hsetF (nL (hmake (nT1 u t) 1 0) 4 (t + 5)) t 3 (t + 5)) t 7 := m6
  have m8 : okk (nT2 u t) t 7 := m6
  have m9 := nA_k (n := 4) (t := t) (i := 5) m8
  have m10 := nA_k (n := 4) (t := t) (i := 6) m9
  have m10' : okk (hsetV (nA (nA (nT2 u t) 4 t 5) 4 t 6) t 7 0) t 7 := m10
  have m11 := nA_k (n := 4) (t := t) (i := 8) m10'
  have m12 := nA_k (n := 36) (t := t) (i := 9) m11
  have m12' : okk (nT3 u t) t 7 := m12
  have m13 := nA_k (n := 8) (t := t) (i := 11) m12'
  have m14 := nA_k (n := 8) (t := t) (i := 12) m13
  have m15 := nA_k (n := 8) (t := t) (i := 13) m14
  have m16 := nA_k (n := 8) (t := t) (i := 14) m15
  have hn : ∀ (k : Nat) (f : Nat → hM) (w : hS), hnew k f w = f (hB w) (hmake w k 0) := fun _ _ _ => rfl
  unfold m_X7_init
  rw [hpI_k k0, hpI_k (show okk (hsetV (hmake u 7 0) t 0 0) t 7 from k0), hn, b1, hassert_ok (by omega), hcall_b, x_init9 l1, hbind_p, hpR_k m1]
  show (hnew 1 _) (nT1 u t) = _
  rw [hn, b5, hassert_ok (by omega), hcall_b, x_init4 l5, hbind_p, hpR_k m6, hpI_k m7]
  show (hnewA 20 4 _) (nT2 u t) = _
  rw [nA_r m8, nA_r m9, hpI_k m10, nA_r m10', nA_r m11, hpI_k m12]
  show (hnewA 20 8 _) (nT3 u t) = _
  rw [nA_r m12', nA_r m13, nA_r m14, nA_r m15, nA_r m16]
  rfl
/-- below t nothing has changed -/
def loT (t : Nat) (u v : hS) : Prop := t ≤ hB v ∧ ∀ a, a < t → hK v a = hK u a ∧ hN v a = hN u a ∧ (∀ i, hV v a i = hV u a i) ∧ ∀ i, hF v a i = hF u a i
theorem loT.mk {t : Nat} {u v : hS} (h : loT t u v) (k n : Nat) : loT t u (hmake v k n) := by
  refine ⟨by rw [mk_B]; have := h.1; omega, fun a ha => ?_⟩
  have g := h.2 a ha
  have hb := h.1
  refine ⟨?_, ?_, fun i => ?_, fun i => ?_⟩
  · rw [mk_K, if_neg (by omega)]
    exact g.1
  · rw [mk_N, if_neg (by omega)]
    exact g.2.1
  · rw [mk_V, if_neg (by omega)]
    exact g.2.2.1 i
  · rw [mk_F, if_neg (by omega)]
    exact g.2.2.2 i
theorem loT.sF {t : Nat} {u v : hS} (h : loT t u v) {b : Nat} (i x : Nat) (hb : t ≤ b) : loT t u (hsetF v b i x) := ⟨h.1, fun a ha => ⟨(h.2 a ha).1, (h.2 a ha).2.1, (h.2 a ha).2.2.1, fun j => by rw [sF_F, if_neg (by omega)]; exact (h.2 a ha).2.2.2 j⟩⟩
theorem loT.sV {t : Nat} {u v : hS} (h : loT t u v) {b : Nat} (i : Nat) (x : Int) (hb : t ≤ b) : loT t u (hsetV v b i x) := ⟨h.1, fun a ha => ⟨(h.2 a ha).1, (h.2 a ha).2.1, fun j => by rw [sV_V, if_neg (by omega)]; exact (h.2 a ha).2.2.1 j, (h.2 a ha).2.2.2⟩⟩
theorem loT.nA {t : Nat} {u v : hS} (h : loT t u v) (n : Nat) {b : Nat} (i : Nat) (hb : t ≤ b) : loT t u (nA v n b i) := (h.mk 20 n).sF i _ hb
theorem loT.nL {t : Nat} {u v : hS} (h : loT t u v) (n : Nat) {b : Nat} (hb : t ≤ b) : loT t u (nL v n b) := (((h.sV 3 0 hb).nA n 0 hb).nA n 1 hb).nA n 2 hb
theorem nT_lo {u : hS} {t : Nat} (hb : hB u = t) : loT t u (nT u t) := by
  have r : loT t u u := ⟨by omega, fun a _ => ⟨rfl, rfl, fun _ => rfl, fun _ => rfl⟩⟩
  have r1 : loT t u (nT1 u t) := (((((r.mk 7 0).sV 0 0 (Nat.le_refl _)).sV 1 0 (Nat.le_refl _)).mk 1 0).nL 9 (by omega)).sF 2 _ (Nat.le_refl _)
  have r2 : loT t u (nT2 u t) := (((r1.mk 1 0).nL 4 (by omega)).sF 3 _ (Nat.le_refl _)).sV 4 0 (Nat.le_refl _)
  have r3 : loT t u (nT3 u t) := (((((r2.nA 4 5 (Nat.le_refl _)).nA 4 6 (Nat.le_refl _)).sV 7 0 (Nat.le_refl _)).nA 4 8 (Nat.le_refl _)).nA 36 9 (Nat.le_refl _)).sV 10 0 (Nat.le_refl _)
  exact ((((r3.nA 8 11 (Nat.le_refl _)).nA 8 12 (Nat.le_refl _)).nA 8 13 (Nat.le_refl _)).nA 8 14 (Nat.le_refl _)).nA 64 15 (Nat.le_refl _)
/-- all numbers of the new places are 0 -/
def zrT (t : Nat) (v : hS) : Prop := ∀ a i, t ≤ a → a < hB v → hV v a i = 0
theorem zrT.mk {t : Nat} {v : hS} (h : zrT t v) (k n : Nat) : zrT t (hmake v k n) := fun a i h1 h2 => by
  rw [mk_B] at h2
  rw [mk_V]
  by_cases e : a = hB v
  · rw [if_pos e]
  · rw [if_neg e]
    exact h a i h1 (by omega)
theorem zrT.sF {t : Nat} {v : hS} (h : zrT t v) (b i x : Nat) : zrT t (hsetF v b i x) := fun a j h1 h2 => h a j h1 h2
theorem zrT.sV {t : Nat} {v : hS} (h : zrT t v) (b i : Nat) : zrT t (hsetV v b i 0) := fun a j h1 h2 => by
  rw [sV_V]
  by_cases e : a = b ∧ j = i
  · rw [if_pos e]
  · rw [if_neg e]
    exact h a j h1 h2
theorem zrT.nA {t : Nat} {v : hS} (h : zrT t v) (n b i : Nat) : zrT t (nA v n b i) := (h.mk 20 n).sF b i _
theorem zrT.nL {t : Nat} {v : hS} (h : zrT t v) (n b : Nat) : zrT t (nL v n b) := (((h.sV b 3).nA n b 0).nA n b 1).nA n b 2
theorem nT_zr {u : hS} {t : Nat} (hb : hB u = t) : zrT t (nT u t) := by
  have r : zrT t u := fun a i h1 h2 => by omega
  have r1 : zrT t (nT1 u t) := (((((r.mk 7 0).sV t 0).sV t 1).mk 1 0).nL 9 (t + 1)).sF t 2 _
  have r2 : zrT t (nT2 u t) := (((r1.mk 1 0).nL 4 (t + 5)).sF t 3 _).sV t 4
  have r3 : zrT t (nT3 u t) := (((((r2.nA 4 t 5).nA 4 t 6).sV t 7).nA 4 t 8).nA 36 t 9).sV t 10
  exact ((((r3.nA 8 t 11).nA 8 t 12).nA 8 t 13).nA 8 t 14).nA 64 t 15
theorem nT_k {u : hS} {t : Nat} (hb : hB u = t) (t0 : 0 < t) {a k : Nat} (h1 : t ≤ a) (h2 : a ≤ t + 17) (h : hK (nT u t) a = k) : okk (nT u t) a k := ⟨by omega, by rw [nT_B hb]; omega, h⟩
theorem nT_k0 {u : hS} {t : Nat} (hb : hB u = t) : hK (nT u t) (t) = 7 := by
  simp only [nT, nT3, nT2, nT1, nL, nA_K, mk_K, sV_K, sF_K, nA_B, mk_B, sV_B, sF_B, hb, ↓reduceIte, Nat.reduceEqDiff, Nat.add_eq_left, Nat.left_eq_add, Nat.reduceAdd, Nat.add_assoc]
theorem nT_k1 {u : hS} {t : Nat} (hb : hB u = t) : hK (nT u t) (t + 1) = 1 := by
  simp only [nT, nT3, nT2, nT1, nL, nA_K, mk_K, sV_K, sF_K, nA_B, mk_B, sV_B, sF_B, hb, ↓reduceIte, Nat.reduceEqDiff, Nat.add_eq_left, Nat.left_eq_add, Nat.reduceAdd, Nat.add_assoc]
theorem nT_k2 {u : hS} {t : Nat} (hb : hB u = t) : hK (nT u t) (t + 2) = 20 := by
  simp only [nT, nT3, nT2, nT1, nL, nA_K, mk_K, sV_K, sF_K, nA_B, mk_B, sV_B, sF_B, hb, ↓reduceIte, Nat.reduceEqDiff, Nat.add_eq_left, Nat.left_eq_add, Nat.reduceAdd, Nat.add_assoc]
theorem nT_k3 {u : hS} {t : Nat} (hb : hB u = t) : hK (nT u t) (t + 3) = 20 := by
  simp only [nT, nT3, nT2, nT1, nL, nA_K, mk_K, sV_K, sF_K, nA_B, mk_B, sV_B, sF_B, hb, ↓reduceIte, Nat.reduceEqDiff, Nat.add_eq_left, Nat.left_eq_add, Nat.reduceAdd, Nat.add_assoc]
theorem nT_k4 {u : hS} {t : Nat} (hb : hB u = t) : hK (nT u t) (t + 4) = 20 := by
  simp only [nT, nT3, nT2, nT1, nL, nA_K, mk_K, sV_K, sF_K, nA_B, mk_B, sV_B, sF_B, hb, ↓reduceIte, Nat.reduceEqDiff, Nat.add_eq_left, Nat.left_eq_add, Nat.reduceAdd, Nat.add_assoc]
theorem nT_k5 {u : hS} {t : Nat} (hb : hB u = t) : hK (nT u t) (t + 5) = 1 := by
  simp only [nT, nT3, nT2, nT1, nL, nA_K, mk_K, sV_K, sF_K, nA_B, mk_B, sV_B, sF_B, hb, ↓reduceIte, Nat.reduceEqDiff, Nat.add_eq_left, Nat.left_eq_add, Nat.reduceAdd, Nat.add_assoc]
theorem nT_k6 {u : hS} {t : Nat} (hb : hB u = t) : hK (nT u t) (t + 6) = 20 := by
  simp only [nT, nT3, nT2, nT1, nL, nA_K, mk_K, sV_K, sF_K, nA_B, mk_B, sV_B, sF_B, hb, ↓reduceIte, Nat.reduceEqDiff, Nat.add_eq_left, Nat.left_eq_add, Nat.reduceAdd, Nat.add_assoc]
theorem nT_k7 {u : hS} {t : Nat} (hb : hB u = t) : hK (nT u t) (t + 7) = 20 := by
  simp only [nT, nT3, nT2, nT1, nL, nA_K, mk_K, sV_K, sF_K, nA_B, mk_B, sV_B, sF_B, hb, ↓reduceIte, Nat.reduceEqDiff, Nat.add_eq_left, Nat.left_eq_add, Nat.reduceAdd, Nat.add_assoc]
theorem nT_k8 {u : hS} {t : Nat} (hb : hB u = t) : hK (nT u t) (t + 8) = 20 := by
  simp only [nT, nT3, nT2, nT1, nL, nA_K, mk_K, sV_K, sF_K, nA_B, mk_B, sV_B, sF_B, hb, ↓reduceIte, Nat.reduceEqDiff, Nat.add_eq_left, Nat.left_eq_add, Nat.reduceAdd, Nat.add_assoc]
theorem nT_k9 {u : hS} {t : Nat} (hb : hB u = t) : hK (nT u t) (t + 9) = 20 := by
  simp only [nT, nT3, nT2, nT1, nL, nA_K, mk_K, sV_K, sF_K, nA_B, mk_B, sV_B, sF_B, hb, ↓reduceIte, Nat.reduceEqDiff, Nat.add_eq_left, Nat.left_eq_add, Nat.reduceAdd, Nat.add_assoc]
theorem nT_k10 {u : hS} {t : Nat} (hb : hB u = t) : hK (nT u t) (t + 10) = 20 := by
  simp only [nT, nT3, nT2, nT1, nL, nA_K, mk_K, sV_K, sF_K, nA_B, mk_B, sV_B, sF_B, hb, ↓reduceIte, Nat.reduceEqDiff, Nat.add_eq_left, Nat.left_eq_add, Nat.reduceAdd, Nat.add_assoc]
theorem nT_k11 {u : hS} {t : Nat} (hb : hB u = t) : hK (nT u t) (t + 11) = 20 := by
  simp only [nT, nT3, nT2, nT1, nL, nA_K, mk_K, sV_K, sF_K, nA_B, mk_B, sV_B, sF_B, hb, ↓reduceIte, Nat.reduceEqDiff, Nat.add_eq_left, Nat.left_eq_add, Nat.reduceAdd, Nat.add_assoc]
theorem nT_k12 {u : hS} {t : Nat} (hb : hB u = t) : hK (nT u t) (t + 12) = 20 := by
  simp only [nT, nT3, nT2, nT1, nL, nA_K, mk_K, sV_K, sF_K, nA_B, mk_B, sV_B, sF_B, hb, ↓reduceIte, Nat.reduceEqDiff, Nat.add_eq_left, Nat.left_eq_add, Nat.reduceAdd, Nat.add_assoc]
theorem nT_k13 {u : hS} {t : Nat} (hb : hB u = t) : hK (nT u t) (t + 13) = 20 := by
  simp only [nT, nT3, nT2, nT1, nL, nA_K, mk_K, sV_K, sF_K, nA_B, mk_B, sV_B, sF_B, hb, ↓reduceIte, Nat.reduceEqDiff, Nat.add_eq_left, Nat.left_eq_add, Nat.reduceAdd, Nat.add_assoc]
theorem nT_k14 {u : hS} {t : Nat} (hb : hB u = t) : hK (nT u t) (t + 14) = 20 := by
  simp only [nT, nT3, nT2, nT1, nL, nA_K, mk_K, sV_K, sF_K, nA_B, mk_B, sV_B, sF_B, hb, ↓reduceIte, Nat.reduceEqDiff, Nat.add_eq_left, Nat.left_eq_add, Nat.reduceAdd, Nat.add_assoc]
theorem nT_k15 {u : hS} {t : Nat} (hb : hB u = t) : hK (nT u t) (t + 15) = 20 := by
  simp only [nT, nT3, nT2, nT1, nL, nA_K, mk_K, sV_K, sF_K, nA_B, mk_B, sV_B, sF_B, hb, ↓reduceIte, Nat.reduceEqDiff, Nat.add_eq_left, Nat.left_eq_add, Nat.reduceAdd, Nat.add_assoc]
theorem nT_k16 {u : hS} {t : Nat} (hb : hB u = t) : hK (nT u t) (t + 16) = 20 := by
  simp only [nT, nT3, nT2, nT1, nL, nA_K, mk_K, sV_K, sF_K, nA_B, mk_B, sV_B, sF_B, hb, ↓reduceIte, Nat.reduceEqDiff, Nat.add_eq_left, Nat.left_eq_add, Nat.reduceAdd, Nat.add_assoc]
theorem nT_k17 {u : hS} {t : Nat} (hb : hB u = t) : hK (nT u t) (t + 17) = 20 := by
  simp only [nT, nT3, nT2, nT1, nL, nA_K, mk_K, sV_K, sF_K, nA_B, mk_B, sV_B, sF_B, hb, ↓reduceIte, Nat.reduceEqDiff, Nat.add_eq_left, Nat.left_eq_add, Nat.reduceAdd, Nat.add_assoc]
theorem nT_n2 {u : hS} {t : Nat} (hb : hB u = t) : hN (nT u t) (t + 2) = 9 := by
  simp only [nT, nT3, nT2, nT1, nL, nA_N, mk_N, sV_N, sF_N, nA_B, mk_B, sV_B, sF_B, hb, ↓reduceIte, Nat.reduceEqDiff, Nat.add_eq_left, Nat.left_eq_add, Nat.reduceAdd, Nat.add_assoc]
theorem nT_n3 {u : hS} {t : Nat} (hb : hB u = t) : hN (nT u t) (t + 3) = 9 := by
  simp only [nT, nT3, nT2, nT1, nL, nA_N, mk_N, sV_N, sF_N, nA_B, mk_B, sV_B, sF_B, hb, ↓reduceIte, Nat.reduceEqDiff, Nat.add_eq_left, Nat.left_eq_add, Nat.reduceAdd, Nat.add_assoc]
theorem nT_n4 {u : hS} {t : Nat} (hb : hB u = t) : hN (nT u t) (t + 4) = 9 := by
  simp only [nT, nT3, nT2, nT1, nL, nA_N, mk_N, sV_N, sF_N, nA_B, mk_B, sV_B, sF_B, hb, ↓reduceIte, Nat.reduceEqDiff, Nat.add_eq_left, Nat.left_eq_add, Nat.reduceAdd, Nat.add_assoc]
theorem nT_n6 {u : hS} {t : Nat} (hb : hB u = t) : hN (nT u t) (t + 6) = 4 := by
  simp only [nT, nT3, nT2, nT1, nL, nA_N, mk_N, sV_N, sF_N, nA_B, mk_B, sV_B, sF_B, hb, ↓reduceIte, Nat.reduceEqDiff, Nat.add_eq_left, Nat.left_eq_add, Nat.reduceAdd, Nat.add_assoc]
theorem nT_n7 {u : hS} {t : Nat} (hb : hB u = t) : hN (nT u t) (t + 7) = 4 := by
  simp only [nT, nT3, nT2, nT1, nL, nA_N, mk_N, sV_N, sF_N, nA_B, mk_B, sV_B, sF_B, hb, ↓reduceIte, Nat.reduceEqDiff, Nat.add_eq_left, Nat.left_eq_add, Nat.reduceAdd, Nat.add_assoc]
theorem nT_n8 {u : hS} {t : Nat} (hb : hB u = t) : hN (nT u t) (t + 8) = 4 := by
  simp only [nT, nT3, nT2, nT1, nL, nA_N, mk_N, sV_N, sF_N, nA_B, mk_B, sV_B, sF_B, hb, ↓reduceIte, Nat.reduceEqDiff, Nat.add_eq_left, Nat.left_eq_add, Nat.reduceAdd, Nat.add_assoc]
theorem nT_n9 {u : hS} {t : Nat} (hb : hB u = t) : hN (nT u t) (t + 9) = 4 := by
  simp only [nT, nT3, nT2, nT1, nL, nA_N, mk_N, sV_N, sF_N, nA_B, mk_B, sV_B, sF_B, hb, ↓reduceIte, Nat.reduceEqDiff, Nat.add_eq_left, Nat.left_eq_add, Nat.reduceAdd, Nat.add_assoc]
theorem nT_n10 {u : hS} {t : Nat} (hb : hB u = t) : hN (nT u t) (t + 10) = 4 := by
  simp only [nT, nT3, nT2, nT1, nL, nA_N, mk_N, sV_N, sF_N, nA_B, mk_B, sV_B, sF_B, hb, ↓reduceIte, Nat.reduceEqDiff, Nat.add_eq_left, Nat.left_eq_add, Nat.reduceAdd, Nat.add_assoc]
theorem nT_n11 {u : hS} {t : Nat} (hb : hB u = t) : hN (nT u t) (t + 11) = 4 := by
  simp only [nT, nT3, nT2, nT1, nL, nA_N, mk_N, sV_N, sF_N, nA_B, mk_B, sV_B, sF_B, hb, ↓reduceIte, Nat.reduceEqDiff, Nat.add_eq_left, Nat.left_eq_add, Nat.reduceAdd, Nat.add_assoc]
theorem nT_n12 {u : hS} {t : Nat} (hb : hB u = t) : hN (nT u t) (t + 12) = 36 := by
  simp only [nT, nT3, nT2, nT1, nL, nA_N, mk_N, sV_N, sF_N, nA_B, mk_B, sV_B, sF_B, hb, ↓reduceIte, Nat.reduceEqDiff, Nat.add_eq_left, Nat.left_eq_add, Nat.reduceAdd, Nat.add_assoc]
theorem nT_n13 {u : hS} {t : Nat} (hb : hB u = t) : hN (nT u t) (t + 13) = 8 := by
  simp only [nT, nT3, nT2, nT1, nL, nA_N, mk_N, sV_N, sF_N, nA_B, mk_B, sV_B, sF_B, hb, ↓reduceIte, Nat.reduceEqDiff, Nat.add_eq_left, Nat.left_eq_add, Nat.reduceAdd, Nat.add_assoc]
theorem nT_n14 {u : hS} {t : Nat} (hb : hB u = t) : hN (nT u t) (t + 14) = 8 := by
  simp only [nT, nT3, nT2, nT1, nL, nA_N, mk_N, sV_N, sF_N, nA_B, mk_B, sV_B, sF_B, hb, ↓reduceIte, Nat.reduceEqDiff, Nat.add_eq_left, Nat.left_eq_add, Nat.reduceAdd, Nat.add_assoc]
theorem nT_n15 {u : hS} {t : Nat} (hb : hB u = t) : hN (nT u t) (t + 15) = 8 := by
  simp only [nT, nT3, nT2, nT1, nL, nA_N, mk_N, sV_N, sF_N, nA_B, mk_B, sV_B, sF_B, hb, ↓reduceIte, Nat.reduceEqDiff, Nat.add_eq_left, Nat.left_eq_add, Nat.reduceAdd, Nat.add_assoc]
theorem nT_n16 {u : hS} {t : Nat} (hb : hB u = t) : hN (nT u t) (t + 16) = 8 := by
  simp only [nT, nT3, nT2, nT1, nL, nA_N, mk_N, sV_N, sF_N, nA_B, mk_B, sV_B, sF_B, hb, ↓reduceIte, Nat.reduceEqDiff, Nat.add_eq_left, Nat.left_eq_add, Nat.reduceAdd, Nat.add_assoc]
theorem nT_n17 {u : hS} {t : Nat} (hb : hB u = t) : hN (nT u t) (t + 17) = 64 := by
  simp only [nT, nT3, nT2, nT1, nL, nA_N, mk_N, sV_N, sF_N, nA_B, mk_B, sV_B, sF_B, hb, ↓reduceIte, Nat.reduceEqDiff, Nat.add_eq_left, Nat.left_eq_add, Nat.reduceAdd, Nat.add_assoc]
theorem nT_f0_2 {u : hS} {t : Nat} (hb : hB u = t) : hF (nT u t) t 2 = t + 1 := by
  simp only [nT, nT3, nT2, nT1, nL, nA_F, mk_F, sV_F, sF_F, nA_B, mk_B, sV_B, sF_B, hb, ↓reduceIte, Nat.reduceEqDiff, Nat.add_eq_left, Nat.left_eq_add, Nat.reduceAdd, Nat.add_assoc, true_and, and_true, false_and, and_false, Nat.reduceEqDiff]
theorem nT_f0_3 {u : hS} {t : Nat} (hb : hB u = t) : hF (nT u t) t 3 = t + 5 := by
  simp only [nT, nT3, nT2, nT1, nL, nA_F, mk_F, sV_F, sF_F, nA_B, mk_B, sV_B, sF_B, hb, ↓reduceIte, Nat.reduceEqDiff, Nat.add_eq_left, Nat.left_eq_add, Nat.reduceAdd, Nat.add_assoc, true_and, and_true, false_and, and_false, Nat.reduceEqDiff]
theorem nT_f0_5 {u : hS} {t : Nat} (hb : hB u = t) : hF (nT u t) t 5 = t + 9 := by
  simp only [nT, nT3, nT2, nT1, nL, nA_F, mk_F, sV_F, sF_F, nA_B, mk_B, sV_B, sF_B, hb, ↓reduceIte, Nat.reduceEqDiff, Nat.add_eq_left, Nat.left_eq_add, Nat.reduceAdd, Nat.add_assoc, true_and, and_true, false_and, and_false, Nat.reduceEqDiff]
theorem nT_f0_6 {u : hS} {t : Nat} (hb : hB u = t) : hF (nT u t) t 6 = t + 10 := by
  simp only [nT, nT3, nT2, nT1, nL, nA_F, mk_F, sV_F, sF_F, nA_B, mk_B, sV_B, sF_B, hb, ↓reduceIte, Nat.reduceEqDiff, Nat.add_eq_left, Nat.left_eq_add, Nat.reduceAdd, Nat.add_assoc, true_and, and_true, false_and, and_false, Nat.reduceEqDiff]
theorem nT_f0_8 {u : hS} {t : Nat} (hb : hB u = t) : hF (nT u t) t 8 = t + 11 := by
  simp only [nT, nT3, nT2, nT1, nL, nA_F, mk_F, sV_F, sF_F, nA_B, mk_B, sV_B, sF_B, hb, ↓reduceIte, Nat.reduceEqDiff, Nat.add_eq_left, Nat.left_eq_add, Nat.reduceAdd, Nat.add_assoc, true_and, and_true, false_and, and_false, Nat.reduceEqDiff]
theorem nT_f0_9 {u : hS} {t : Nat} (hb : hB u = t) : hF (nT u t) t 9 = t + 12 := by
  simp only [nT, nT3, nT2, nT1, nL, nA_F, mk_F, sV_F, sF_F, nA_B, mk_B, sV_B, sF_B, hb, ↓reduceIte, Nat.reduceEqDiff, Nat.add_eq_left, Nat.left_eq_add, Nat.reduceAdd, Nat.add_assoc, true_and, and_true, false_and, and_false, Nat.reduceEqDiff]
theorem nT_f0_11 {u : hS} {t : Nat} (hb : hB u = t) : hF (nT u t) t 11 = t + 13 := by
  simp only [nT, nT3, nT2, nT1, nL, nA_F, mk_F, sV_F, sF_F, nA_B, mk_B, sV_B, sF_B, hb, ↓reduceIte, Nat.reduceEqDiff, Nat.add_eq_left, Nat.left_eq_add, Nat.reduceAdd, Nat.add_assoc, true_and, and_true, false_and, and_false, Nat.reduceEqDiff]
theorem nT_f0_12 {u : hS} {t : Nat} (hb : hB u = t) : hF (nT u t) t 12 = t + 14 := by
  simp only [nT, nT3, nT2, nT1, nL, nA_F, mk_F, sV_F, sF_F, nA_B, mk_B, sV_B, sF_B, hb, ↓reduceIte, Nat.reduceEqDiff, Nat.add_eq_left, Nat.left_eq_add, Nat.reduceAdd, Nat.add_assoc, true_and, and_true, false_and, and_false, Nat.reduceEqDiff]
theorem nT_f0_13 {u : hS} {t : Nat} (hb : hB u = t) : hF (nT u t) t 13 = t + 15 := by
  simp only [nT, nT3, nT2, nT1, nL, nA_F, mk_F, sV_F, sF_F, nA_B, mk_B, sV_B, sF_B, hb, ↓reduceIte, Nat.reduceEqDiff, Nat.add_eq_left, Nat.left_eq_add, Nat.reduceAdd, Nat.add_assoc, true_and, and_true, false_and, and_false, Nat.reduceEqDiff]
theorem nT_f0_14 {u : hS} {t : Nat} (hb : hB u = t) : hF (nT u t) t 14 = t + 16 := by
  simp only [nT, nT3, nT2, nT1, nL, nA_F, mk_F, sV_F, sF_F, nA_B, mk_B, sV_B, sF_B, hb, ↓reduceIte, Nat.reduceEqDiff, Nat.add_eq_left, Nat.left_eq_add, Nat.reduceAdd, Nat.add_assoc, true_and, and_true, false_and, and_false, Nat.reduceEqDiff]
theorem nT_f0_15 {u : hS} {t : Nat} (hb : hB u = t) : hF (nT u t) t 15 = t + 17 := by
  simp only [nT, nT3, nT2, nT1, nL, nA_F, mk_F, sV_F, sF_F, nA_B, mk_B, sV_B, sF_B, hb, ↓reduceIte, Nat.reduceEqDiff, Nat.add_eq_left, Nat.left_eq_add, Nat.reduceAdd, Nat.add_assoc, true_and, and_true, false_and, and_false, Nat.reduceEqDiff]
theorem nT_f1_0 {u : hS} {t : Nat} (hb : hB u = t) : hF (nT u t) (t + 1) 0 = t + 2 := by
  simp only [nT, nT3, nT2, nT1, nL, nA_F, mk_F, sV_F, sF_F, nA_B, mk_B, sV_B, sF_B, hb, ↓reduceIte, Nat.reduceEqDiff, Nat.add_eq_left, Nat.left_eq_add, Nat.reduceAdd, Nat.add_assoc, true_and, and_true, false_and, and_false, Nat.reduceEqDiff]
theorem nT_f1_1 {u : hS} {t : Nat} (hb : hB u = t) : hF (nT u t) (t + 1) 1 = t + 3 := by
  simp only [nT, nT3, nT2, nT1, nL, nA_F, mk_F, sV_F, sF_F, nA_B, mk_B, sV_B, sF_B, hb, ↓reduceIte, Nat.reduceEqDiff, Nat.add_eq_left, Nat.left_eq_add, Nat.reduceAdd, Nat.add_assoc, true_and, and_true, false_and, and_false, Nat.reduceEqDiff]
theorem nT_f1_2 {u : hS} {t : Nat} (hb : hB u = t) : hF (nT u t) (t + 1) 2 = t + 4 := by
  simp only [nT, nT3, nT2, nT1, nL, nA_F, mk_F, sV_F, sF_F, nA_B, mk_B, sV_B, sF_B, hb, ↓reduceIte, Nat.reduceEqDiff, Nat.add_eq_left, Nat.left_eq_add, Nat.reduceAdd, Nat.add_assoc, true_and, and_true, false_and, and_false, Nat.reduceEqDiff]
theorem nT_f5_0 {u : hS} {t : Nat} (hb : hB u = t) : hF (nT u t) (t + 5) 0 = t + 6 := by
  simp only [nT, nT3, nT2, nT1, nL, nA_F, mk_F, sV_F, sF_F, nA_B, mk_B, sV_B, sF_B, hb, ↓reduceIte, Nat.reduceEqDiff, Nat.add_eq_left, Nat.left_eq_add, Nat.reduceAdd, Nat.add_assoc, true_and, and_true, false_and, and_false, Nat.reduceEqDiff]
theorem nT_f5_1 {u : hS} {t : Nat} (hb : hB u = t) : hF (nT u t) (t + 5) 1 = t + 7 := by
  simp only [nT, nT3, nT2, nT1, nL, nA_F, mk_F, sV_F, sF_F, nA_B, mk_B, sV_B, sF_B, hb, ↓reduceIte, Nat.reduceEqDiff, Nat.add_eq_left, Nat.left_eq_add, Nat.reduceAdd, Nat.add_assoc, true_and, and_true, false_and, and_false, Nat.reduceEqDiff]
theorem nT_f5_2 {u : hS} {t : Nat} (hb : hB u = t) : hF (nT u t) (t + 5) 2 = t + 8 := by
  simp only [nT, nT3, nT2, nT1, nL, nA_F, mk_F, sV_F, sF_F, nA_B, mk_B, sV_B, sF_B, hb, ↓reduceIte, Nat.reduceEqDiff, Nat.add_eq_left, Nat.left_eq_add, Nat.reduceAdd, Nat.add_assoc, true_and, and_true, false_and, and_false, Nat.reduceEqDiff]
theorem nT_tw {u : hS} {t : Nat} (hb : hB u = t) (t0 : 0 < t) : TwA (nT u t) t := ⟨nT_k hb t0 (by omega) (by omega) (nT_k0 hb), nT_k hb t0 (by omega) (by omega) (nT_k1 hb), nT_k hb t0 (by omega) (by omega) (nT_k2 hb), nT_k hb t0 (by omega) (by omega) (nT_k3 hb), nT_k hb t0 (by omega) (by omega) (nT_k4 hb), nT_k hb t0 (by omega) (by omega) (nT_k5 hb), nT_k hb t0 (by omega) (by omega) (nT_k6 hb), nT_k hb t0 (by omega) (by omega) (nT_k7 hb), nT_k hb t0 (by omega) (by omega) (nT_k8 hb), nT_k hb t0 (by omega) (by omega) (nT_k9 hb), nT_k hb t0 (by omega) (by omega) (nT_k10 hb), nT_k hb t0 (by omega) (by omega) (nT_k11 hb), nT_k hb t0 (by omega) (by omega) (nT_k12 hb), nT_k hb t0 (by omega) (by omega) (nT_k13 hb), nT_k hb t0 (by omega) (by omega) (nT_k14 hb), nT_k hb t0 (by omega) (by omega) (nT_k15 hb), nT_k hb t0 (by omega) (by omega) (nT_k16 hb), nT_k hb t0 (by omega) (by omega) (nT_k17 hb), nT_n2 hb, nT_n3 hb, nT_n4 hb, nT_n6 hb, nT_n7 hb, nT_n8 hb, nT_n9 hb, nT_n10 hb, nT_n11 hb, nT_n12 hb, nT_n13 hb, nT_n14 hb, nT_n15 hb, nT_n16 hb, nT_n17 hb, nT_f0_2 hb, nT_f0_3 hb, nT_f0_5 hb, nT_f0_6 hb, nT_f0_8 hb, nT_f0_9 hb, nT_f0_11 hb, nT_f0_12 hb, nT_f0_13 hb, nT_f0_14 hb, nT_f0_15 hb, nT_f1_0 hb, nT_f1_1 hb, nT_f1_2 hb, nT_f5_0 hb, nT_f5_1 hb, nT_f5_2 hb⟩
