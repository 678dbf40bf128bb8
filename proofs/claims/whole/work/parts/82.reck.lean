/-! rules reckoned: the programs -/
def RuA (u : hS) (q : Nat) : Prop := okk u q 3 ∧ okk u (q + 1) 20 ∧ okk u (q + 2) 20 ∧ okk u (q + 3) 20 ∧ okk u (q + 4) 20 ∧ okk u (q + 5) 20 ∧ okk u (q + 6) 21 ∧ hN u (q + 1) = 400 ∧ hN u (q + 2) = 400 ∧ hN u (q + 3) = 12 ∧ hN u (q + 4) = 12 ∧ hN u (q + 5) = 12 ∧ hN u (q + 6) = 60 ∧ hF u q 0 = q + 1 ∧ hF u q 1 = q + 2 ∧ hF u q 2 = q + 3 ∧ hF u q 3 = q + 4 ∧ hF u q 4 = q + 5 ∧ hF u q 5 = q + 6
theorem RuA.k0 {u : hS} {q : Nat} (h : RuA u q) : okk u q 3 := h.1
theorem RuA.k1 {u : hS} {q : Nat} (h : RuA u q) : okk u (q + 1) 20 := h.2.1
theorem RuA.k2 {u : hS} {q : Nat} (h : RuA u q) : okk u (q + 2) 20 := h.2.2.1
theorem RuA.k3 {u : hS} {q : Nat} (h : RuA u q) : okk u (q + 3) 20 := h.2.2.2.1
theorem RuA.k4 {u : hS} {q : Nat} (h : RuA u q) : okk u (q + 4) 20 := h.2.2.2.2.1
theorem RuA.k5 {u : hS} {q : Nat} (h : RuA u q) : okk u (q + 5) 20 := h.2.2.2.2.2.1
theorem RuA.k6 {u : hS} {q : Nat} (h : RuA u q) : okk u (q + 6) 21 := h.2.2.2.2.2.2.1
theorem RuA.n1 {u : hS} {q : Nat} (h : RuA u q) : hN u (q + 1) = 400 := h.2.2.2.2.2.2.2.1
theorem RuA.n2 {u : hS} {q : Nat} (h : RuA u q) : hN u (q + 2) = 400 := h.2.2.2.2.2.2.2.2.1
theorem RuA.n3 {u : hS} {q : Nat} (h : RuA u q) : hN u (q + 3) = 12 := h.2.2.2.2.2.2.2.2.2.1
theorem RuA.n4 {u : hS} {q : Nat} (h : RuA u q) : hN u (q + 4) = 12 := h.2.2.2.2.2.2.2.2.2.2.1
theorem RuA.n5 {u : hS} {q : Nat} (h : RuA u q) : hN u (q + 5) = 12 := h.2.2.2.2.2.2.2.2.2.2.2.1
theorem RuA.n6 {u : hS} {q : Nat} (h : RuA u q) : hN u (q + 6) = 60 := h.2.2.2.2.2.2.2.2.2.2.2.2.1
theorem RuA.f0 {u : hS} {q : Nat} (h : RuA u q) : hF u q 0 = q + 1 := h.2.2.2.2.2.2.2.2.2.2.2.2.2.1
theorem RuA.f1 {u : hS} {q : Nat} (h : RuA u q) : hF u q 1 = q + 2 := h.2.2.2.2.2.2.2.2.2.2.2.2.2.2.1
theorem RuA.f2 {u : hS} {q : Nat} (h : RuA u q) : hF u q 2 = q + 3 := h.2.2.2.2.2.2.2.2.2.2.2.2.2.2.2.1
theorem RuA.f3 {u : hS} {q : Nat} (h : RuA u q) : hF u q 3 = q + 4 := h.2.2.2.2.2.2.2.2.2.2.2.2.2.2.2.2.1
theorem RuA.f4 {u : hS} {q : Nat} (h : RuA u q) : hF u q 4 = q + 5 := h.2.2.2.2.2.2.2.2.2.2.2.2.2.2.2.2.2.1
theorem RuA.f5 {u : hS} {q : Nat} (h : RuA u q) : hF u q 5 = q + 6 := h.2.2.2.2.2.2.2.2.2.2.2.2.2.2.2.2.2.2
theorem rul_at {u : hS} (hs : shp u) {r : Nat} (h : r < 6) : RuA u (54 + 7 * r) ∧ hF u 4 r = 54 + 7 * r := by
  have c : r = 0 ∨ r = 1 ∨ r = 2 ∨ r = 3 ∨ r = 4 ∨ r = 5 := by omega
  rcases c with rfl | rfl | rfl | rfl | rfl | rfl
  · exact ⟨⟨kk_54 hs, kk_55 hs, kk_56 hs, kk_57 hs, kk_58 hs, kk_59 hs, kk_60 hs, ln_55 hs, ln_56 hs, ln_57 hs, ln_58 hs, ln_59 hs, ln_60 hs, rf_54_0 hs, rf_54_1 hs, rf_54_2 hs, rf_54_3 hs, rf_54_4 hs, rf_54_5 hs⟩, rf_4_0 hs⟩
  · exact ⟨⟨kk_61 hs, kk_62 hs, kk_63 hs, kk_64 hs, kk_65 hs, kk_66 hs, kk_67 hs, ln_62 hs, ln_63 hs, ln_64 hs, ln_65 hs, ln_66 hs, ln_67 hs, rf_61_0 hs, rf_61_1 hs, rf_61_2 hs, rf_61_3 hs, rf_61_4 hs, rf_61_5 hs⟩, rf_4_1 hs⟩
  · exact ⟨⟨kk_68 hs, kk_69 hs, kk_70 hs, kk_71 hs, kk_72 hs, kk_73 hs, kk_74 hs, ln_69 hs, ln_70 hs, ln_71 hs, ln_72 hs, ln_73 hs, ln_74 hs, rf_68_0 hs, rf_68_1 hs, rf_68_2 hs, rf_68_3 hs, rf_68_4 hs, rf_68_5 hs⟩, rf_4_2 hs⟩
  · exact ⟨⟨kk_75 hs, kk_76 hs, kk_77 hs, kk_78 hs, kk_79 hs, kk_80 hs, kk_81 hs, ln_76 hs, ln_77 hs, ln_78 hs, ln_79 hs, ln_80 hs, ln_81 hs, rf_75_0 hs, rf_75_1 hs, rf_75_2 hs, rf_75_3 hs, rf_75_4 hs, rf_75_5 hs⟩, rf_4_3 hs⟩
  · exact ⟨⟨kk_82 hs, kk_83 hs, kk_84 hs, kk_85 hs, kk_86 hs, kk_87 hs, kk_88 hs, ln_83 hs, ln_84 hs, ln_85 hs, ln_86 hs, ln_87 hs, ln_88 hs, rf_82_0 hs, rf_82_1 hs, rf_82_2 hs, rf_82_3 hs, rf_82_4 hs, rf_82_5 hs⟩, rf_4_4 hs⟩
  · exact ⟨⟨kk_89 hs, kk_90 hs, kk_91 hs, kk_92 hs, kk_93 hs, kk_94 hs, kk_95 hs, ln_90 hs, ln_91 hs, ln_92 hs, ln_93 hs, ln_94 hs, ln_95 hs, rf_89_0 hs, rf_89_1 hs, rf_89_2 hs, rf_89_3 hs, rf_89_4 hs, rf_89_5 hs⟩, rf_4_5 hs⟩
theorem tyS_le {c : Int} {st st1 : List Bool} (h : tyS c st = some st1) (l : st.length ≤ 60) : st1.length ≤ 60 := by
  rcases tyS_in h with ⟨hc, hl, rfl⟩ | ⟨hc, r, rfl, rfl⟩ | ⟨hc, r, rfl, rfl⟩ | ⟨hc, r, rfl, rfl⟩ | ⟨hc, r, rfl, rfl⟩
  · show st.length + 1 ≤ 60
    omega
  · exact l
  all_goals
    have l' : r.length + 1 + 1 ≤ 60 := l
    show r.length + 1 ≤ 60
    omega
theorem x_pushed {u : hS} (hs : shp u) {q i : Nat} (ru : RuA u q) (q54 : 54 ≤ q) (X : Nat → Int) (hi : i < 400) (oo : okO (hV u (q + 1) i) (hV u (q + 2) i)) (hc : hV u (q + 1) i = 0 ∨ hV u (q + 1) i = 1) : m_X3_pushed q i 7 (hput u (q + 6) X) = some (if hV u (q + 1) i = 0 then hV u (q + 2) i else hV u 7 (hV u (q + 2) i).toNat, hput u (q + 6) X) := by
  have e1 : hV (hput u (q + 6) X) (q + 1) = hV u (q + 1) := hV_put_n (by omega)
  have e2 : hV (hput u (q + 6) X) (q + 2) = hV u (q + 2) := hV_put_n (by omega)
  have e7 : hV (hput u (q + 6) X) 7 = hV u 7 := hV_put_n (by omega)
  rcases hc with h | h
  · simp only [m_X3_pushed_L36, m_X3_pushed_L35, m_X3_pushed, hgI_k, hgR_k, hpI_k, hpR_k, hpZ_k, haI_k, haR_k, hsI_k, hsZ_k, hlen_k, hlet_p, hret_p, hretZ_0, hretZ_1, hif_p, okk_setV, okk_setF, nV, nF, fV, vF, okk_put, nP, fP, haI_n, RuA.k0 ru, RuA.k1 ru, RuA.k2 ru, RuA.k3 ru, RuA.k4 ru, RuA.k5 ru, RuA.k6 ru, RuA.n1 ru, RuA.n2 ru, RuA.n3 ru, RuA.n4 ru, RuA.n5 ru, RuA.n6 ru, RuA.f0 ru, RuA.f1 ru, RuA.f2 ru, RuA.f3 ru, RuA.f4 ru, RuA.f5 ru, hi, e1, e2, h]
    rw [if_neg (by decide), if_pos trivial]
  · obtain ⟨o, ho⟩ : ∃ o : Nat, hV u (q + 2) i = o := ⟨(hV u (q + 2) i).toNat, by have := oo.2 h; omega⟩
    have o12 : o < 12 := by
      have := oo.2 h
      omega
    simp only [m_X3_pushed_L36, m_X3_pushed_L35, m_X3_pushed, hgI_k, hgR_k, hpI_k, hpR_k, hpZ_k, haI_k, haR_k, hsI_k, hsZ_k, hlen_k, hlet_p, hret_p, hretZ_0, hretZ_1, hif_p, okk_setV, okk_setF, nV, nF, fV, vF, okk_put, nP, fP, haI_n, RuA.k0 ru, RuA.k1 ru, RuA.k2 ru, RuA.k3 ru, RuA.k4 ru, RuA.k5 ru, RuA.k6 ru, RuA.n1 ru, RuA.n2 ru, RuA.n3 ru, RuA.n4 ru, RuA.n5 ru, RuA.n6 ru, RuA.f0 ru, RuA.f1 ru, RuA.f2 ru, RuA.f3 ru, RuA.f4 ru, RuA.f5 ru, kk_7 hs, ln_7 hs, hi, e1, e2, e7, h, ho, o12, Int.toNat_natCast]
    rw [if_pos (by decide), if_neg (by omega), if_neg (by omega), if_neg (by decide)]
theorem x_reckL {u : hS} (hs : shp u) {q M : Nat} (ru : RuA u q) (q54 : 54 ≤ q) (hM : M ≤ 400) (oo : ∀ j, j < M → okO (hV u (q + 1) j) (hV u (q + 2) j)) : ∀ (k n i : Nat) (X D : Nat → Int) (st st' : List Bool), k < n → i + k ≤ M → tyL (hV u (q + 1)) k i st = some st' → st.length ≤ 60 → (∀ j, j < st.length → X j = D j) → ∃ X', m_X3_reckon_L6 n q ((i + k : Nat) : Int) 7 st.length i (hput u (q + 6) X) = some (if st'.length = 0 then 0 else evR (hV u (q + 1)) (hV u (q + 2)) (hV u 7) k i D st.length 0, hput u (q + 6) X') := by
  intro k
  induction k with
  | zero =>
    intro n i X D st st' hn hi ht hl hX
    obtain ⟨n, rfl⟩ : ∃ k, n = k + 1 := ⟨n - 1, by omega⟩
    have e : some st = some st' := ht
    injection e with e
    subst e
    refine ⟨X, ?_⟩
    show _ = some (if st.length = 0 then 0 else D 0, hput u (q + 6) X)
    have z60 : 0 < 60 := by decide
    simp only [m_X3_reckon_L6, m_X3_reckon_L164, hgI_k, hgR_k, hpI_k, hpR_k, hpZ_k, haI_k, haR_k, hsI_k, hsZ_k, hlen_k, hlet_p, hret_p, hretZ_0, hretZ_1, hif_p, okk_setV, okk_setF, nV, nF, fV, vF, okk_put, nP, fP, haI_0, RuA.k0 ru, RuA.k1 ru, RuA.k2 ru, RuA.k3 ru, RuA.k4 ru, RuA.k5 ru, RuA.k6 ru, RuA.n1 ru, RuA.n2 ru, RuA.n3 ru, RuA.n4 ru, RuA.n5 ru, RuA.n6 ru, RuA.f0 ru, RuA.f1 ru, RuA.f2 ru, RuA.f3 ru, RuA.f4 ru, RuA.f5 ru, z60, hV_put_s]
    rw [if_pos (by omega)]
    by_cases h0 : st.length = 0
    · rw [if_pos (by omega), if_pos h0]
    · rw [if_neg (by omega), if_neg h0, hX 0 (by omega)]
  | succ k ih =>
    intro n i X D st st' hn hi ht hl hX
    obtain ⟨n, rfl⟩ : ∃ k, n = k + 1 := ⟨n - 1, by omega⟩
    obtain ⟨st1, h1, h2⟩ := tyL_s ht
    have l1 := tyS_le h1 hl
    have i400 : i < 400 := by omega
    have cg := evD_cg (o := hV u (q + 2) i) (W := hV u 7) h1 hX
    have tn := (ev_ty1 (o := hV u (q + 2) i) (W := hV u 7) (D := fun _ => 0) h1 (by
      clear hX ih ht h1 hl cg
      induction st with
      | nil => trivial
      | cons b r ih2 => exact ⟨fun _ => Or.inl rfl, ih2⟩)).2
    obtain ⟨X', q1⟩ := ih n (i + 1) (evD (hV u (q + 1) i) (hV u (q + 2) i) (hV u 7) X st.length) (evD (hV u (q + 1) i) (hV u (q + 2) i) (hV u 7) D st.length) st1 st' (by omega) (by omega) h2 l1 cg
    refine ⟨X', ?_⟩
    have ev : evR (hV u (q + 1)) (hV u (q + 2)) (hV u 7) (k + 1) i D st.length = evR (hV u (q + 1)) (hV u (q + 2)) (hV u 7) k (i + 1) (evD (hV u (q + 1) i) (hV u (q + 2) i) (hV u 7) D st.length) st1.length := by
      show evR (hV u (q + 1)) (hV u (q + 2)) (hV u 7) k (i + 1) (evD (hV u (q + 1) i) (hV u (q + 2) i) (hV u 7) D st.length) (evN (hV u (q + 1) i) st.length) = _
      rw [tn]
    rw [ev, ← q1]
    have ik : ((i + 1 + k : Nat) : Int) = ((i + (k + 1) : Nat) : Int) := by omega
    rw [ik]
    have e1 : hV (hput u (q + 6) X) (q + 1) = hV u (q + 1) := hV_put_n (by omega)
    have xi : ((i : Int) ≥ ((i + (k + 1) : Nat) : Int)) = False := by
      apply propext
      constructor
      · intro z
        omega
      · intro z
        exact z.elim
    rcases tyS_in h1 with ⟨hc, hl2, rfl⟩ | ⟨hc, r, rfl, rfl⟩ | ⟨hc, r, rfl, rfl⟩ | ⟨hc, r, rfl, rfl⟩ | ⟨hc, r, rfl, rfl⟩
    · have pu := x_pushed hs ru q54 X i400 (oo i (by omega)) hc
      have wl : w32 ((st.length : Int) + 1) = (((false :: st).length : Nat) : Int) := ix_s (by omega)
      have ex : sup X st.length (if hV u (q + 1) i = 0 then hV u (q + 2) i else hV u 7 (hV u (q + 2) i).toNat) = evD (hV u (q + 1) i) (hV u (q + 2) i) (hV u 7) X st.length := by
        unfold evD
        rcases hc with z | z
        · rw [if_pos z, if_pos z]
        · rw [if_neg (by omega), if_neg (by omega), if_pos z]
      have L : m_X3_reckon_L32 (m_X3_reckon_L6 n) q ((i + (k + 1) : Nat) : Int) 7 st.length i (hput u (q + 6) X) = m_X3_reckon_L6 n q ((i + (k + 1) : Nat) : Int) 7 (((false :: st).length : Nat) : Int) ((i + 1 : Nat) : Int) (hput u (q + 6) (evD (hV u (q + 1) i) (hV u (q + 2) i) (hV u 7) X st.length)) := by
        simp only [m_X3_reckon_L32, m_X3_reckon_L143, hgI_k, hgR_k, hpI_k, hpR_k, hpZ_k, haI_k, haR_k, hsI_k, hsZ_k, hlen_k, hlet_p, hret_p, hretZ_0, hretZ_1, hif_p, okk_setV, okk_setF, nV, nF, fV, vF, okk_put, nP, fP, hcallV_b, hbind_p, hsI_n, RuA.k0 ru, RuA.k1 ru, RuA.k2 ru, RuA.k3 ru, RuA.k4 ru, RuA.k5 ru, RuA.k6 ru, RuA.n1 ru, RuA.n2 ru, RuA.n3 ru, RuA.n4 ru, RuA.n5 ru, RuA.n6 ru, RuA.f0 ru, RuA.f1 ru, RuA.f2 ru, RuA.f3 ru, RuA.f4 ru, RuA.f5 ru, pu, hl2, setV_put, ex, wl, ix_s (show i < 1000000 by omega)]
        rw [if_neg (by omega)]
      rw [← L]
      simp only [m_X3_reckon_L6, hgI_k, hgR_k, hpI_k, hpR_k, hpZ_k, haI_k, haR_k, hsI_k, hsZ_k, hlen_k, hlet_p, hret_p, hretZ_0, hretZ_1, hif_p, okk_setV, okk_setF, nV, nF, fV, vF, okk_put, nP, fP, haI_n, RuA.k0 ru, RuA.k1 ru, RuA.k2 ru, RuA.k3 ru, RuA.k4 ru, RuA.k5 ru, RuA.k6 ru, RuA.n1 ru, RuA.n2 ru, RuA.n3 ru, RuA.n4 ru, RuA.n5 ru, RuA.n6 ru, RuA.f0 ru, RuA.f1 ru, RuA.f2 ru, RuA.f3 ru, RuA.f4 ru, RuA.f5 ru, i400, e1, xi, if_false]
      rcases hc with z | z
      · rw [if_pos z]
      · rw [if_neg (by omega), if_neg (by omega)]
    · have hl' : r.length + 1 ≤ 60 := hl
      have w1 : w32 ((((true :: r).length : Nat) : Int) - 1) = (r.length : Int) := by
        show w32 (((r.length + 1 : Nat) : Int) - 1) = _
        rw [w32_id ⟨by omega, by omega⟩]
        omega
      have r60 : r.length < 60 := by omega
      have ex : ∀ v, v = (if X r.length = 0 then (1 : Int) else 0) → sup X r.length v = evD (hV u (q + 1) i) (hV u (q + 2) i) (hV u 7) X (true :: r).length := by
        intro v hv
        rw [hc, hv]
        rfl
      have z0 : ¬ (((true :: r).length : Nat) : Int) ≤ 0 := by
        show ¬ ((r.length + 1 : Nat) : Int) ≤ 0
        omega
      have lc := (lcmp_0 (X r.length) 0).2.1
      simp only [m_X3_reckon_L6, m_X3_reckon_L100, m_X3_reckon_L143, hgI_k, hgR_k, hpI_k, hpR_k, hpZ_k, haI_k, haR_k, hsI_k, hsZ_k, hlen_k, hlet_p, hret_p, hretZ_0, hretZ_1, hif_p, okk_setV, okk_setF, nV, nF, fV, vF, okk_put, nP, fP, haI_n, hsI_n, RuA.k0 ru, RuA.k1 ru, RuA.k2 ru, RuA.k3 ru, RuA.k4 ru, RuA.k5 ru, RuA.k6 ru, RuA.n1 ru, RuA.n2 ru, RuA.n3 ru, RuA.n4 ru, RuA.n5 ru, RuA.n6 ru, RuA.f0 ru, RuA.f1 ru, RuA.f2 ru, RuA.f3 ru, RuA.f4 ru, RuA.f5 ru, i400, e1, xi, if_false, hc, if_neg z0, w1, r60, hV_put_s, setV_put, ix_s (show i < 1000000 by omega)]
      rw [if_neg (by decide), if_pos (by decide), if_neg (by decide)]
      by_cases z : X r.length = 0
      · rw [if_neg (fun y => lc.mp y z), ex 1 (by rw [if_pos z]), hc]
      · rw [if_pos (lc.mpr z), ex 0 (by rw [if_neg z]), hc]
    all_goals
      have jc : isNum (hV u (q + 1) i) ∨ isCmp (hV u (q + 1) i) ∨ isLog (hV u (q + 1) i) := by
        first
          | exact Or.inl hc
          | exact Or.inr (Or.inl hc)
          | exact Or.inr (Or.inr hc)
      have n0 : ¬ hV u (q + 1) i = 0 := by
        intro z
        rw [z] at hc
        revert hc
        decide
      have n1 : ¬ hV u (q + 1) i = 1 := by
        intro z
        rw [z] at hc
        revert hc
        decide
      have n2 : ¬ hV u (q + 1) i = 2 := by
        intro z
        rw [z] at hc
        revert hc
        decide
      have hl' : r.length + 1 + 1 ≤ 60 := hl
      have z1 : ∀ b c : Bool, ¬ (((b :: c :: r).length : Nat) : Int) ≤ 1 := fun b c => by
        show ¬ ((r.length + 1 + 1 : Nat) : Int) ≤ 1
        omega
      have w1 : ∀ b c : Bool, w32 ((((b :: c :: r).length : Nat) : Int) + -1) = ((r.length + 1 : Nat) : Int) := fun b c => by
        show w32 (((r.length + 1 + 1 : Nat) : Int) + -1) = _
        rw [w32_id ⟨by omega, by omega⟩]
        omega
      have w2 : w32 (((r.length + 1 : Nat) : Int) - 1) = (r.length : Int) := by
        rw [w32_id ⟨by omega, by omega⟩]
        omega
      have r60 : r.length < 60 := by omega
      have s60 : r.length + 1 < 60 := by omega
      have ex : ∀ b c : Bool, sup X r.length (jn (hV u (q + 1) i) (X r.length) (X (r.length + 1))) = evD (hV u (q + 1) i) (hV u (q + 2) i) (hV u 7) X (b :: c :: r).length := fun b c => by
        unfold evD
        rw [if_neg n0, if_neg n1, if_neg n2]
        rfl
      simp only [m_X3_reckon_L6, m_X3_reckon_L104, m_X3_reckon_L143, hgI_k, hgR_k, hpI_k, hpR_k, hpZ_k, haI_k, haR_k, hsI_k, hsZ_k, hlen_k, hlet_p, hret_p, hretZ_0, hretZ_1, hif_p, okk_setV, okk_setF, nV, nF, fV, vF, okk_put, nP, fP, haI_n, hsI_n, hcall_b, hbind_p, RuA.k0 ru, RuA.k1 ru, RuA.k2 ru, RuA.k3 ru, RuA.k4 ru, RuA.k5 ru, RuA.k6 ru, RuA.n1 ru, RuA.n2 ru, RuA.n3 ru, RuA.n4 ru, RuA.n5 ru, RuA.n6 ru, RuA.f0 ru, RuA.f1 ru, RuA.f2 ru, RuA.f3 ru, RuA.f4 ru, RuA.f5 ru, i400, e1, xi, if_false, if_neg n0, if_pos n1, if_pos n2, if_neg (z1 _ _), w1, w2, r60, s60, hV_put_s, x_join jc, setV_put, ix_s (show i < 1000000 by omega)]
      rw [ex]
      rfl
