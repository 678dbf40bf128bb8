/-! numbers, as the reference reads them -/
theorem y_numFin {u : hS} (hs : shp u) {n : Nat} (hn : hV u 220 1 = (n : Int)) (n4 : n ≤ 400) (lo hi : Int) (k v : Int) {q l : Nat} (hq : q + l ≤ n) (l0 : 0 < l) : (if ((w32 (((q + l : Nat) : Int) - (q : Int))) > 5) then m_X10_numberHere_L117 220 (q : Int) (rS u ((q + l : Nat) : Int) 0 v) else hbind (m_X10_in v lo hi (rS u ((q + l : Nat) : Int) 0 v)) (fun v4 => hif (v4 ≠ 0) m_X10_numberHere_L126 (m_X10_numberHere_L117 220 (q : Int)))) = some (if (5 < l ∨ v < lo ∨ hi < v) then 0 else 1, rS u ((q + l : Nat) : Int) ((if (5 < l ∨ v < lo ∨ hi < v) then 1 + 8 * q + 1 else 0 : Nat) : Int) v) := by
  have F := y_fails hs ((q + l : Nat) : Int) v (at' := q) (by omega) (j := 1) (by decide)
  have F' : m_X10_numberHere_L117 220 (q : Int) (rS u ((q + l : Nat) : Int) 0 v) = some (0, rS u ((q + l : Nat) : Int) ((1 + 8 * q + 1 : Nat) : Int) v) := by
    simp only [m_X10_numberHere_L117, m_X10_numberHere_L131, hcallV_b, rS_k, kk_220 hs]
    show hbind (m_X10_fails 220 ((1 : Nat) : Int) _ _) _ = _
    rw [F, hbind_s]
    rfl
  have e1 : True → w32 (((q + l : Nat) : Int) - (q : Int)) = ((l : Nat) : Int) := fun _ => w32_n (by omega) (by omega)
  rw [e1 trivial]
  by_cases h1 : 5 < l
  · rw [if_pos (by omega), if_pos (.inl h1), if_pos (.inl h1), F']
  · rw [if_neg (by omega), y_in' (u := rS u ((q + l : Nat) : Int) 0 v) (by rw [rS_shp]; exact hs) (by rw [rS_i n1]; exact hn) n4, hbind_s]
    by_cases h2 : lo ≤ v ∧ v ≤ hi
    · rw [if_pos h2, if_neg (by omega), if_neg (by omega)]
      rfl
    · rw [if_neg h2, if_pos (by omega), if_pos (by omega)]
      exact F'
theorem y_numL {u : hS} (hs : shp u) {n : Nat} (hn : hV u 220 1 = (n : Int)) (n4 : n ≤ 400) (lo hi k : Int) {q : Nat} : ∀ (d m j : Nat) (v : Int), d < m → q + j + d = n → 0 < j + dln (hV u 221) d (q + j) → m_X10_numberHere_L34 m 220 lo hi (q : Int) v (rS u ((q + j : Nat) : Int) 0 k) = some (if (5 < j + dln (hV u 221) d (q + j) ∨ dvv (hV u 221) q d j v < lo ∨ hi < dvv (hV u 221) q d j v) then 0 else 1, rS u ((q + (j + dln (hV u 221) d (q + j)) : Nat) : Int) ((if (5 < j + dln (hV u 221) d (q + j) ∨ dvv (hV u 221) q d j v < lo ∨ hi < dvv (hV u 221) q d j v) then 1 + 8 * q + 1 else 0 : Nat) : Int) (dvv (hV u 221) q d j v)) := by
  intro d
  induction d with
  | zero =>
    intro m j v hm hp hj
    obtain ⟨m, rfl⟩ : ∃ j, m = j + 1 := ⟨m - 1, by omega⟩
    have hL := y_isDigit hs hn n4 ((q + j : Nat) : Int) 0 k (show q + j ≤ n by omega)
    rw [if_neg (fun z => by have := z.1; omega)] at hL
    rw [m_X10_numberHere_L34]
    simp only [hgI_k, hgR_k, hpI_k, hpR_k, hpZ_k, haI_k, haR_k, hsI_k, hsZ_k, hlen_k, hlet_e, hret_e, hretZ_0, hretZ_1, hif_e, okk_setV, okk_setF, nV, nF, fV, vF, hcallV_b, hcall_b, rS_k, rS_8, rS_w10, kk_220 hs, hL, hbind_s]
    rw [if_pos (by trivial)]
    exact y_numFin hs hn n4 lo hi k v (by omega) (by exact hj)
  | succ d ih =>
    intro m j v hm hp hj
    obtain ⟨m, rfl⟩ : ∃ j, m = j + 1 := ⟨m - 1, by omega⟩
    have p4 : q + j < 400 := by omega
    have p6 : q + j < 1000000 := by omega
    have e1 : True → w32 (((q + j : Nat) : Int) - (q : Int)) = ((j : Nat) : Int) := fun _ => w32_n (by omega) (by omega)
    have hL := y_isDigit hs hn n4 ((q + j : Nat) : Int) 0 k (show q + j ≤ n by omega)
    rw [m_X10_numberHere_L34]
    rw [dln_s] at hj ⊢
    rw [dvv_s]
    by_cases h : isDg (hV u 221 (q + j))
    · rw [if_pos ⟨by omega, h⟩] at hL
      simp only [m_X10_numberHere_L75, hgI_k, hgR_k, hpI_k, hpR_k, hpZ_k, haI_k, haR_k, hsI_k, hsZ_k, hlen_k, hlet_e, hret_e, hretZ_0, hretZ_1, hif_e, okk_setV, okk_setF, nV, nF, fV, vF, haI_n, hcallV_b, hcall_b, rS_k, rS_N, rS_F, rS_8, rS_w8, rS_w10, rS_o (show 221 ≠ 220 by decide), kk_220 hs, kk_221 hs, ln_221 hs, rf_220_0 hs, p4, ix_s p6, hL, hbind_s, e1 trivial]
      rw [if_neg (by decide), if_pos h, if_pos h]
      have I := fun v => ih m (j + 1) v (by omega) (by omega) (by omega)
      rw [show j + (dln (hV u 221) d (q + j + 1) + 1) = j + 1 + dln (hV u 221) d (q + (j + 1)) by rw [show q + (j + 1) = q + j + 1 by omega]; omega]
      by_cases h5 : j < 5
      · rw [if_neg (by omega), if_pos h5]
        exact I _
      · rw [if_pos (by omega), if_neg h5]
        exact I _
    · rw [if_neg (fun z => h z.2)] at hL
      simp only [hgI_k, hgR_k, hpI_k, hpR_k, hpZ_k, haI_k, haR_k, hsI_k, hsZ_k, hlen_k, hlet_e, hret_e, hretZ_0, hretZ_1, hif_e, okk_setV, okk_setF, nV, nF, fV, vF, hcallV_b, hcall_b, rS_k, rS_8, rS_w10, kk_220 hs, hL, hbind_s]
      rw [if_pos (by trivial), if_neg h, if_neg h]
      rw [if_neg h] at hj
      exact y_numFin hs hn n4 lo hi k v (by omega) (by exact hj)
theorem y_numB {u : hS} (hs : shp u) {n : Nat} (hn : hV u 220 1 = (n : Int)) (n4 : n ≤ 400) (lo hi k : Int) {p : Nat} (hp : p ≤ n) (h : fN (hV u 221) n (sk (hV u 221) n p) lo hi ≠ 0) : ∃ p' k', m_X10_numberHere 220 lo hi (rS u (p : Int) 0 k) = some (0, rS u p' ((fN (hV u 221) n (sk (hV u 221) n p) lo hi : Nat) : Int) k') := by
  have b := (sk_le (hV u 221) hp).2
  have hL := y_isDigit hs hn n4 ((sk (hV u 221) n p : Nat) : Int) 0 k b
  by_cases h0 : dl (hV u 221) n (sk (hV u 221) n p) = 0
  · have F := y_fails hs ((sk (hV u 221) n p : Nat) : Int) k (at' := sk (hV u 221) n p) (by omega) (j := 0) (by decide)
    rw [if_neg (fun z => by have := (dl_pos (hV u 221)).2 z; omega)] at hL
    refine ⟨((sk (hV u 221) n p : Nat) : Int), k, ?_⟩
    · simp only [m_X10_numberHere, hgI_k, hgR_k, hpI_k, hpR_k, hpZ_k, haI_k, haR_k, hsI_k, hsZ_k, hlen_k, hlet_p, hret_p, hretZ_0, hretZ_1, hif_p, okk_setV, okk_setF, nV, nF, fV, vF, hcallV_b, hbind_p, rS_k, rS_8, kk_220 hs, y_see hs hn n4 0 k hp, hL]
      rw [if_neg (by decide)]
      show hbind (m_X10_fails 220 ((0 : Nat) : Int) _ _) _ = _
      rw [F, hbind_p]
      unfold fN
      rw [if_pos h0]
      rfl
  · rw [if_pos ((dl_pos (hV u 221)).1 (by omega))] at hL
    have L := y_numL hs hn n4 lo hi k (q := sk (hV u 221) n p) (n - sk (hV u 221) n p) 1000000000 0 0 (by omega) (by omega) (by rw [Nat.zero_add, Nat.add_zero]; unfold dl at h0; omega)
    rw [Nat.zero_add, Nat.add_zero] at L
    refine ⟨((sk (hV u 221) n p + dl (hV u 221) n (sk (hV u 221) n p) : Nat) : Int), dv (hV u 221) n (sk (hV u 221) n p), ?_⟩
    · simp only [m_X10_numberHere, hgI_k, hgR_k, hpI_k, hpR_k, hpZ_k, haI_k, haR_k, hsI_k, hsZ_k, hlen_k, hlet_p, hret_p, hretZ_0, hretZ_1, hif_p, okk_setV, okk_setF, nV, nF, fV, vF, hcallV_b, hbind_p, rS_k, rS_8, kk_220 hs, y_see hs hn n4 0 k hp, hL]
      rw [if_pos (by decide)]
      refine L.trans ?_
      have e : ∀ x y : Nat, dln (hV u 221) (n - sk (hV u 221) n p) (sk (hV u 221) n p) = dl (hV u 221) n (sk (hV u 221) n p) ∧ dvv (hV u 221) (sk (hV u 221) n p) (n - sk (hV u 221) n p) 0 0 = dv (hV u 221) n (sk (hV u 221) n p) := fun _ _ => ⟨rfl, rfl⟩
      rw [(e 0 0).1, (e 0 0).2]
      have f := h
      unfold fN at f ⊢
      rw [if_neg h0] at f ⊢
      have g : 5 < dl (hV u 221) n (sk (hV u 221) n p) ∨ dv (hV u 221) n (sk (hV u 221) n p) < lo ∨ hi < dv (hV u 221) n (sk (hV u 221) n p) := by
        apply Classical.byContradiction
        intro z
        rw [if_neg z] at f
        exact f rfl
      rw [if_pos g, if_pos g]
theorem y_numG {u : hS} (hs : shp u) {n : Nat} (hn : hV u 220 1 = (n : Int)) (n4 : n ≤ 400) (lo hi k : Int) {p : Nat} (hp : p ≤ n) (h : fN (hV u 221) n (sk (hV u 221) n p) lo hi = 0) : m_X10_numberHere 220 lo hi (rS u (p : Int) 0 k) = some (1, rS u ((sk (hV u 221) n p + dl (hV u 221) n (sk (hV u 221) n p) : Nat) : Int) 0 (dv (hV u 221) n (sk (hV u 221) n p))) := by
  have b := (sk_le (hV u 221) hp).2
  have hL := y_isDigit hs hn n4 ((sk (hV u 221) n p : Nat) : Int) 0 k b
  obtain ⟨z1, z2, z3, z4⟩ := fN_0 h
  rw [if_pos ((dl_pos (hV u 221)).1 z1)] at hL
  have L := y_numL hs hn n4 lo hi k (q := sk (hV u 221) n p) (n - sk (hV u 221) n p) 1000000000 0 0 (by omega) (by omega) (by rw [Nat.zero_add, Nat.add_zero]; exact z1)
  rw [Nat.zero_add, Nat.add_zero] at L
  simp only [m_X10_numberHere, hgI_k, hgR_k, hpI_k, hpR_k, hpZ_k, haI_k, haR_k, hsI_k, hsZ_k, hlen_k, hlet_p, hret_p, hretZ_0, hretZ_1, hif_p, okk_setV, okk_setF, nV, nF, fV, vF, hcallV_b, hbind_p, rS_k, rS_8, kk_220 hs, y_see hs hn n4 0 k hp, hL]
  rw [if_pos (by decide)]
  refine L.trans ?_
  have e : ∀ x y : Nat, dln (hV u 221) (n - sk (hV u 221) n p) (sk (hV u 221) n p) = dl (hV u 221) n (sk (hV u 221) n p) ∧ dvv (hV u 221) (sk (hV u 221) n p) (n - sk (hV u 221) n p) 0 0 = dv (hV u 221) n (sk (hV u 221) n p) := fun _ _ => ⟨rfl, rfl⟩
  rw [(e 0 0).1, (e 0 0).2, if_neg (by omega), if_neg (by omega)]
  rfl
