def unW (S W : Nat → Int) (c i : Nat) : Nat → Int := fun k => if k < i then W (94 * c + k) else S k
theorem y_undoL {u : hS} (hs : shp u) {c : Nat} (hc : c < 20) (h25 : hV u 220 25 = c) (S : Nat → Int) : ∀ k n i : Nat, k < n → i + k = 94 → m_X10_undo_L21 n 220 i (hput u 230 (unW S (hV u 233) c i)) = some ((c : Int), hput u 230 (unW S (hV u 233) c 94)) := by
  intro k
  induction k with
  | zero =>
    intro n i hn hi
    obtain ⟨m, rfl⟩ : ∃ m, n = m + 1 := ⟨n - 1, by omega⟩
    obtain rfl : i = 94 := by omega
    simp only [m_X10_undo_L21, hgI_k, hgR_k, hpI_k, hpR_k, hpZ_k, haI_k, haR_k, hsI_k, hsZ_k, hlen_k, hlet_e, hret_e, hretZ_0, hretZ_1, hif_e, okk_setV, okk_setF, nV, nF, fV, vF, okk_put, nP, fP, kk_220 hs, hV_put_n (show 220 ≠ 230 by decide), h25]
    rw [if_pos (by omega)]
  | succ k ih =>
    intro n i hn hi
    obtain ⟨m, rfl⟩ : ∃ m, n = m + 1 := ⟨n - 1, by omega⟩
    have i1 : i < 160 := by omega
    have i2 : 94 * c + i < 1880 := by omega
    have i3 : i < 94 := by omega
    have i4 : i < 1000000 := by omega
    simp only [m_X10_undo_L21, hgI_k, hgR_k, hpI_k, hpR_k, hpZ_k, haI_k, haR_k, hsI_k, hsZ_k, hlen_k, hlet_e, hret_e, hretZ_0, hretZ_1, hif_e, okk_setV, okk_setF, nV, nF, fV, vF, okk_put, nP, fP, haI_n, hsI_n, kk_220 hs, kk_230 hs, kk_233 hs, rf_220_20 hs, rf_220_24 hs, ln_230 hs, ln_233 hs, hV_put_n (show 220 ≠ 230 by decide), hV_put_n (show 233 ≠ 230 by decide), h25, ix_k hc i3, ix_s i4, i1, i2, setV_put]
    rw [if_neg (by omega), ← ih m (i + 1) (by omega) (by omega)]
    congr 2
    funext j
    unfold sup unW
    by_cases h : j = i
    · rw [if_pos h, if_pos (by omega), h]
    · rw [if_neg h]
      by_cases h1 : j < i
      · rw [if_pos h1, if_pos (by omega)]
      · rw [if_neg h1, if_neg (by omega)]
theorem unW_0 (S W : Nat → Int) (c : Nat) : unW S W c 0 = S := by
  funext j
  exact if_neg (by omega)
theorem a_undo {u : hS} (hs : shp u) (ai : actInv u) : actAgree (m_X9_undo 1) (m_X10_undo 220) u := by
  obtain ⟨t, c, r, ru, h25⟩ := id ai
  obtain ⟨f, hf, h6, hc, h7, hp⟩ := id ru
  have tz := r.2.1
  by_cases h0 : c = 0
  · subst h0
    refine actAgree_same (r := -1) hs ai ?_ ?_
    · simp only [m_X9_undo, hgI_k, hgR_k, hpI_k, hpR_k, hpZ_k, haI_k, haR_k, hsI_k, hsZ_k, hlen_k, hlet_e, hret_e, hretZ_0, hretZ_1, hif_e, okk_setV, okk_setF, nV, nF, fV, vF, kk_1 hs, h7]
      rw [if_neg (by decide)]
    · simp only [m_X10_undo, hgI_k, hgR_k, hpI_k, hpR_k, hpZ_k, haI_k, haR_k, hsI_k, hsZ_k, hlen_k, hlet_e, hret_e, hretZ_0, hretZ_1, hif_e, okk_setV, okk_setF, nV, nF, fV, vF, kk_220 hs, h25]
      rw [if_neg (by decide)]
  obtain ⟨c, rfl⟩ : ∃ d, c = d + 1 := ⟨c - 1, by omega⟩
  have hlt : (f + c) % 20 < 20 := Nat.mod_lt _ (by decide)
  have ps := stp_past ((f + c) % 20) hlt
  have hs0 : shp (hsetV u 1 7 ((c : Nat) : Int)) := hs
  have wc : w32 (((c + 1 : Nat) : Int) - 1) = ((c : Nat) : Int) := w32_n (by omega) (by omega)
  obtain ⟨v, hv, cf⟩ := x_copy hs0 stp_30 ps (Or.inl (by omega))
  have hsv : shp v := cf.2.2.2.2.2.2.2.2
  have pz : pst f c = 96 + 5 * ((f + c) % 20) := rfl
  have ext0 : ext u (hsetV u 1 7 ((c : Nat) : Int)) := ext.setV _ _ _ _
  have rp : RepF (hsetV u 1 7 ((c : Nat) : Int)) (96 + 5 * ((f + c) % 20)) t (wS (hV u 230) (hV u 233) c) := (hp c (by omega)).fr ext0 (fun a _ _ => agr.setV (by omega)) (fun a _ _ => agr.setV (by omega))
  have rv := rp.cp cf stp_30
  have e : ext u v := ext0.tr cf.1
  have g : ∀ a, a ≠ 1 → a < 30 ∨ 34 < a → agr u v a := fun a h1 h2 => (agr.setV h1).tr (cf.2.1 a (by omega))
  have g6 : hV v 1 6 = f := by rw [(cf.2.1 1 (by omega) 6).1, hV_setV_i (by decide)]; exact h6
  have g7 : hV v 1 7 = c := by rw [(cf.2.1 1 (by omega) 7).1, hV_setV_s]
  have gi : ∀ i, i ≠ 6 → i ≠ 7 → hV v 1 i = hV u 1 i := fun i _ h => by rw [(cf.2.1 1 (by omega) i).1, hV_setV_i h]
  have gf : ∀ i, hF v 1 i = hF u 1 i := fun i => (cf.2.1 1 (by omega) i).2
  have ok : okAct u v := ⟨e, hsv, fun a ha => g a (by omega) (by omega), gi, gf⟩
  have hT : ∀ k, 94 ≤ k → wS (hV u 230) (hV u 233) c k = hV u 230 k := fun k hk => if_neg (by omega)
  have ru' : RepU v t (wS (hV u 230) (hV u 233) c) (hV u 233) c := by
    refine ⟨f, hf, g6, by omega, g7, fun j hj => ?_⟩
    have e2 : wS (wS (hV u 230) (hV u 233) c) (hV u 233) j = wS (hV u 230) (hV u 233) j := by
      funext k
      unfold wS
      by_cases h1 : k < 94
      · rw [if_pos h1, if_pos h1]
      · rw [if_neg h1, if_neg h1, if_neg h1]
    rw [e2]
    have z : 96 ≤ pst f j ∧ pst f j + 4 ≤ 195 := by unfold pst; omega
    exact (hp j (by omega)).fr e (fun a _ _ => g a (by omega) (by omega)) (fun a _ _ => g a (by omega) (by omega))
  have f230 : hV v 230 = hV u 230 := ok.V 230 (by decide)
  have f233 : hV v 233 = hV u 233 := ok.V 233 (by decide)
  have f25 : hV v 220 25 = ((c + 1 : Nat) : Int) := by rw [ok.V 220 (by decide)]; exact h25
  have hs2 : shp (hsetV v 220 25 ((c : Nat) : Int)) := hsv
  have yu := y_undoL hs2 (c := c) (by omega) (hV_setV_s _ _ _ _) (hV u 230) 94 1000000000 0 (by omega) (by omega)
  have k230 : hV (hsetV v 220 25 ((c : Nat) : Int)) 230 = hV u 230 := by rw [hV_ne (by decide), f230]
  have k233 : hV (hsetV v 220 25 ((c : Nat) : Int)) 233 = hV u 233 := by rw [hV_ne (by decide), f233]
  rw [unW_0, ← k230, hput_self, k230, k233] at yu
  have e3 : unW (hV u 230) (hV u 233) c 94 = wS (hV u 230) (hV u 233) c := rfl
  rw [e3] at yu
  have af := act_fin hsv rv ru'
  have em : hput (hsetV (hput v 233 (hV u 233)) 220 25 (c : Int)) 230 (wS (hV u 230) (hV u 233) c) = hput (hsetV v 220 25 (c : Int)) 230 (wS (hV u 230) (hV u 233) c) := by rw [← f233, hput_self]
  rw [em] at af
  have w1 : w32 ((f : Int) + (c : Int)) = ((f + c : Nat) : Int) := ix_n (by omega)
  refine ⟨(c : Int), v, _, ?_, ?_, ok, af.1, af.2⟩
  · simp only [m_X9_undo, hgI_k, hgR_k, hpI_k, hpR_k, hpZ_k, haI_k, haR_k, hsI_k, hsZ_k, hlen_k, hlet_e, hret_e, hretZ_0, hretZ_1, hif_e, okk_setV, okk_setF, nV, nF, fV, vF, hnz_20, haR_n, hcallV_b, hbind_s, kk_1 hs, kk_5 hs, kk_30 hs, rf_1_3 hs, rf_1_5 hs, ln_5 hs, h7, wc, hV_setV_i (show 6 ≠ 7 by decide), h6, hV_setV_s, w1, irem_n, hlt, rf_past hs _ hlt, hv, kk_1 hsv, g7]
    rw [if_pos (by omega)]
  · simp only [m_X10_undo, hgI_k, hgR_k, hpI_k, hpR_k, hpZ_k, haI_k, haR_k, hsI_k, hsZ_k, hlen_k, hlet_e, hret_e, hretZ_0, hretZ_1, hif_e, okk_setV, okk_setF, nV, nF, fV, vF, kk_220 hsv, f25, wc]
    rw [if_pos (by omega)]
    exact yu
