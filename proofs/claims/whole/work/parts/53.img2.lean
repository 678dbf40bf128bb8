theorem RepX_d : True := trivial
def RepX (u : hS) : Prop := hV u 1 9 = hV u 220 21 ∧ (0 ≤ hV u 220 21 ∧ hV u 220 21 < 2147483648) ∧ ∀ b, b < 9 → hV u 231 b = 0
theorem imgR.fr {u v : hS} {k : Nat} (h : imgR u k) (hk : k < 4) (e : ext u v) (g : ∀ a, 196 + 6 * k ≤ a → a ≤ 201 + 6 * k → agr u v a) (gt : ∀ a, 12 ≤ a ∧ a ≤ 29 ∨ 243 ≤ a → agr u v a) (g2 : hV v 242 k = hV u 242 k) (g1 : hV v 241 k = hV u 241 k) (g0 : ∀ j, j < 160 → hV v 240 (160 * k + j) = hV u 240 (160 * k + j)) : imgR v k := by
  obtain ⟨a, b, c⟩ := h
  refine ⟨?_, ?_, fun z => ?_⟩
  · rw [(g (196 + 6 * k) (by omega) (by omega) 1).1, g2]
    exact a
  · rw [g2]
    exact b
  · rw [g2] at z
    obtain ⟨c1, c2, t, c3⟩ := c z
    rw [(g (196 + 6 * k) (by omega) (by omega) 2).1, g1]
    refine ⟨c1, c2, t, ?_⟩
    have tz := c3.2.1
    exact (c3.fr e (fun a _ _ => g a (by omega) (by omega)) (fun a _ _ => gt a (by omega))).cg (fun j hj => g0 j hj)
theorem a_image {u : hS} (hs : shp u) (ai : actInv u) (rx : RepX u) (ri : RepI u) (n : Int) : ∃ r u1 u2, m_X9_image 1 n u = some (r, u1) ∧ m_X10_image 220 n u1 = some (r, u2) ∧ shp u1 ∧ ext u u2 ∧ shp u2 ∧ (∀ a, ¬ (196 ≤ a ∧ a ≤ 219) → a ≠ 240 → a ≠ 241 → a ≠ 242 → agr u u2 a) ∧ RepI u2 := by
  by_cases hn : 0 ≤ n ∧ n ≤ 3
  case neg =>
    refine ⟨-1, u, u, ?_, ?_, hs, ext.rf u, hs, fun _ _ _ _ _ _ => ⟨rfl, rfl⟩, ri⟩
    · simp only [m_X9_image_L9, m_X9_image, hgI_k, hgR_k, hpI_k, hpR_k, hpZ_k, haI_k, haR_k, hsI_k, hsZ_k, hlen_k, hlet_e, hret_e, hretZ_0, hretZ_1, hif_e, okk_setV, okk_setF, nV, nF, fV, vF]
      by_cases h0 : n < 0
      · rw [if_pos h0]
      · rw [if_neg h0, if_neg (by omega)]
    · simp only [m_X10_image, hgI_k, hgR_k, hpI_k, hpR_k, hpZ_k, haI_k, haR_k, hsI_k, hsZ_k, hlen_k, hlet_e, hret_e, hretZ_0, hretZ_1, hif_e, okk_setV, okk_setF, nV, nF, fV, vF, hcall_b, hbind_s, y_in, if_neg hn, ne_eq, not_true_eq_false, if_false]
  obtain ⟨k, rfl⟩ : ∃ k : Nat, n = k := ⟨n.toNat, by omega⟩
  have hk : k < 4 := by omega
  obtain ⟨t, c, r, ru, h25⟩ := id ai
  have hs0 : shp (hsetV u (196 + 6 * k) 1 1) := hs
  obtain ⟨v, hv, cf⟩ := x_copy hs0 (stp_img k hk) stp_30 (by omega)
  have hsv : shp v := cf.2.2.2.2.2.2.2.2
  have g : ∀ a, ¬ (196 + 6 * k ≤ a ∧ a ≤ 201 + 6 * k) → agr u v a := fun a h => (agr.setV (by omega)).tr (cf.2.1 a (by omega))
  have tz := r.2.1
  have r0 : RepF (hsetV u (196 + 6 * k) 1 1) 30 t (hV u 230) := r.fr (ext.setV _ _ _ _) (fun a _ _ => agr.setV (by omega)) (fun a _ _ => agr.setV (by omega))
  have rv := r0.cp cf (stp_img k hk)
  have v9 : hV v 1 9 = hV u 220 21 := (g 1 (by omega) 9).1.trans rx.1
  have v6 : hV v 30 1 = hV u 230 6 := (g 30 (by omega) 1).1.trans r.1.v6
  have k1 : hV v (196 + 6 * k) 1 = 1 := by rw [(cf.2.1 (196 + 6 * k) (by omega) 1).1, hV_setV_s]
  have hs1 : shp (hsetV v (196 + 6 * k) 2 (hV u 220 21)) := hsv
  have gV : ∀ a, 220 ≤ a → hV (hsetV v (196 + 6 * k) 2 (hV u 220 21)) a = hV u a := fun a ha => by
    rw [hV_ne (by omega)]
    funext i
    exact (g a (by omega) i).1
  have e1 : ext u (hsetV v (196 + 6 * k) 2 (hV u 220 21)) := (ext.setV _ _ _ _).tr (cf.1.tr (ext.setV _ _ _ _))
  have hs2 : shp (hsetV (hsetV (hsetV v (196 + 6 * k) 2 (hV u 220 21)) 242 k 1) 241 k (hV u 220 21)) := hsv
  have yl := y_imgL hs2 hk (hV u 240) 160 1000000000 0 (by omega) (by omega)
  have k240 : hV (hsetV (hsetV (hsetV v (196 + 6 * k) 2 (hV u 220 21)) 242 k 1) 241 k (hV u 220 21)) 240 = hV u 240 := by rw [hV_ne (by decide), hV_ne (by decide), gV 240 (by decide)]
  have q0 : imW (hV u 240) (hV (hsetV (hsetV (hsetV v (196 + 6 * k) 2 (hV u 220 21)) 242 k 1) 241 k (hV u 220 21)) 230) k 0 = hV (hsetV (hsetV (hsetV v (196 + 6 * k) 2 (hV u 220 21)) 242 k 1) 241 k (hV u 220 21)) 240 := by
    rw [k240]
    funext j
    exact if_neg (by omega)
  have q1 : hV (hsetV (hsetV (hsetV v (196 + 6 * k) 2 (hV u 220 21)) 242 k 1) 241 k (hV u 220 21)) 230 = hV u 230 := by rw [hV_ne (by decide), hV_ne (by decide), gV 230 (by decide)]
  rw [q0, hput_self, q1] at yl
  refine ⟨hV u 230 6, hsetV v (196 + 6 * k) 2 (hV u 220 21), hput (hsetV (hsetV (hsetV v (196 + 6 * k) 2 (hV u 220 21)) 242 k 1) 241 k (hV u 220 21)) 240 (imW (hV u 240) (hV u 230) k 160), ?_, ?_, hs1, ?_, ?_, ?_, ?_⟩
  · simp only [m_X9_image_L9, m_X9_image, hgI_k, hgR_k, hpI_k, hpR_k, hpZ_k, haI_k, haR_k, hsI_k, hsZ_k, hlen_k, hlet_e, hret_e, hretZ_0, hretZ_1, hif_e, okk_setV, okk_setF, nV, nF, fV, vF, haR_n, hcallV_b, hbind_s, kk_1 hs, kk_6 hs, rf_1_8 hs, rf_1_3 hs, ln_6 hs, hk, rf_imgs hs k hk, hpZ_1, kk_img hs k hk, rf_img hs k hk, StA.k0 ((stp_img k hk).1 u hs), hv, kk_1 hsv, rf_1_8 hsv, rf_1_3 hsv, kk_6 hsv, ln_6 hsv, rf_imgs hsv k hk, kk_img hsv k hk, v9, kk_30 hsv, hV_setV_a (show 30 ≠ 196 + 6 * k by omega), v6]
    rw [if_neg (by omega), if_pos (by omega)]
  · have n1 : (1 : Int) ≠ 0 := by decide
    simp only [m_X10_image, hgI_k, hgR_k, hpI_k, hpR_k, hpZ_k, haI_k, haR_k, hsI_k, hsZ_k, hlen_k, hlet_e, hret_e, hretZ_0, hretZ_1, hif_e, okk_setV, okk_setF, nV, nF, fV, vF, hcall_b, hbind_s, y_in, if_pos hn, if_pos n1, hsI_n, hsZ_1, kk_220 hs1, kk_242 hs1, kk_241 hs1, rf_220_42 hs1, rf_220_41 hs1, ln_242 hs1, ln_241 hs1, hk, hV_setV_a (show 220 ≠ 242 by decide), gV 220 (by decide)]
    exact yl
  · exact ((e1.tr (ext.setV _ _ _ _)).tr (ext.setV _ _ _ _)).tr (ext.put _ _ _)
  · exact hsv
  · intro a h1 h2 h3 h4
    exact ((((g a (by omega)).tr (agr.setV (by omega))).tr (agr.setV h4)).tr (agr.setV h3)).tr (agr.put h2)
  · intro m hm
    have f242 : hV (hput (hsetV (hsetV (hsetV v (196 + 6 * k) 2 (hV u 220 21)) 242 k 1) 241 k (hV u 220 21)) 240 (imW (hV u 240) (hV u 230) k 160)) 242 = sup (hV u 242) k 1 := by rw [hV_put_n (by decide), hV_ne (by decide), hV_sup, gV 242 (by decide)]
    have f241 : hV (hput (hsetV (hsetV (hsetV v (196 + 6 * k) 2 (hV u 220 21)) 242 k 1) 241 k (hV u 220 21)) 240 (imW (hV u 240) (hV u 230) k 160)) 241 = sup (hV u 241) k (hV u 220 21) := by rw [hV_put_n (by decide), hV_sup, hV_ne (by decide), gV 241 (by decide)]
    have e2 : ext v (hput (hsetV (hsetV (hsetV v (196 + 6 * k) 2 (hV u 220 21)) 242 k 1) 241 k (hV u 220 21)) 240 (imW (hV u 240) (hV u 230) k 160)) := ⟨Nat.le_refl _, fun _ _ => ⟨rfl, rfl⟩⟩
    have g2 : ∀ a, a ≠ 196 + 6 * k → a ≠ 240 → a ≠ 241 → a ≠ 242 → agr v (hput (hsetV (hsetV (hsetV v (196 + 6 * k) 2 (hV u 220 21)) 242 k 1) 241 k (hV u 220 21)) 240 (imW (hV u 240) (hV u 230) k 160)) a := fun a h1 h2 h3 h4 => (((agr.setV h1).tr (agr.setV h4)).tr (agr.setV h3)).tr (agr.put h2)
    by_cases hmk : m = k
    · subst hmk
      refine ⟨?_, ?_, fun _ => ⟨?_, ?_, t, ?_⟩⟩
      · rw [f242, sup_s, hV_put_n (by omega), hV_setV_a (by omega), hV_setV_a (by omega), hV_setV_i (by decide), k1]
      · rw [f242, sup_s]
        exact Or.inr rfl
      · rw [f241, sup_s, hV_put_n (by omega), hV_setV_a (by omega), hV_setV_a (by omega), hV_setV_s]
      · rw [f241, sup_s]
        exact rx.2.1
      · rw [hV_put_s]
        refine (rv.fr e2 (fun a _ _ => g2 a (by omega) (by omega) (by omega) (by omega)) (fun a _ _ => g2 a (by omega) (by omega) (by omega) (by omega))).cg (fun j hj => ?_)
        unfold iS imW
        rw [if_pos (by omega)]
        congr 1
        omega
    · refine (ri m hm).fr hm (cf.1 |> fun z => ((ext.setV _ _ _ _).tr z).tr e2) (fun a _ _ => (g a (by omega)).tr (g2 a (by omega) (by omega) (by omega) (by omega))) (fun a _ => (g a (by omega)).tr (g2 a (by omega) (by omega) (by omega) (by omega))) ?_ ?_ ?_
      · rw [f242, sup_n hmk]
      · rw [f241, sup_n hmk]
      · intro j hj
        rw [hV_put_s]
        exact if_neg (by omega)
