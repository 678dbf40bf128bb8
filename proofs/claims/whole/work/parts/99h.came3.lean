/-! the class's story, followed -/
def CS (u : hS) (L Rw La Fi : Nat → Int) : hS := hput (hput (hput (hput u 49 L) 51 Rw) 52 La) 53 Fi
theorem CS_49 (u : hS) (L Rw La Fi : Nat → Int) : hV (CS u L Rw La Fi) 49 = L := by
  unfold CS
  rw [hV_put_n (by decide), hV_put_n (by decide), hV_put_n (by decide), hV_put_s]
theorem CS_51 (u : hS) (L Rw La Fi : Nat → Int) : hV (CS u L Rw La Fi) 51 = Rw := by
  unfold CS
  rw [hV_put_n (by decide), hV_put_n (by decide), hV_put_s]
theorem CS_52 (u : hS) (L Rw La Fi : Nat → Int) : hV (CS u L Rw La Fi) 52 = La := by
  unfold CS
  rw [hV_put_n (by decide), hV_put_s]
theorem CS_53 (u : hS) (L Rw La Fi : Nat → Int) : hV (CS u L Rw La Fi) 53 = Fi := by
  unfold CS
  rw [hV_put_s]
theorem CS_n {u : hS} {L Rw La Fi : Nat → Int} {a : Nat} (h : a ≠ 49) (h1 : a ≠ 51) (h2 : a ≠ 52) (h3 : a ≠ 53) : hV (CS u L Rw La Fi) a = hV u a := by
  unfold CS
  rw [hV_put_n h3, hV_put_n h2, hV_put_n h1, hV_put_n h]
theorem CS_shp {u : hS} (L Rw La Fi : Nat → Int) (hs : shp u) : shp (CS u L Rw La Fi) := hs
theorem CS_F (u : hS) (L Rw La Fi : Nat → Int) : hF (CS u L Rw La Fi) = hF u := Eq.trans (b := hF u) rfl rfl
theorem CS_L (u : hS) (L Rw La Fi : Nat → Int) (i : Nat) (x : Int) : hsetV (CS u L Rw La Fi) 49 i x = CS u (sup L i x) Rw La Fi := by
  rw [setV_put1, CS_49]
  unfold CS
  rw [put_comm (show 53 ≠ 49 by decide), put_comm (show 52 ≠ 49 by decide), put_comm (show 51 ≠ 49 by decide), hput_put]
theorem CS_R (u : hS) (L Rw La Fi : Nat → Int) (i : Nat) (x : Int) : hsetV (CS u L Rw La Fi) 51 i x = CS u L (sup Rw i x) La Fi := by
  rw [setV_put1, CS_51]
  unfold CS
  rw [put_comm (show 53 ≠ 51 by decide), put_comm (show 52 ≠ 51 by decide), hput_put]
theorem CS_La (u : hS) (L Rw La Fi : Nat → Int) (i : Nat) (x : Int) : hsetV (CS u L Rw La Fi) 52 i x = CS u L Rw (sup La i x) Fi := by
  rw [setV_put1, CS_52]
  unfold CS
  rw [put_comm (show 53 ≠ 52 by decide), hput_put]
theorem CS_Fi (u : hS) (L Rw La Fi : Nat → Int) (i : Nat) (x : Int) : hsetV (CS u L Rw La Fi) 53 i x = CS u L Rw La (sup Fi i x) := by
  rw [setV_put1, CS_53]
  unfold CS
  rw [hput_put]
theorem CS_ext (u : hS) (L Rw La Fi : Nat → Int) : ext u (CS u L Rw La Fi) := (ext.put _ _ _).tr ((ext.put _ _ _).tr ((ext.put _ _ _).tr (ext.put _ _ _)))
theorem CS_agr {u : hS} {L Rw La Fi : Nat → Int} {a : Nat} (h : a ≠ 49) (h1 : a ≠ 51) (h2 : a ≠ 52) (h3 : a ≠ 53) : agr u (CS u L Rw La Fi) a := (agr.put h).tr ((agr.put h1).tr ((agr.put h2).tr (agr.put h3)))
def okZ (Rw La Fi : Nat → Int) (i : Nat) (z : cZ) : Prop := Rw i = z.1 ∧ La i = (z.2.1 : Int) ∧ Fi i = z.2.2
/-- what the story holds: its town's bridges, its weights, its ends -/
def stoC (u : hS) (t B : Nat) (S : Nat → Int) (O : Nat → Nat) (fin : Int) : Prop := shp u ∧ RepF u 30 t S ∧ hF u 48 5 = t + 1 ∧ S 2 = (B : Int) ∧ (∀ b, b < B → hV u 50 b = (hpW O b : Int)) ∧ hV u 48 7 = (hpW O B : Int) - 1 ∧ hV u 48 9 = fin ∧ hpW O B ≤ 256
def memC (S : Nat → Int) (B : Nat) (home fin : Int) (O : Nat → Nat) (h : Nat) (Rw La Fi : Nat → Int) : Prop := ∀ (L : Nat → Int) (q : Int), vlL B O L → parS S B home O q L → h < hpL O B L → Rw (hpL O B L) = -1 ∨ okZ Rw La Fi (hpL O B L) (cT S B fin (sumU L B 0).toNat q L)
theorem x_addRows {u : hS} (hs : shp u) {L Rw La Fi : Nat → Int} {h nx b d fl : Nat} {z T : cZ} (h2 : h < 256) (n2 : nx < 256) (hn : h ≠ nx) (b9 : b < 9) (v7 : hV u 48 7 = (fl : Int)) (full : nx = fl ↔ d = 0) (oz : okZ Rw La Fi h z) (oT : okZ Rw La Fi nx T) (zl : z.2.1 < 512) (Tl : T.2.1 < 512) (zb : 0 ≤ z.1 ∧ z.1 ≤ 1000000000) (Tb : 0 ≤ T.1 ∧ T.1 ≤ 1000000000) : m_X5_addRows 48 h nx b (CS u L Rw La Fi) = some (0, CS u L (sup Rw h (z.1 + T.1)) (sup La h (((z.2.1 ||| (if d = 0 then 2 ^ b else T.2.1) : Nat) : Nat) : Int)) (sup Fi h (if z.1 = 0 then (if d = 0 then (b : Int) else T.2.2) else z.2.2))) := by
  obtain ⟨o1, o2, o3⟩ := oz
  obtain ⟨t1, t2, t3⟩ := oT
  have sh : ishlZ 1 (b : Int) = ((2 ^ b : Nat) : Int) := ishl_1 b b9
  have p2 := p2lt b9
  have w1 : w32 (z.1 + T.1) = z.1 + T.1 := w32_id ⟨by omega, by omega⟩
  have hF' : ∀ (Fi' : Nat → Int), shp (CS u L Rw La Fi') := fun _ => hs
  have v7' : ∀ (Rw La Fi : Nat → Int), hV (CS u L Rw La Fi) 48 7 = (fl : Int) := fun Rw La Fi => by
    rw [CS_n (by decide) (by decide) (by decide) (by decide), v7]
  have k : ∀ (Rw La Fi : Nat → Int), shp (CS u L Rw La Fi) := fun _ _ _ => hs
  have k48 : ∀ (Rw La Fi : Nat → Int), okk (CS u L Rw La Fi) 48 5 := fun Rw La Fi => kk_48 (k Rw La Fi)
  have k51 : ∀ (Rw La Fi : Nat → Int), okk (CS u L Rw La Fi) 51 20 := fun Rw La Fi => kk_51 (k Rw La Fi)
  have k52 : ∀ (Rw La Fi : Nat → Int), okk (CS u L Rw La Fi) 52 20 := fun Rw La Fi => kk_52 (k Rw La Fi)
  have k53 : ∀ (Rw La Fi : Nat → Int), okk (CS u L Rw La Fi) 53 20 := fun Rw La Fi => kk_53 (k Rw La Fi)
  have n51 : ∀ (Rw La Fi : Nat → Int), hN (CS u L Rw La Fi) 51 = 256 := fun Rw La Fi => ln_51 (k Rw La Fi)
  have n52 : ∀ (Rw La Fi : Nat → Int), hN (CS u L Rw La Fi) 52 = 256 := fun Rw La Fi => ln_52 (k Rw La Fi)
  have n53 : ∀ (Rw La Fi : Nat → Int), hN (CS u L Rw La Fi) 53 = 256 := fun Rw La Fi => ln_53 (k Rw La Fi)
  have L33 : ∀ Fi', m_X5_addRows_L33 48 h nx b (CS u L Rw La Fi') = some (0, CS u L (sup Rw h (z.1 + T.1)) (sup La h (((z.2.1 ||| (if d = 0 then 2 ^ b else T.2.1) : Nat) : Nat) : Int)) Fi') := fun Fi' => by
    simp only [m_X5_addRows_L33, m_X5_addRows_L75, hgI_k, hgR_k, hpI_k, hpR_k, hpZ_k, haI_k, haR_k, hsI_k, hsZ_k, hlen_k, hlet_p, hret_p, hretZ_0, hretZ_1, hif_p, okk_setV, okk_setF, nV, nF, fV, vF, haI_n, hsI_n, k48, k51, k52, n51, n52, CS_F, rf_48_2 hs, rf_48_3 hs, h2, n2, CS_51, CS_52, o1, t1, w1, CS_R, v7', o2, t2, sh]
    by_cases f : nx = fl
    · rw [if_neg (show ¬ (nx : Int) ≠ (fl : Int) by omega), iorZ_n (a := z.2.1) (b := 2 ^ b) (by omega) (by omega), CS_La, if_pos (full.mp f)]
    · rw [if_pos (show (nx : Int) ≠ (fl : Int) by omega), iorZ_n (a := z.2.1) (b := T.2.1) (by omega) (by omega), CS_La, if_neg (fun y => f (full.mpr y))]
  by_cases z0 : z.1 = 0
  · have E : m_X5_addRows 48 h nx b (CS u L Rw La Fi) = m_X5_addRows_L33 48 h nx b (CS u L Rw La (sup Fi h (if d = 0 then (b : Int) else T.2.2))) := by
      simp only [m_X5_addRows, m_X5_addRows_L32, hgI_k, hgR_k, hpI_k, hpR_k, hpZ_k, haI_k, haR_k, hsI_k, hsZ_k, hlen_k, hlet_p, hret_p, hretZ_0, hretZ_1, hif_p, okk_setV, okk_setF, nV, nF, fV, vF, haI_n, hsI_n, k48, k51, k53, n51, n53, CS_F, rf_48_2 hs, rf_48_4 hs, h2, n2, CS_51, CS_53, o1, v7', t3, CS_Fi]
      rw [if_neg (fun y => y z0)]
      by_cases f : nx = fl
      · rw [if_neg (show ¬ (nx : Int) ≠ (fl : Int) by omega), if_pos (full.mp f)]
      · rw [if_pos (show (nx : Int) ≠ (fl : Int) by omega), if_neg (fun y => f (full.mpr y))]
    rw [E, L33, if_pos z0]
  · have E : m_X5_addRows 48 h nx b (CS u L Rw La Fi) = m_X5_addRows_L33 48 h nx b (CS u L Rw La Fi) := by
      simp only [m_X5_addRows, hif_p, hgR_k, haI_n, k48, k51, n51, CS_F, rf_48_2 hs, h2, CS_51, o1]
      rw [if_pos z0]
    have sf : sup Fi h z.2.2 = Fi := by
      rw [← o3, sup_self]
    rw [E, L33, if_neg z0, sf]
theorem memC.up {S : Nat → Int} {B : Nat} {home fin : Int} {O : Nat → Nat} {h h' : Nat} {Rw La Fi : Nat → Int} (m : memC S B home fin O h Rw La Fi) (l : h ≤ h') : memC S B home fin O h' Rw La Fi := fun L q v p k => m L q v p (by omega)
theorem pw9_8 : ∀ d, d < 9 → pw9 d ≤ 43046721 := by decide
theorem x_f5L {u : hS} {t B : Nat} {S : Nat → Int} {O : Nat → Nat} {home fin : Int} (c : stoC u t B S O fin) (rec : Nat → Int → Int → Int → hM) {d : Nat} (d8 : d < 8) {q : Int} {L : Nat → Int} (v : vlL B O L) (hd : sumU L B 0 = ((d + 1 : Nat) : Int)) (pq : parS S B home O q L) (O9 : ∀ b, b < B → O b ≤ 9) (hrec : ∀ (q' : Int) (L' Rw La Fi : Nat → Int), vlL B O L' → sumU L' B 0 = (d : Int) → parS S B home O q' L' → memC S B home fin O (hpL O B L') Rw La Fi → ∃ Rw' La' Fi', rec 48 (hpL O B L') q' d (CS u L' Rw La Fi) = some (0, CS u L' Rw' La' Fi') ∧ okZ Rw' La' Fi' (hpL O B L') (cT S B fin d q' L') ∧ memC S B home fin O (hpL O B L') Rw' La' Fi' ∧ ∀ j, j < hpL O B L' → Rw' j = Rw j ∧ La' j = La j ∧ Fi' j = Fi j) : ∀ (k fl i : Nat) (z : cZ) (Rw La Fi : Nat → Int), k < fl → i + k = B → czIn ((i : Int) * pw9 d) z → okZ Rw La Fi (hpL O B L) z → memC S B home fin O (hpL O B L) Rw La Fi → ∃ Rw' La' Fi', m_X5_follow_L46 rec fl 48 (hpL O B L) q ((d + 1 : Nat) : Int) i (CS u L Rw La Fi) = some (0, CS u L Rw' La' Fi') ∧ okZ Rw' La' Fi' (hpL O B L) (foC S (cT S B fin d) d q L k i z) ∧ memC S B home fin O (hpL O B L) Rw' La' Fi' ∧ ∀ j, j < hpL O B L → Rw' j = Rw j ∧ La' j = La j ∧ Fi' j = Fi j := by
  obtain ⟨hs, rf, f5, hB, hw, v7, v9, w256⟩ := id c
  obtain ⟨rs, tz, rw0, ws, wv⟩ := id rf
  have w2 := ws.2.2.1
  have B9 : B ≤ 9 := by omega
  have hlt : hpL O B L < hpW O B := hpS_lt B (fun c _ => show usd O L c ≤ O c by unfold usd; omega)
  have rC : ∀ Rw La Fi L, RepS (CS u L Rw La Fi) 30 t S := fun Rw La Fi L => rs.fr (CS_ext u L Rw La Fi) (fun a _ _ => CS_agr (by omega) (by omega) (by omega) (by omega)) (fun a _ _ => CS_agr (by omega) (by omega) (by omega) (by omega))
  intro k
  induction k with
  | zero =>
    intro fl i z Rw La Fi hf hi hz oz mm
    obtain ⟨fl, rfl⟩ : ∃ x, fl = x + 1 := ⟨fl - 1, by omega⟩
    have h1 := CS_shp L Rw La Fi hs
    have r := rC Rw La Fi L
    have ht := r.ht
    have v2 := r.v2
    refine ⟨Rw, La, Fi, ?_, oz, mm, fun _ _ => ⟨rfl, rfl, rfl⟩⟩
    simp only [m_X5_follow_L46, hgI_k, hgR_k, hpI_k, hpR_k, hpZ_k, haI_k, haR_k, hsI_k, hsZ_k, hlen_k, hlet_p, hret_p, hretZ_0, hretZ_1, hif_p, okk_setV, okk_setF, nV, nF, fV, vF, kk_48 h1, CS_F, f5, TwA.k0 ht, TwA.k1 ht, TwA.k2 ht, TwA.k3 ht, TwA.k4 ht, TwA.k5 ht, TwA.k6 ht, TwA.k7 ht, TwA.k8 ht, TwA.k9 ht, TwA.k10 ht, TwA.k11 ht, TwA.k12 ht, TwA.k13 ht, TwA.k14 ht, TwA.k15 ht, TwA.k16 ht, TwA.k17 ht, TwA.n2 ht, TwA.n3 ht, TwA.n4 ht, TwA.n6 ht, TwA.n7 ht, TwA.n8 ht, TwA.n9 ht, TwA.n10 ht, TwA.n11 ht, TwA.n12 ht, TwA.n13 ht, TwA.n14 ht, TwA.n15 ht, TwA.n16 ht, TwA.n17 ht, TwA.f2 ht, TwA.f3 ht, TwA.f5 ht, TwA.f6 ht, TwA.f8 ht, TwA.f9 ht, TwA.f11 ht, TwA.f12 ht, TwA.f13 ht, TwA.f14 ht, TwA.f15 ht, TwA.b0 ht, TwA.b1 ht, TwA.b2 ht, TwA.g0 ht, TwA.g1 ht, TwA.g2 ht, v2, hB]
    rw [if_pos (by omega)]
  | succ k ih =>
    intro fl i z Rw La Fi hf hi hz oz mm
    obtain ⟨fl, rfl⟩ : ∃ x, fl = x + 1 := ⟨fl - 1, by omega⟩
    have h1 := CS_shp L Rw La Fi hs
    have r := rC Rw La Fi L
    have ht := r.ht
    have v2 := r.v2
    have iB : i < B := by omega
    have i9 : i < 9 := by omega
    have hi2 : (i : Int) < S 2 := by omega
    have ov := x_over r ws hi2 q
    have zin := foC_in (S := S) (B := B) (d := d) (q := q) (L := L) (rc := cT S B fin d) B9 (fun q L => cT_in B9 d q L) 1 i z (by omega) hz
    have zin' : czIn (((i + 1 : Nat) : Int) * pw9 d) (stC S (cT S B fin d) d q L i z) := zin
    rw [foC_s]
    by_cases q0 : 0 ≤ qEnd S (94 + 2 * i) q
    case neg =>
      have es : stC S (cT S B fin d) d q L i z = z := by
        unfold stC
        rw [if_neg (fun y => q0 y.1.1)]
      have em : qEnd S (94 + 2 * i) q = -1 := by
        by_cases y : qEnd S (94 + 2 * i) q = -1
        · exact y
        · exact absurd (qEnd_pos wv hi2 q y) q0
      rw [es] at zin' ⊢
      obtain ⟨Rw', La', Fi', a1, a2, a3, a4⟩ := ih fl (i + 1) z Rw La Fi (by omega) (by omega) zin' oz mm
      refine ⟨Rw', La', Fi', ?_, a2, a3, a4⟩
      rw [← a1]
      simp only [m_X5_follow_L46, m_X5_follow_L160, hgI_k, hgR_k, hpI_k, hpR_k, hpZ_k, haI_k, haR_k, hsI_k, hsZ_k, hlen_k, hlet_p, hret_p, hretZ_0, hretZ_1, hif_p, okk_setV, okk_setF, nV, nF, fV, vF, hcallV_b, hbind_p, kk_48 h1, CS_F, f5, TwA.k0 ht, TwA.k1 ht, TwA.k2 ht, TwA.k3 ht, TwA.k4 ht, TwA.k5 ht, TwA.k6 ht, TwA.k7 ht, TwA.k8 ht, TwA.k9 ht, TwA.k10 ht, TwA.k11 ht, TwA.k12 ht, TwA.k13 ht, TwA.k14 ht, TwA.k15 ht, TwA.k16 ht, TwA.k17 ht, TwA.n2 ht, TwA.n3 ht, TwA.n4 ht, TwA.n6 ht, TwA.n7 ht, TwA.n8 ht, TwA.n9 ht, TwA.n10 ht, TwA.n11 ht, TwA.n12 ht, TwA.n13 ht, TwA.n14 ht, TwA.n15 ht, TwA.n16 ht, TwA.n17 ht, TwA.f2 ht, TwA.f3 ht, TwA.f5 ht, TwA.f6 ht, TwA.f8 ht, TwA.f9 ht, TwA.f11 ht, TwA.f12 ht, TwA.f13 ht, TwA.f14 ht, TwA.f15 ht, TwA.b0 ht, TwA.b1 ht, TwA.b2 ht, TwA.g0 ht, TwA.g1 ht, TwA.g2 ht, v2, hB, ov, em, ix_s (show i < 1000000 by omega)]
      rw [if_neg (by omega), if_pos trivial]
    have en : ¬ qEnd S (94 + 2 * i) q = -1 := by omega
    by_cases o : 0 < L i
    case neg =>
      have es : stC S (cT S B fin d) d q L i z = z := by
        unfold stC
        rw [if_neg (fun y => o y.1.2)]
      rw [es] at zin' ⊢
      obtain ⟨Rw', La', Fi', a1, a2, a3, a4⟩ := ih fl (i + 1) z Rw La Fi (by omega) (by omega) zin' oz mm
      refine ⟨Rw', La', Fi', ?_, a2, a3, a4⟩
      rw [← a1]
      simp only [m_X5_follow_L46, m_X5_follow_L160, hgI_k, hgR_k, hpI_k, hpR_k, hpZ_k, haI_k, haR_k, hsI_k, hsZ_k, hlen_k, hlet_p, hret_p, hretZ_0, hretZ_1, hif_p, okk_setV, okk_setF, nV, nF, fV, vF, hcallV_b, hbind_p, haI_n, kk_48 h1, rf_48_0 h1, kk_49 h1, ln_49 h1, i9, CS_49, CS_F, f5, TwA.k0 ht, TwA.k1 ht, TwA.k2 ht, TwA.k3 ht, TwA.k4 ht, TwA.k5 ht, TwA.k6 ht, TwA.k7 ht, TwA.k8 ht, TwA.k9 ht, TwA.k10 ht, TwA.k11 ht, TwA.k12 ht, TwA.k13 ht, TwA.k14 ht, TwA.k15 ht, TwA.k16 ht, TwA.k17 ht, TwA.n2 ht, TwA.n3 ht, TwA.n4 ht, TwA.n6 ht, TwA.n7 ht, TwA.n8 ht, TwA.n9 ht, TwA.n10 ht, TwA.n11 ht, TwA.n12 ht, TwA.n13 ht, TwA.n14 ht, TwA.n15 ht, TwA.n16 ht, TwA.n17 ht, TwA.f2 ht, TwA.f3 ht, TwA.f5 ht, TwA.f6 ht, TwA.f8 ht, TwA.f9 ht, TwA.f11 ht, TwA.f12 ht, TwA.f13 ht, TwA.f14 ht, TwA.f15 ht, TwA.b0 ht, TwA.b1 ht, TwA.b2 ht, TwA.g0 ht, TwA.g1 ht, TwA.g2 ht, v2, hB, ov, ix_s (show i < 1000000 by omega)]
      rw [if_neg (by omega), if_neg en, if_pos (by omega)]
    have vi := v i iB
    have v' : vlL B O (lsA L i) := fun b hb => by
      have y := v b hb
      by_cases x : b = i
      · subst x
        rw [lsA_s]
        omega
      · rw [lsA_n x]
        exact y
    have sd : sumU (lsA L i) B 0 = (d : Int) := by
      rw [sum_ls, if_pos ⟨by omega, by omega⟩, hd]
      omega
    have pq' := par_go pq iB (rf.ne hi2) rfl q0
    obtain ⟨nx, hnx⟩ : ∃ nx, nx = hpL O B (lsA L i) := ⟨_, rfl⟩
    have nxe : nx = hpL O B L + hpW O i := by
      rw [hnx]
      unfold hpL
      rw [hpL_go o vi.2 B, if_pos iB]
    have wp := hpW_pos O i
    have nlt : nx < hpW O B := by
      rw [hnx]
      exact hpS_lt B (fun c _ => show usd O (lsA L i) c ≤ O c by unfold usd; omega)
    have n256 : nx < 256 := by omega
    have h256 : hpL O B L < 256 := by omega
    have ful : nx = hpW O B - 1 ↔ d = 0 := by
      have f := full_iff v'
      rw [← hnx, sd] at f
      constructor
      · intro y
        have := f.mp (by omega)
        omega
      · intro y
        have := f.mpr (by omega)
        omega
    have v7' : hV u 48 7 = ((hpW O B - 1 : Nat) : Int) := by
      rw [v7]
      omega
    have cin := cT_in (S := S) (B := B) (fin := fin) B9 d (qEnd S (94 + 2 * i) q) (lsA L i)
    have p98 := pw9_8 d (by omega)
    have pp := pw9_pos d
    have zb : 0 ≤ z.1 ∧ z.1 ≤ 1000000000 := by
      have m : (i : Int) * pw9 d ≤ 9 * pw9 d := Int.mul_le_mul_of_nonneg_right (by omega) (by omega)
      have := hz.1
      have := hz.2.1
      omega
    have wx : True → w32 ((hpL O B L : Int) + (hpW O i : Int)) = (nx : Int) := by
      intro _
      rw [w32_id ⟨by omega, by omega⟩]
      omega
    -- the child's answer stands at nx
    have got : ∃ Rw1 La1 Fi1, m_X5_follow_L46 rec (fl + 1) 48 (hpL O B L) q ((d + 1 : Nat) : Int) i (CS u L Rw La Fi) = m_X5_follow_L141 rec (m_X5_follow_L46 rec fl) 48 (hpL O B L) q ((d + 1 : Nat) : Int) i nx (CS u L Rw1 La1 Fi1) ∧ okZ Rw1 La1 Fi1 nx (cT S B fin d (qEnd S (94 + 2 * i) q) (lsA L i)) ∧ memC S B home fin O (hpL O B L) Rw1 La1 Fi1 ∧ ∀ j, j ≤ hpL O B L → Rw1 j = Rw j ∧ La1 j = La j ∧ Fi1 j = Fi j := by
      by_cases r1 : Rw nx = -1
      · obtain ⟨Rw1, La1, Fi1, a1, a2, a3, a4⟩ := hrec (qEnd S (94 + 2 * i) q) (lsA L i) Rw La Fi v' sd pq' (mm.up (by omega))
        rw [← hnx] at a1 a2 a3 a4
        refine ⟨Rw1, La1, Fi1, ?_, a2, fun L' q' vL pL hl => ?_, fun j hj => a4 j (by omega)⟩
        · have w1 : w32 (L i - 1) = L i - 1 := w32_id ⟨by have := O9 i iB; omega, by have := O9 i iB; omega⟩
          have w3 : w32 (L i - 1 + 1) = L i := by
            rw [w32_id ⟨by have := O9 i iB; omega, by have := O9 i iB; omega⟩]
            omega
          have wd : True → w32 (((d + 1 : Nat) : Int) - 1) = (d : Int) := by
            intro _
            rw [w32_id ⟨by omega, by omega⟩]
            omega
          have hs2 := CS_shp (lsA L i) Rw La Fi hs
          have hs3 := CS_shp (lsA L i) Rw1 La1 Fi1 hs
          have e1 : sup L i (L i - 1) = lsA L i := rfl
          have e2 : sup (lsA L i) i (L i) = L := by
            unfold lsA
            rw [sup_sup, sup_self]
          have e3 : lsA L i i = L i - 1 := sup_s
          have q50 : hV (CS u L Rw La Fi) 50 i = (hpW O i : Int) := by
            rw [CS_n (by decide) (by decide) (by decide) (by decide)]
            exact hw i iB
          simp only [m_X5_follow_L46, hgI_k, hgR_k, hpI_k, hpR_k, hpZ_k, haI_k, haR_k, hsI_k, hsZ_k, hlen_k, hlet_p, hret_p, hretZ_0, hretZ_1, hif_p, okk_setV, okk_setF, nV, nF, fV, vF, hcallV_b, hbind_p, haI_n, hsI_n, kk_48 h1, rf_48_0 h1, rf_48_1 h1, rf_48_2 h1, kk_49 h1, ln_49 h1, kk_50 h1, ln_50 h1, kk_51 h1, ln_51 h1, i9, n256, CS_49, CS_51, q50, CS_F, f5, TwA.k0 ht, TwA.k1 ht, TwA.k2 ht, TwA.k3 ht, TwA.k4 ht, TwA.k5 ht, TwA.k6 ht, TwA.k7 ht, TwA.k8 ht, TwA.k9 ht, TwA.k10 ht, TwA.k11 ht, TwA.k12 ht, TwA.k13 ht, TwA.k14 ht, TwA.k15 ht, TwA.k16 ht, TwA.k17 ht, TwA.n2 ht, TwA.n3 ht, TwA.n4 ht, TwA.n6 ht, TwA.n7 ht, TwA.n8 ht, TwA.n9 ht, TwA.n10 ht, TwA.n11 ht, TwA.n12 ht, TwA.n13 ht, TwA.n14 ht, TwA.n15 ht, TwA.n16 ht, TwA.n17 ht, TwA.f2 ht, TwA.f3 ht, TwA.f5 ht, TwA.f6 ht, TwA.f8 ht, TwA.f9 ht, TwA.f11 ht, TwA.f12 ht, TwA.f13 ht, TwA.f14 ht, TwA.f15 ht, TwA.b0 ht, TwA.b1 ht, TwA.b2 ht, TwA.g0 ht, TwA.g1 ht, TwA.g2 ht, v2, hB, ov, wx trivial, r1, w1, wd trivial, CS_L, e1, kk_48 hs2, a1, kk_48 hs3, kk_49 hs3, ln_49 hs3, rf_48_0 hs, e3, w3, e2]
          rw [if_neg (by omega), if_neg en, if_neg (by omega), if_neg (by decide)]
        · by_cases y1 : hpL O B L' < nx
          · have y := mm L' q' vL pL hl
            have u1 := a4 _ y1
            unfold okZ at y ⊢
            rw [u1.1, u1.2.1, u1.2.2]
            exact y
          · by_cases y2 : hpL O B L' = nx
            · refine Or.inr ?_
              have le := hpL_inj vL v' (by rw [y2, hnx])
              have qe := par_one le pL pq'
              have se := sumU_cg L' (lsA L i) B 0 (fun b _ hb => le b (by omega))
              rw [y2, se, sd, Int.toNat_natCast, qe, cT_cg d _ L' (lsA L i) le]
              exact a2
            · exact a3 L' q' vL pL (by omega)
      · have ok := mm (lsA L i) (qEnd S (94 + 2 * i) q) v' pq' (by omega)
        rw [← hnx, sd, Int.toNat_natCast] at ok
        have ok2 : okZ Rw La Fi nx (cT S B fin d (qEnd S (94 + 2 * i) q) (lsA L i)) := by
          rcases ok with y | y
          · exact absurd y r1
          · exact y
        refine ⟨Rw, La, Fi, ?_, ok2, mm, fun _ _ => ⟨rfl, rfl, rfl⟩⟩
        have q50 : hV (CS u L Rw La Fi) 50 i = (hpW O i : Int) := by
          rw [CS_n (by decide) (by decide) (by decide) (by decide)]
          exact hw i iB
        simp only [m_X5_follow_L46, hgI_k, hgR_k, hpI_k, hpR_k, hpZ_k, haI_k, haR_k, hsI_k, hsZ_k, hlen_k, hlet_p, hret_p, hretZ_0, hretZ_1, hif_p, okk_setV, okk_setF, nV, nF, fV, vF, hcallV_b, hbind_p, haI_n, kk_48 h1, rf_48_0 h1, rf_48_1 h1, rf_48_2 h1, kk_49 h1, ln_49 h1, kk_50 h1, ln_50 h1, kk_51 h1, ln_51 h1, i9, n256, CS_49, CS_51, q50, CS_F, f5, TwA.k0 ht, TwA.k1 ht, TwA.k2 ht, TwA.k3 ht, TwA.k4 ht, TwA.k5 ht, TwA.k6 ht, TwA.k7 ht, TwA.k8 ht, TwA.k9 ht, TwA.k10 ht, TwA.k11 ht, TwA.k12 ht, TwA.k13 ht, TwA.k14 ht, TwA.k15 ht, TwA.k16 ht, TwA.k17 ht, TwA.n2 ht, TwA.n3 ht, TwA.n4 ht, TwA.n6 ht, TwA.n7 ht, TwA.n8 ht, TwA.n9 ht, TwA.n10 ht, TwA.n11 ht, TwA.n12 ht, TwA.n13 ht, TwA.n14 ht, TwA.n15 ht, TwA.n16 ht, TwA.n17 ht, TwA.f2 ht, TwA.f3 ht, TwA.f5 ht, TwA.f6 ht, TwA.f8 ht, TwA.f9 ht, TwA.f11 ht, TwA.f12 ht, TwA.f13 ht, TwA.f14 ht, TwA.f15 ht, TwA.b0 ht, TwA.b1 ht, TwA.b2 ht, TwA.g0 ht, TwA.g1 ht, TwA.g2 ht, v2, hB, ov, wx trivial]
        rw [if_neg (by omega), if_neg en, if_neg (by omega), if_pos r1]
    obtain ⟨Rw1, La1, Fi1, g1, g2, g3, g4⟩ := got
    have u0 := g4 (hpL O B L) (Nat.le_refl _)
    have oz1 : okZ Rw1 La1 Fi1 (hpL O B L) z := by
      unfold okZ
      rw [u0.1, u0.2.1, u0.2.2]
      exact oz
    have h3 := CS_shp L Rw1 La1 Fi1 hs
    rw [g1]
    by_cases T0 : 0 < (cT S B fin d (qEnd S (94 + 2 * i) q) (lsA L i)).1
    · have es : stC S (cT S B fin d) d q L i z = (z.1 + (cT S B fin d (qEnd S (94 + 2 * i) q) (lsA L i)).1, z.2.1 ||| (if d = 0 then 2 ^ i else (cT S B fin d (qEnd S (94 + 2 * i) q) (lsA L i)).2.1), if z.1 = 0 then (if d = 0 then (i : Int) else (cT S B fin d (qEnd S (94 + 2 * i) q) (lsA L i)).2.2) else z.2.2) := by
        unfold stC
        rw [if_pos ⟨⟨q0, o⟩, T0⟩]
      have ad := x_addRows hs (L := L) (h := hpL O B L) (nx := nx) (b := i) (d := d) (fl := hpW O B - 1) h256 n256 (by omega) i9 v7' ful oz1 g2 hz.2.2.1 cin.2.2.1 zb ⟨cin.1, by have := cin.2.1; omega⟩
      obtain ⟨Z, hZ⟩ : ∃ Z, Z = stC S (cT S B fin d) d q L i z := ⟨_, rfl⟩
      have ad' : m_X5_addRows 48 (hpL O B L) nx i (CS u L Rw1 La1 Fi1) = some (0, CS u L (sup Rw1 (hpL O B L) Z.1) (sup La1 (hpL O B L) (Z.2.1 : Int)) (sup Fi1 (hpL O B L) Z.2.2)) := by
        rw [ad, hZ, es]
      rw [← hZ] at zin' ⊢
      obtain ⟨Rw', La', Fi', a1, a2, a3, a4⟩ := ih fl (i + 1) Z (sup Rw1 (hpL O B L) Z.1) (sup La1 (hpL O B L) (Z.2.1 : Int)) (sup Fi1 (hpL O B L) Z.2.2) (by omega) (by omega) zin' ⟨sup_s, sup_s, sup_s⟩ (fun L' q' vL pL hl => by
        have y := g3 L' q' vL pL hl
        unfold okZ at y ⊢
        rw [sup_n (by omega), sup_n (by omega), sup_n (by omega)]
        exact y)
      refine ⟨Rw', La', Fi', ?_, a2, a3, fun j hj => ?_⟩
      · rw [← a1]
        simp only [m_X5_follow_L141, m_X5_follow_L160, hgI_k, hgR_k, hpI_k, hpR_k, hpZ_k, haI_k, haR_k, hsI_k, hsZ_k, hlen_k, hlet_p, hret_p, hretZ_0, hretZ_1, hif_p, okk_setV, okk_setF, nV, nF, fV, vF, hcallV_b, hbind_p, haI_n, kk_48 h3, rf_48_2 h3, kk_51 h3, ln_51 h3, n256, CS_51, g2.1, ad', ix_s (show i < 1000000 by omega)]
        rw [if_neg (by omega)]
      · have y := a4 j hj
        have y2 := g4 j (by omega)
        rw [sup_n (by omega), sup_n (by omega), sup_n (by omega)] at y
        exact ⟨y.1.trans y2.1, y.2.1.trans y2.2.1, y.2.2.trans y2.2.2⟩
    · have es : stC S (cT S B fin d) d q L i z = z := by
        unfold stC
        rw [if_neg (fun y => T0 y.2)]
      rw [es] at zin' ⊢
      obtain ⟨Rw', La', Fi', a1, a2, a3, a4⟩ := ih fl (i + 1) z Rw1 La1 Fi1 (by omega) (by omega) zin' oz1 g3
      refine ⟨Rw', La', Fi', ?_, a2, a3, fun j hj => ?_⟩
      · rw [← a1]
        simp only [m_X5_follow_L141, m_X5_follow_L160, hgI_k, hgR_k, hpI_k, hpR_k, hpZ_k, haI_k, haR_k, hsI_k, hsZ_k, hlen_k, hlet_p, hret_p, hretZ_0, hretZ_1, hif_p, okk_setV, okk_setF, nV, nF, fV, vF, haI_n, kk_48 h3, rf_48_2 h3, kk_51 h3, ln_51 h3, n256, CS_51, g2.1, ix_s (show i < 1000000 by omega)]
        rw [if_pos (by omega)]
      · have y := a4 j hj
        have y2 := g4 j (by omega)
        exact ⟨y.1.trans y2.1, y.2.1.trans y2.2.1, y.2.2.trans y2.2.2⟩
