/-! the class's walk, followed -/
def FW (u : hS) (L : Nat → Int) (z : Int × Int) : hS := hput (hput u 47 L) 46 (sup (sup (hV u 46) 2 z.1) 3 z.2)
theorem FW_47 (u : hS) (L : Nat → Int) (z : Int × Int) : hV (FW u L z) 47 = L := by
  unfold FW
  rw [hV_put_n (by decide), hV_put_s]
theorem FW_2 (u : hS) (L : Nat → Int) (z : Int × Int) : hV (FW u L z) 46 2 = z.1 := by
  unfold FW
  rw [hV_put_s, sup_n (by decide), sup_s]
theorem FW_3 (u : hS) (L : Nat → Int) (z : Int × Int) : hV (FW u L z) 46 3 = z.2 := by
  unfold FW
  rw [hV_put_s, sup_s]
theorem FW_shp {u : hS} (L : Nat → Int) (z : Int × Int) (hs : shp u) : shp (FW u L z) := hs
theorem FW_F (u : hS) (L : Nat → Int) (z : Int × Int) : hF (FW u L z) = hF u := Eq.trans (b := hF u) rfl rfl
theorem FW_L (u : hS) (L : Nat → Int) (z : Int × Int) (i : Nat) (x : Int) : hsetV (FW u L z) 47 i x = FW u (sup L i x) z := by
  rw [setV_put1, FW_47]
  unfold FW
  rw [put_comm (show 46 ≠ 47 by decide), hput_put]
theorem FW_z (u : hS) (L : Nat → Int) (z : Int × Int) (a b : Int) : hsetV (hsetV (FW u L z) 46 2 a) 46 3 b = FW u L (a, b) := by
  unfold FW
  rw [setV_put, setV_put, sup_comm (show 3 ≠ 2 by decide), sup_sup, sup_sup]
theorem FW_ext (u : hS) (L : Nat → Int) (z : Int × Int) : ext u (FW u L z) := (ext.put _ _ _).tr (ext.put _ _ _)
theorem FW_agr {u : hS} {L : Nat → Int} {z : Int × Int} {a : Nat} (h : a ≠ 46) (h2 : a ≠ 47) : agr u (FW u L z) a := (agr.put h2).tr (agr.put h)
theorem x_folL {u : hS} (hs : shp u) {t B : Nat} {S : Nat → Int} (rf : RepF u 30 t S) (f1 : hF u 46 1 = t + 1) (hB : S 2 = (B : Int)) (rec : Nat → Int → Int → hM) (d : Nat) (len q : Int) (L : Nat → Int) (hL : ∀ b, b < B → 0 ≤ L b ∧ L b ≤ 9) (l8 : 0 ≤ len ∧ len < 8) (hrec : ∀ (q' : Int) (i : Nat) (z : Int × Int), i < B → 0 < L i → z.1 ≤ 8 → len ≤ z.1 → rec 46 (len + 1) q' (FW u (lsA L i) z) = some (0, FW u (lsA L i) (trN S (fsO S) B d (len + 1) q' (lsA L i) (upT (len + 1) q' z)))) (ld : len + 1 + d ≤ 8) : ∀ (k n i : Nat) (z : Int × Int), k < n → i + k = B → z.1 ≤ 8 → len ≤ z.1 → m_X8_follow_L27 rec n 46 len q i (FW u L z) = some (0, FW u L (trC S (fsO S) (trN S (fsO S) B d (len + 1)) len q L k i z)) := by
  obtain ⟨rs, tz, rw0, ws, wv⟩ := id rf
  have w2 := ws.2.2.1
  have rF : ∀ L z, RepS (FW u L z) 30 t S := fun L z => rs.fr (FW_ext u L z) (fun a _ _ => FW_agr (by omega) (by omega)) (fun a _ _ => FW_agr (by omega) (by omega))
  have t2 : twn S 2 = S 2 := if_pos (by omega)
  have tw4 : ∀ L z (b : Nat), (b : Int) < S 2 → hV (FW u L z) (t + 4) b = qTwin (twn S) b := fun L z b hb => by
    rw [(FW_agr (u := u) (L := L) (z := z) (show t + 4 ≠ 46 by omega) (by omega) b).1]
    exact rw0.1 b (by rw [t2]; exact hb)
  intro k
  induction k with
  | zero =>
    intro n i z hn hi h8 hz
    obtain ⟨n, rfl⟩ : ∃ k, n = k + 1 := ⟨n - 1, by omega⟩
    have h1 := FW_shp L z hs
    have r := rF L z
    have ht := r.ht
    have v2 := r.v2
    simp only [m_X8_follow_L27, m_X8_follow_L114, hgI_k, hgR_k, hpI_k, hpR_k, hpZ_k, haI_k, haR_k, hsI_k, hsZ_k, hlen_k, hlet_p, hret_p, hretZ_0, hretZ_1, hif_p, okk_setV, okk_setF, nV, nF, fV, vF, kk_46 h1, FW_F, f1, TwA.k0 ht, TwA.k1 ht, TwA.k2 ht, TwA.k3 ht, TwA.k4 ht, TwA.k5 ht, TwA.k6 ht, TwA.k7 ht, TwA.k8 ht, TwA.k9 ht, TwA.k10 ht, TwA.k11 ht, TwA.k12 ht, TwA.k13 ht, TwA.k14 ht, TwA.k15 ht, TwA.k16 ht, TwA.k17 ht, TwA.n2 ht, TwA.n3 ht, TwA.n4 ht, TwA.n6 ht, TwA.n7 ht, TwA.n8 ht, TwA.n9 ht, TwA.n10 ht, TwA.n11 ht, TwA.n12 ht, TwA.n13 ht, TwA.n14 ht, TwA.n15 ht, TwA.n16 ht, TwA.n17 ht, TwA.f2 ht, TwA.f3 ht, TwA.f5 ht, TwA.f6 ht, TwA.f8 ht, TwA.f9 ht, TwA.f11 ht, TwA.f12 ht, TwA.f13 ht, TwA.f14 ht, TwA.f15 ht, TwA.b0 ht, TwA.b1 ht, TwA.b2 ht, TwA.g0 ht, TwA.g1 ht, TwA.g2 ht, v2, hB]
    rw [if_pos (by omega)]
    rfl
  | succ k ih =>
    intro n i z hn hi h8 hz
    obtain ⟨n, rfl⟩ : ∃ k, n = k + 1 := ⟨n - 1, by omega⟩
    have h1 := FW_shp L z hs
    have r := rF L z
    have ht := r.ht
    have v2 := r.v2
    have iB : i < B := by omega
    have i9 : i < 9 := by omega
    have hi2 : (i : Int) < S 2 := by omega
    rw [trC_s]
    by_cases z8 : z.1 = 8
    · have e : stT S (fsO S) (trN S (fsO S) B d (len + 1)) len q L i z = z := by
        unfold stT
        rw [if_neg (fun y => y.1 z8)]
      rw [e, trC_8 z8]
      simp only [m_X8_follow_L27, m_X8_follow_L114, hgI_k, hgR_k, hpI_k, hpR_k, hpZ_k, haI_k, haR_k, hsI_k, hsZ_k, hlen_k, hlet_p, hret_p, hretZ_0, hretZ_1, hif_p, okk_setV, okk_setF, nV, nF, fV, vF, kk_46 h1, FW_F, f1, TwA.k0 ht, TwA.k1 ht, TwA.k2 ht, TwA.k3 ht, TwA.k4 ht, TwA.k5 ht, TwA.k6 ht, TwA.k7 ht, TwA.k8 ht, TwA.k9 ht, TwA.k10 ht, TwA.k11 ht, TwA.k12 ht, TwA.k13 ht, TwA.k14 ht, TwA.k15 ht, TwA.k16 ht, TwA.k17 ht, TwA.n2 ht, TwA.n3 ht, TwA.n4 ht, TwA.n6 ht, TwA.n7 ht, TwA.n8 ht, TwA.n9 ht, TwA.n10 ht, TwA.n11 ht, TwA.n12 ht, TwA.n13 ht, TwA.n14 ht, TwA.n15 ht, TwA.n16 ht, TwA.n17 ht, TwA.f2 ht, TwA.f3 ht, TwA.f5 ht, TwA.f6 ht, TwA.f8 ht, TwA.f9 ht, TwA.f11 ht, TwA.f12 ht, TwA.f13 ht, TwA.f14 ht, TwA.f15 ht, TwA.b0 ht, TwA.b1 ht, TwA.b2 ht, TwA.g0 ht, TwA.g1 ht, TwA.g2 ht, v2, hB, FW_2]
      rw [if_neg (by omega), if_pos (by omega)]
    have ov := x_over r ws hi2 q
    have fo := x_first r ws (kk_47 h1) (ln_47 h1) (FW_47 u L z) hi2 (tw4 L z i hi2)
    have v13 : ¬ i ≥ B := by omega
    by_cases q0 : 0 ≤ qEnd S (94 + 2 * i) q
    case neg =>
      have e : stT S (fsO S) (trN S (fsO S) B d (len + 1)) len q L i z = z := by
        unfold stT
        rw [if_neg (fun y => q0 y.2.1)]
      have em : qEnd S (94 + 2 * i) q = -1 := by
        by_cases y : qEnd S (94 + 2 * i) q = -1
        · exact y
        · exact absurd (qEnd_pos wv hi2 q y) q0
      rw [e, ← ih n (i + 1) z (by omega) (by omega) h8 hz]
      simp only [m_X8_follow_L27, m_X8_follow_L114, m_X8_follow_L108, hgI_k, hgR_k, hpI_k, hpR_k, hpZ_k, haI_k, haR_k, hsI_k, hsZ_k, hlen_k, hlet_p, hret_p, hretZ_0, hretZ_1, hif_p, okk_setV, okk_setF, nV, nF, fV, vF, hcallV_b, hbind_p, kk_46 h1, FW_F, f1, TwA.k0 ht, TwA.k1 ht, TwA.k2 ht, TwA.k3 ht, TwA.k4 ht, TwA.k5 ht, TwA.k6 ht, TwA.k7 ht, TwA.k8 ht, TwA.k9 ht, TwA.k10 ht, TwA.k11 ht, TwA.k12 ht, TwA.k13 ht, TwA.k14 ht, TwA.k15 ht, TwA.k16 ht, TwA.k17 ht, TwA.n2 ht, TwA.n3 ht, TwA.n4 ht, TwA.n6 ht, TwA.n7 ht, TwA.n8 ht, TwA.n9 ht, TwA.n10 ht, TwA.n11 ht, TwA.n12 ht, TwA.n13 ht, TwA.n14 ht, TwA.n15 ht, TwA.n16 ht, TwA.n17 ht, TwA.f2 ht, TwA.f3 ht, TwA.f5 ht, TwA.f6 ht, TwA.f8 ht, TwA.f9 ht, TwA.f11 ht, TwA.f12 ht, TwA.f13 ht, TwA.f14 ht, TwA.f15 ht, TwA.b0 ht, TwA.b1 ht, TwA.b2 ht, TwA.g0 ht, TwA.g1 ht, TwA.g2 ht, v2, hB, FW_2, ov, em, ix_s (show i < 1000000 by omega)]
      rw [if_neg (by omega), if_neg (by omega), if_pos trivial]
    have en : ¬ qEnd S (94 + 2 * i) q = -1 := by omega
    cases hf : fsO S L i with
    | false =>
      have e : stT S (fsO S) (trN S (fsO S) B d (len + 1)) len q L i z = z := by
        unfold stT
        rw [if_neg (fun y => by
          rw [hf] at y
          exact absurd y.2.2 (by decide))]
      rw [hf, if_neg (by decide)] at fo
      rw [e, ← ih n (i + 1) z (by omega) (by omega) h8 hz]
      simp only [m_X8_follow_L27, m_X8_follow_L114, m_X8_follow_L108, hgI_k, hgR_k, hpI_k, hpR_k, hpZ_k, haI_k, haR_k, hsI_k, hsZ_k, hlen_k, hlet_p, hret_p, hretZ_0, hretZ_1, hif_p, okk_setV, okk_setF, nV, nF, fV, vF, hcallV_b, hbind_p, kk_46 h1, rf_46_0 h1, FW_F, f1, TwA.k0 ht, TwA.k1 ht, TwA.k2 ht, TwA.k3 ht, TwA.k4 ht, TwA.k5 ht, TwA.k6 ht, TwA.k7 ht, TwA.k8 ht, TwA.k9 ht, TwA.k10 ht, TwA.k11 ht, TwA.k12 ht, TwA.k13 ht, TwA.k14 ht, TwA.k15 ht, TwA.k16 ht, TwA.k17 ht, TwA.n2 ht, TwA.n3 ht, TwA.n4 ht, TwA.n6 ht, TwA.n7 ht, TwA.n8 ht, TwA.n9 ht, TwA.n10 ht, TwA.n11 ht, TwA.n12 ht, TwA.n13 ht, TwA.n14 ht, TwA.n15 ht, TwA.n16 ht, TwA.n17 ht, TwA.f2 ht, TwA.f3 ht, TwA.f5 ht, TwA.f6 ht, TwA.f8 ht, TwA.f9 ht, TwA.f11 ht, TwA.f12 ht, TwA.f13 ht, TwA.f14 ht, TwA.f15 ht, TwA.b0 ht, TwA.b1 ht, TwA.b2 ht, TwA.g0 ht, TwA.g1 ht, TwA.g2 ht, v2, hB, FW_2, ov, fo, ix_s (show i < 1000000 by omega)]
      rw [if_neg (by omega), if_neg (by omega), if_neg en, if_pos trivial]
    | true =>
      have o := fsO_1 L i hf
      have bL := hL i iB
      rw [hf, if_pos rfl] at fo
      have e : stT S (fsO S) (trN S (fsO S) B d (len + 1)) len q L i z = trN S (fsO S) B d (len + 1) (qEnd S (94 + 2 * i) q) (lsA L i) (upT (len + 1) (qEnd S (94 + 2 * i) q) z) := by
        unfold stT
        rw [if_pos ⟨z8, q0, hf⟩]
      rw [e]
      have u8 := upT_in (len := len + 1) (q := qEnd S (94 + 2 * i) q) h8 (by omega)
      have mo := trN_mono (S := S) (f := fsO S) (B := B) d (len + 1) (qEnd S (94 + 2 * i) q) (lsA L i) (upT (len + 1) (qEnd S (94 + 2 * i) q) z) (by omega) u8.2.2
      rw [← ih n (i + 1) _ (by omega) (by omega) mo.2 (by omega)]
      have hr := hrec (qEnd S (94 + 2 * i) q) i z iB o h8 hz
      have wl : w32 (len + 1) = len + 1 := w32_id ⟨by omega, by omega⟩
      have w1 : w32 (L i - 1) = L i - 1 := w32_id ⟨by omega, by omega⟩
      have w3 : w32 (L i - 1 + 1) = L i := by
        rw [w32_id ⟨by omega, by omega⟩]
        omega
      have hs2 := FW_shp (lsA L i) z hs
      have e1 : sup L i (L i - 1) = lsA L i := rfl
      have e2 : sup (lsA L i) i (L i) = L := by
        unfold lsA
        rw [sup_sup, sup_self]
      have e3 : lsA L i i = L i - 1 := sup_s
      have hs3 := FW_shp (lsA L i) (trN S (fsO S) B d (len + 1) (qEnd S (94 + 2 * i) q) (lsA L i) (upT (len + 1) (qEnd S (94 + 2 * i) q) z)) hs
      simp only [m_X8_follow_L27, m_X8_follow_L114, m_X8_follow_L108, hgI_k, hgR_k, hpI_k, hpR_k, hpZ_k, haI_k, haR_k, hsI_k, hsZ_k, hlen_k, hlet_p, hret_p, hretZ_0, hretZ_1, hif_p, okk_setV, okk_setF, nV, nF, fV, vF, hcallV_b, hbind_p, haI_n, hsI_n, kk_46 h1, rf_46_0 h1, kk_47 h1, ln_47 h1, i9, FW_F, f1, TwA.k0 ht, TwA.k1 ht, TwA.k2 ht, TwA.k3 ht, TwA.k4 ht, TwA.k5 ht, TwA.k6 ht, TwA.k7 ht, TwA.k8 ht, TwA.k9 ht, TwA.k10 ht, TwA.k11 ht, TwA.k12 ht, TwA.k13 ht, TwA.k14 ht, TwA.k15 ht, TwA.k16 ht, TwA.k17 ht, TwA.n2 ht, TwA.n3 ht, TwA.n4 ht, TwA.n6 ht, TwA.n7 ht, TwA.n8 ht, TwA.n9 ht, TwA.n10 ht, TwA.n11 ht, TwA.n12 ht, TwA.n13 ht, TwA.n14 ht, TwA.n15 ht, TwA.n16 ht, TwA.n17 ht, TwA.f2 ht, TwA.f3 ht, TwA.f5 ht, TwA.f6 ht, TwA.f8 ht, TwA.f9 ht, TwA.f11 ht, TwA.f12 ht, TwA.f13 ht, TwA.f14 ht, TwA.f15 ht, TwA.b0 ht, TwA.b1 ht, TwA.b2 ht, TwA.g0 ht, TwA.g1 ht, TwA.g2 ht, v2, hB, FW_2, FW_47, ov, fo, w1, wl, FW_L, e1, kk_46 hs2, hr, kk_46 hs3, kk_47 hs3, ln_47 hs3, rf_46_0 hs, e3, w3, e2, ix_s (show i < 1000000 by omega)]
      rw [if_neg (by omega), if_neg (by omega), if_neg en, if_neg (by decide)]
theorem x_follow {u : hS} (hs : shp u) {t B : Nat} {S : Nat → Int} (rf : RepF u 30 t S) (f1 : hF u 46 1 = t + 1) (hB : S 2 = (B : Int)) : ∀ (d n : Nat) (len q : Int) (L : Nat → Int) (z : Int × Int), d < n → len + d = 8 → 0 ≤ len → (∀ b, b < B → 0 ≤ L b ∧ L b ≤ 9) → z.1 ≤ 8 → len ≤ z.1 + 1 → M_X8_follow n 46 len q (FW u L z) = some (0, FW u L (trN S (fsO S) B d len q L (upT len q z))) := by
  have ws := rf.2.2.2.1
  have w2 := ws.2.2.1
  intro d
  induction d with
  | zero =>
    intro n len q L z hn hl h0 hL h8 hz
    obtain ⟨n, rfl⟩ : ∃ k, n = k + 1 := ⟨n - 1, by omega⟩
    have h1 := FW_shp L z hs
    have len8 : len = 8 := by omega
    subst len8
    show m_X8_follow (M_X8_follow n) 46 8 q (FW u L z) = some (0, FW u L (upT 8 q z))
    have n8 : ¬ (8 : Int) < 8 := by decide
    have e18 : ∀ v : hS, m_X8_follow_L18 (M_X8_follow n) 46 8 q v = some (0, v) := fun v => by
      unfold m_X8_follow_L18
      rw [hif_p, if_neg n8]
      simp only [hgI_k, hgR_k, hpI_k, hpR_k, hpZ_k, haI_k, haR_k, hsI_k, hsZ_k, hlen_k, hlet_p, hret_p, hretZ_0, hretZ_1, hif_p, okk_setV, okk_setF, nV, nF, fV, vF]
    unfold upT
    simp only [m_X8_follow, hgI_k, hgR_k, hpI_k, hpR_k, hpZ_k, haI_k, haR_k, hsI_k, hsZ_k, hlen_k, hlet_p, hret_p, hretZ_0, hretZ_1, hif_p, okk_setV, okk_setF, nV, nF, fV, vF, kk_46 h1, FW_2, FW_z, e18]
    by_cases y : z.1 < 8
    · rw [if_neg (by omega), if_pos y]
    · rw [if_pos (by omega), if_neg y]
  | succ d ih =>
    intro n len q L z hn hl h0 hL h8 hz
    obtain ⟨n, rfl⟩ : ∃ k, n = k + 1 := ⟨n - 1, by omega⟩
    have h1 := FW_shp L z hs
    have up := upT_in (len := len) (q := q) h8 (by omega)
    have fl : ∀ z : Int × Int, z.1 ≤ 8 → len ≤ z.1 → m_X8_follow_L27 (M_X8_follow n) 1000000000 46 len q 0 (FW u L z) = some (0, FW u L (trC S (fsO S) (trN S (fsO S) B d (len + 1)) len q L B 0 z)) := fun z g8 gz => x_folL hs rf f1 hB (M_X8_follow n) d len q L hL ⟨h0, by omega⟩ (fun q' i z iB o k8 kz => ih n (len + 1) q' (lsA L i) z (by omega) (by omega) (by omega) (fun b hb => by
      have y := hL b hb
      by_cases e : b = i
      · subst e
        rw [lsA_s]
        omega
      · rw [lsA_n e]
        exact y) k8 (by omega)) (by omega) B 1000000000 0 z (by omega) (by omega) g8 gz
    show m_X8_follow (M_X8_follow n) 46 len q (FW u L z) = some (0, FW u L (trN S (fsO S) B (d + 1) len q L (upT len q z)))
    rw [trN_s, ← fl _ up.2.2 up.2.1]
    have l8 : len < 8 := by omega
    have e18 : ∀ v : hS, m_X8_follow_L18 (M_X8_follow n) 46 len q v = m_X8_follow_L27 (M_X8_follow n) 1000000000 46 len q 0 v := fun v => by
      unfold m_X8_follow_L18
      rw [hif_p, if_pos l8, hlet_p]
    unfold upT
    simp only [m_X8_follow, hgI_k, hgR_k, hpI_k, hpR_k, hpZ_k, haI_k, haR_k, hsI_k, hsZ_k, hlen_k, hlet_p, hret_p, hretZ_0, hretZ_1, hif_p, okk_setV, okk_setF, nV, nF, fV, vF, kk_46 h1, FW_2, FW_z, e18]
    by_cases y : z.1 < len
    · rw [if_neg (by omega), if_pos y]
    · rw [if_pos (by omega), if_neg y]
