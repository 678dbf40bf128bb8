/-! the class's plan, searched -/
def PL (u : hS) (L W V : Nat → Int) (M : Int) : hS := hput (hput (hput (hput u 41 L) 44 W) 45 V) 40 (sup (hV u 40) 9 M)
theorem PL_41 (u : hS) (L W V : Nat → Int) (M : Int) : hV (PL u L W V M) 41 = L := by
  unfold PL
  rw [hV_put_n (by decide), hV_put_n (by decide), hV_put_n (by decide), hV_put_s]
theorem PL_44 (u : hS) (L W V : Nat → Int) (M : Int) : hV (PL u L W V M) 44 = W := by
  unfold PL
  rw [hV_put_n (by decide), hV_put_n (by decide), hV_put_s]
theorem PL_45 (u : hS) (L W V : Nat → Int) (M : Int) : hV (PL u L W V M) 45 = V := by
  unfold PL
  rw [hV_put_n (by decide), hV_put_s]
theorem PL_9 (u : hS) (L W V : Nat → Int) (M : Int) : hV (PL u L W V M) 40 9 = M := by
  unfold PL
  rw [hV_put_s, sup_s]
theorem PL_j {u : hS} {L W V : Nat → Int} {M : Int} {j : Nat} (h : j ≠ 9) : hV (PL u L W V M) 40 j = hV u 40 j := by
  unfold PL
  rw [hV_put_s, sup_n h]
theorem PL_n {u : hS} {L W V : Nat → Int} {M : Int} {a : Nat} (h : a ≠ 40) (h1 : a ≠ 41) (h2 : a ≠ 44) (h3 : a ≠ 45) : hV (PL u L W V M) a = hV u a := by
  unfold PL
  rw [hV_put_n h, hV_put_n h3, hV_put_n h2, hV_put_n h1]
theorem PL_shp {u : hS} (L W V : Nat → Int) (M : Int) (hs : shp u) : shp (PL u L W V M) := hs
theorem PL_F (u : hS) (L W V : Nat → Int) (M : Int) : hF (PL u L W V M) = hF u := Eq.trans (b := hF u) rfl rfl
theorem PL_L (u : hS) (L W V : Nat → Int) (M : Int) (i : Nat) (x : Int) : hsetV (PL u L W V M) 41 i x = PL u (sup L i x) W V M := by
  rw [setV_put1, PL_41]
  unfold PL
  rw [put_comm (show 40 ≠ 41 by decide), put_comm (show 45 ≠ 41 by decide), put_comm (show 44 ≠ 41 by decide), hput_put]
theorem PL_W (u : hS) (L W V : Nat → Int) (M : Int) (i : Nat) (x : Int) : hsetV (PL u L W V M) 44 i x = PL u L (sup W i x) V M := by
  rw [setV_put1, PL_44]
  unfold PL
  rw [put_comm (show 40 ≠ 44 by decide), put_comm (show 45 ≠ 44 by decide), hput_put]
theorem PL_M (u : hS) (L W V : Nat → Int) (M x : Int) : hsetV (PL u L W V M) 40 9 x = PL u L W V x := by
  unfold PL
  rw [setV_put, sup_sup]
theorem copy_put (u : hS) (a b n : Nat) : hcopy u a 0 b 0 n = hput u b (fun j => if j < n then hV u a j else hV u b j) := by
  obtain ⟨K, N, V, F, B⟩ := u
  unfold hcopy hput hV
  simp only [Prod.mk.injEq, and_true, true_and]
  funext c j
  by_cases e : c = b
  · subst e
    by_cases h : j < n
    · rw [if_pos ⟨rfl, by omega, by omega⟩, if_pos rfl, if_pos h]
      congr 1
      omega
    · rw [if_neg (by omega), if_pos rfl, if_neg h]
  · rw [if_neg (fun z => e z.1), if_neg e]
theorem PL_V (u : hS) (L W V : Nat → Int) (M : Int) (n : Nat) : hcopy (PL u L W V M) 44 0 45 0 n = PL u L W (fun j => if j < n then W j else V j) M := by
  rw [copy_put, PL_44, PL_45]
  unfold PL
  rw [put_comm (show 40 ≠ 45 by decide), hput_put]
theorem PL_ext (u : hS) (L W V : Nat → Int) (M : Int) : ext u (PL u L W V M) := (ext.put _ _ _).tr ((ext.put _ _ _).tr ((ext.put _ _ _).tr (ext.put _ _ _)))
theorem PL_agr {u : hS} {L W V : Nat → Int} {M : Int} {a : Nat} (h : a ≠ 40) (h1 : a ≠ 41) (h2 : a ≠ 44) (h3 : a ≠ 45) : agr u (PL u L W V M) a := (agr.put h1).tr ((agr.put h2).tr ((agr.put h3).tr (agr.put h)))
theorem ix_kq {k q : Nat} (hk : k < 100) (hq : q < 100) : w32 (w32 ((k : Int) * 8) + (q : Int)) = ((8 * k + q : Nat) : Int) := by
  rw [w32_id (x := (k : Int) * 8) ⟨by omega, by omega⟩, w32_id ⟨by omega, by omega⟩]
  omega
theorem ix_kb {k q : Nat} (hk : k < 100) (hq : q < 100) : w32 (w32 (w32 ((k : Int) + 1) * 8) + (q : Int)) = ((8 * (k + 1) + q : Nat) : Int) := by
  rw [w32_id (x := (k : Int) + 1) ⟨by omega, by omega⟩, w32_id (x := ((k : Int) + 1) * 8) ⟨by omega, by omega⟩, w32_id ⟨by omega, by omega⟩]
  omega
/-- what the plan knows when it searches -/
def plC (u : hS) (t n B : Nat) (S L0 : Nat → Int) (G : Nat → Int → Int) (h : Int) : Prop := shp u ∧ RepF u 30 t S ∧ hF u 40 5 = t ∧ hV u 40 6 = (n : Int) ∧ (1 ≤ n ∧ n ≤ 6) ∧ S 2 = (B : Int) ∧ (∀ k q : Nat, k < n → (q : Int) < S 0 → hV u 42 (8 * k + q) = G k q ∧ 0 ≤ G k q ∧ G k q ≤ 800) ∧ ∀ k q : Nat, k ≤ n → (q : Int) < S 0 → hV u 43 (8 * k + q) = bdN S L0 B G h (n - k) k q ∧ -1 ≤ bdN S L0 B G h (n - k) k q ∧ bdN S L0 B G h (n - k) k q ≤ 800 * ((n - k : Nat) : Int)
theorem x_boundBy {u : hS} {t n B : Nat} {S L0 : Nat → Int} {G : Nat → Int → Int} {h : Int} (c : plC u t n B S L0 G h) {k q : Nat} (hk : k < n) (hq : (q : Int) < S 0) (L W V : Nat → Int) (M : Int) : m_X2_boundBy 40 k q (PL u L W V M) = some (bbS (bdN S L0 B G h (n - (k + 1)) (k + 1)) G k q, PL u L W V M) := by
  obtain ⟨hs, rf, f5, v6, hn, hB, hg, hb⟩ := c
  have w0 := rf.2.2.2.1.1
  have h1 := PL_shp L W V M hs
  obtain ⟨b1, b2, b3⟩ := hb (k + 1) q (by omega) hq
  obtain ⟨g1, g2, g3⟩ := hg k q hk hq
  have i1 : 8 * (k + 1) + q < 56 := by omega
  have i2 : 8 * k + q < 48 := by omega
  have e3 : w32 (bdN S L0 B G h (n - (k + 1)) (k + 1) q + G k q) = bdN S L0 B G h (n - (k + 1)) (k + 1) q + G k q := w32_id ⟨by omega, by omega⟩
  have k100 : k < 100 := by omega
  have q100 : q < 100 := by omega
  have q43 : hV (PL u L W V M) 43 = hV u 43 := PL_n (by decide) (by decide) (by decide) (by decide)
  have q42 : hV (PL u L W V M) 42 = hV u 42 := PL_n (by decide) (by decide) (by decide) (by decide)
  simp only [m_X2_boundBy_L36, m_X2_boundBy, hgI_k, hgR_k, hpI_k, hpR_k, hpZ_k, haI_k, haR_k, hsI_k, hsZ_k, hlen_k, hlet_p, hret_p, hretZ_0, hretZ_1, hif_p, okk_setV, okk_setF, nV, nF, fV, vF, haI_n, kk_40 h1, rf_40_1 h1, rf_40_2 h1, kk_43 h1, ln_43 h1, kk_42 h1, ln_42 h1, ix_kb k100 q100, ix_kq k100 q100, i1, i2, q43, q42, b1, g1, e3]
  unfold bbS
  by_cases z : bdN S L0 B G h (n - (k + 1)) (k + 1) q = -1
  · rw [if_neg (fun y => y z), if_pos z]
  · rw [if_pos z, if_neg z]
/-- the memory holds the best so far and the row so far -/
def plM (n k : Nat) (W V r : Nat → Int) (z : lZ) : Prop := (∀ j, j < k → W j = r j) ∧ ∀ j, j < n → V j = z.2 j
theorem x_spend {u : hS} {t n B : Nat} {S L0 : Nat → Int} {G : Nat → Int → Int} {h : Int} (c : plC u t n B S L0 G h) {k q : Nat} (hk : k < n) (hq : (q : Int) < S 0) {L : Nat → Int} {e : Int} (he : 0 ≤ e ∧ e ≤ 800 * k) (rec : Nat → Int → Int → Int → hM) (rc : lRc) (hrec : ∀ (r W V : Nat → Int) (z : lZ), plM n (k + 1) W V r z → -1 ≤ z.1 → (k + 1 = n → (q : Int) = h ∧ z.1 < e + G k q) → ∃ W' V', rec 40 ((k + 1 : Nat) : Int) q (e + G k q) (PL u L W V z.1) = some (0, PL u L W' V' (rc q L (e + G k q) r z).1) ∧ plM n (k + 1) W' V' r (rc q L (e + G k q) r z)) {b : Int} {r W V : Nat → Int} {z : lZ} (pm : plM n k W V r z) (zM : -1 ≤ z.1) : ∃ W' V', m_X2_spend rec 40 k q b e (PL u L W V z.1) = some (0, PL u L W' V' (if ctC S L0 B n G h k q e z.1 = true then rc q L (e + G k q) (sup r k b) z else z).1) ∧ plM n k W' V' r (if ctC S L0 B n G h k q e z.1 = true then rc q L (e + G k q) (sup r k b) z else z) := by
  have bb := x_boundBy c hk hq L W V z.1
  have c' := c
  obtain ⟨hs, rf, f5, v6, hn, hB, hg, hb⟩ := c'
  have w0 := rf.2.2.2.1.1
  have h1 := PL_shp L W V z.1 hs
  obtain ⟨b1, b2, b3⟩ := hb (k + 1) q (by omega) hq
  obtain ⟨g1, g2, g3⟩ := hg k q hk hq
  have bnd : -1 ≤ bbS (bdN S L0 B G h (n - (k + 1)) (k + 1)) G k q ∧ bbS (bdN S L0 B G h (n - (k + 1)) (k + 1)) G k q ≤ 5600 := by
    unfold bbS
    split <;> omega
  have e3 : w32 (e + bbS (bdN S L0 B G h (n - (k + 1)) (k + 1)) G k q) = e + bbS (bdN S L0 B G h (n - (k + 1)) (k + 1)) G k q := w32_id ⟨by omega, by omega⟩
  cases hc : ctC S L0 B n G h k q e z.1 with
  | false =>
    have y := of_decide_eq_false hc
    refine ⟨W, V, ?_, ?_⟩
    · rw [if_neg (by decide)]
      simp only [m_X2_spend_L55, m_X2_spend, hgI_k, hgR_k, hpI_k, hpR_k, hpZ_k, haI_k, haR_k, hsI_k, hsZ_k, hlen_k, hlet_p, hret_p, hretZ_0, hretZ_1, hif_p, okk_setV, okk_setF, nV, nF, fV, vF, hcallV_b, hbind_p, kk_40 h1, bb, e3, PL_9]
      by_cases x : bbS (bdN S L0 B G h (n - (k + 1)) (k + 1)) G k q = -1
      · rw [if_pos x]
      · rw [if_neg x, if_pos (by
          apply Classical.byContradiction
          intro o
          exact y ⟨x, by omega⟩)]
    · rw [if_neg (by decide)]
      exact pm
  | true =>
    have y := of_decide_eq_true hc
    have k6 : k < 6 := by omega
    have h2 := PL_shp L (sup W k b) V z.1 hs
    have i2 : 8 * k + q < 48 := by omega
    have e4 : w32 (e + G k q) = e + G k q := w32_id ⟨by omega, by omega⟩
    have q42 : hV (PL u L (sup W k b) V z.1) 42 = hV u 42 := PL_n (by decide) (by decide) (by decide) (by decide)
    obtain ⟨W', V', a1, a2, a3⟩ := hrec (sup r k b) (sup W k b) V z ⟨fun j hj => by
      by_cases x : j = k
      · subst x
        rw [sup_s, sup_s]
      · rw [sup_n x, sup_n x]
        exact pm.1 j (by omega), pm.2⟩ zM (fun kn => by
      have y1 := y.1
      have y2 := y.2
      have nk : n - (k + 1) = 0 := by omega
      rw [nk] at y1 y2
      have b0 : bdN S L0 B G h 0 (k + 1) q = if (q : Int) = h then 0 else -1 := rfl
      unfold bbS at y1 y2
      rw [b0] at y1 y2
      by_cases x : (q : Int) = h
      · rw [if_pos x, if_neg (by decide)] at y2
        exact ⟨x, by omega⟩
      · rw [if_neg x, if_pos rfl] at y1
        exact absurd rfl y1)
    refine ⟨W', V', ?_, ?_⟩
    · rw [if_pos rfl]
      simp only [m_X2_spend_L55, m_X2_spend, hgI_k, hgR_k, hpI_k, hpR_k, hpZ_k, haI_k, haR_k, hsI_k, hsZ_k, hlen_k, hlet_p, hret_p, hretZ_0, hretZ_1, hif_p, okk_setV, okk_setF, nV, nF, fV, vF, hcallV_b, hbind_p, haI_n, hsI_n, kk_40 h1, rf_40_3 h1, kk_44 h1, ln_44 h1, k6, bb, e3, PL_9, PL_W, kk_40 h2, rf_40_1 h2, kk_42 h2, ln_42 h2, ix_kq (show k < 100 by omega) (show q < 100 by omega), i2, q42, g1, e4, ix_s (show k < 1000000 by omega), a1]
      rw [if_neg y.1, if_neg (by omega)]
    · rw [if_pos rfl]
      refine ⟨fun j hj => ?_, a3⟩
      rw [a2 j (by omega), sup_n (by omega)]
theorem x_seaL {u : hS} {t n B : Nat} {S L0 : Nat → Int} {G : Nat → Int → Int} {h : Int} (c : plC u t n B S L0 G h) {k q : Nat} (hk : k < n) (hq : (q : Int) < S 0) {L : Nat → Int} (hL : ∀ b, b < B → 0 ≤ L b ∧ L b ≤ 10) {e : Int} (he : 0 ≤ e ∧ e ≤ 800 * k) (rsp : Nat → Int → Int → Int → Int → hM) (rc : lRc) (r : Nat → Int) (hsp : ∀ (q' i : Nat) (W V : Nat → Int) (z : lZ), (q' : Int) < S 0 → i < B → 0 < L i → plM n k W V r z → -1 ≤ z.1 → ∃ W' V', rsp 40 k q' i e (PL u (lsA L i) W V z.1) = some (0, PL u (lsA L i) W' V' (if ctC S L0 B n G h k q' e z.1 = true then rc q' (lsA L i) (e + G k q') (sup r k i) z else z).1) ∧ plM n k W' V' r (if ctC S L0 B n G h k q' e z.1 = true then rc q' (lsA L i) (e + G k q') (sup r k i) z else z)) (mono : ∀ q' L' e' r' z, z.1 ≤ (rc q' L' e' r' z).1) : ∀ (m fl i : Nat) (W V : Nat → Int) (z : lZ), m < fl → i + m = B → plM n k W V r z → -1 ≤ z.1 → ∃ W' V', m_X2_search_L42 rsp fl 40 k q e i (PL u L W V z.1) = some (0, PL u L W' V' (liC S G (fsO S) (ctC S L0 B n G h) rc k q L e r m i z).1) ∧ plM n k W' V' r (liC S G (fsO S) (ctC S L0 B n G h) rc k q L e r m i z) := by
  obtain ⟨hs, rf, f5, v6, hn, hB, hg, hb⟩ := id c
  obtain ⟨rs, tz, rw0, ws, wv⟩ := id rf
  have w0 := ws.1
  have w2 := ws.2.2.1
  have rF : ∀ L W V M, RepS (PL u L W V M) 30 t S := fun L W V M => rs.fr (PL_ext u L W V M) (fun a _ _ => PL_agr (by omega) (by omega) (by omega) (by omega)) (fun a _ _ => PL_agr (by omega) (by omega) (by omega) (by omega))
  have t2 : twn S 2 = S 2 := if_pos (by omega)
  have tw4 : ∀ L W V M (b : Nat), (b : Int) < S 2 → hV (PL u L W V M) (t + 4) b = qTwin (twn S) b := fun L W V M b hb => by
    rw [(PL_agr (u := u) (L := L) (W := W) (V := V) (M := M) (show t + 4 ≠ 40 by omega) (by omega) (by omega) (by omega) b).1]
    exact rw0.1 b (by rw [t2]; exact hb)
  intro m
  induction m with
  | zero =>
    intro fl i W V z hf hi pm zM
    obtain ⟨fl, rfl⟩ : ∃ x, fl = x + 1 := ⟨fl - 1, by omega⟩
    have h1 := PL_shp L W V z.1 hs
    have r0 := rF L W V z.1
    have ht := r0.ht
    have v2 := r0.v2
    refine ⟨W, V, ?_, pm⟩
    simp only [m_X2_search_L42, hgI_k, hgR_k, hpI_k, hpR_k, hpZ_k, haI_k, haR_k, hsI_k, hsZ_k, hlen_k, hlet_p, hret_p, hretZ_0, hretZ_1, hif_p, okk_setV, okk_setF, nV, nF, fV, vF, kk_40 h1, PL_F, f5, TwA.k0 ht, TwA.k1 ht, TwA.k2 ht, TwA.k3 ht, TwA.k4 ht, TwA.k5 ht, TwA.k6 ht, TwA.k7 ht, TwA.k8 ht, TwA.k9 ht, TwA.k10 ht, TwA.k11 ht, TwA.k12 ht, TwA.k13 ht, TwA.k14 ht, TwA.k15 ht, TwA.k16 ht, TwA.k17 ht, TwA.n2 ht, TwA.n3 ht, TwA.n4 ht, TwA.n6 ht, TwA.n7 ht, TwA.n8 ht, TwA.n9 ht, TwA.n10 ht, TwA.n11 ht, TwA.n12 ht, TwA.n13 ht, TwA.n14 ht, TwA.n15 ht, TwA.n16 ht, TwA.n17 ht, TwA.f2 ht, TwA.f3 ht, TwA.f5 ht, TwA.f6 ht, TwA.f8 ht, TwA.f9 ht, TwA.f11 ht, TwA.f12 ht, TwA.f13 ht, TwA.f14 ht, TwA.f15 ht, TwA.b0 ht, TwA.b1 ht, TwA.b2 ht, TwA.g0 ht, TwA.g1 ht, TwA.g2 ht, v2, hB]
    rw [if_pos (by omega)]
    rfl
  | succ m ih =>
    intro fl i W V z hf hi pm zM
    obtain ⟨fl, rfl⟩ : ∃ x, fl = x + 1 := ⟨fl - 1, by omega⟩
    have h1 := PL_shp L W V z.1 hs
    have r0 := rF L W V z.1
    have ht := r0.ht
    have v2 := r0.v2
    have iB : i < B := by omega
    have i9 : i < 9 := by omega
    have hi2 : (i : Int) < S 2 := by omega
    have ov := x_over r0 ws hi2 q
    have fo := x_first r0 ws (kk_41 h1) (ln_41 h1) (PL_41 u L W V z.1) hi2 (tw4 L W V z.1 i hi2)
    rw [liC_s]
    by_cases q0 : 0 ≤ qEnd S (94 + 2 * i) q
    case neg =>
      have es : stL S G (fsO S) (ctC S L0 B n G h) rc k q L e r i z = z := by
        unfold stL
        rw [if_neg (fun y => q0 y.1)]
      have em : qEnd S (94 + 2 * i) q = -1 := by
        by_cases y : qEnd S (94 + 2 * i) q = -1
        · exact y
        · exact absurd (qEnd_pos wv hi2 q y) q0
      obtain ⟨W', V', a1, a2⟩ := ih fl (i + 1) W V z (by omega) (by omega) pm zM
      rw [es]
      refine ⟨W', V', ?_, a2⟩
      rw [← a1]
      simp only [m_X2_search_L42, m_X2_search_L129, hgI_k, hgR_k, hpI_k, hpR_k, hpZ_k, haI_k, haR_k, hsI_k, hsZ_k, hlen_k, hlet_p, hret_p, hretZ_0, hretZ_1, hif_p, okk_setV, okk_setF, nV, nF, fV, vF, hcallV_b, hbind_p, kk_40 h1, PL_F, f5, TwA.k0 ht, TwA.k1 ht, TwA.k2 ht, TwA.k3 ht, TwA.k4 ht, TwA.k5 ht, TwA.k6 ht, TwA.k7 ht, TwA.k8 ht, TwA.k9 ht, TwA.k10 ht, TwA.k11 ht, TwA.k12 ht, TwA.k13 ht, TwA.k14 ht, TwA.k15 ht, TwA.k16 ht, TwA.k17 ht, TwA.n2 ht, TwA.n3 ht, TwA.n4 ht, TwA.n6 ht, TwA.n7 ht, TwA.n8 ht, TwA.n9 ht, TwA.n10 ht, TwA.n11 ht, TwA.n12 ht, TwA.n13 ht, TwA.n14 ht, TwA.n15 ht, TwA.n16 ht, TwA.n17 ht, TwA.f2 ht, TwA.f3 ht, TwA.f5 ht, TwA.f6 ht, TwA.f8 ht, TwA.f9 ht, TwA.f11 ht, TwA.f12 ht, TwA.f13 ht, TwA.f14 ht, TwA.f15 ht, TwA.b0 ht, TwA.b1 ht, TwA.b2 ht, TwA.g0 ht, TwA.g1 ht, TwA.g2 ht, v2, hB, ov, em, ix_s (show i < 1000000 by omega)]
      rw [if_neg (by omega), if_pos trivial]
    have en : ¬ qEnd S (94 + 2 * i) q = -1 := by omega
    obtain ⟨o, ho⟩ : ∃ o : Nat, qEnd S (94 + 2 * i) q = o := ⟨(qEnd S (94 + 2 * i) q).toNat, by omega⟩
    have zb := wv.1 i hi2
    have o0 : (o : Int) < S 0 := by
      rcases qEnd_cases ho (by omega) with ⟨e1, e2⟩ | ⟨e1, e2⟩ <;> omega
    cases hf' : fsO S L i with
    | false =>
      have es : stL S G (fsO S) (ctC S L0 B n G h) rc k q L e r i z = z := by
        unfold stL
        rw [if_neg (fun y => by
          rw [hf'] at y
          exact absurd y.2.1 (by decide))]
      rw [hf', if_neg (by decide)] at fo
      obtain ⟨W', V', a1, a2⟩ := ih fl (i + 1) W V z (by omega) (by omega) pm zM
      rw [es]
      refine ⟨W', V', ?_, a2⟩
      rw [← a1]
      simp only [m_X2_search_L42, m_X2_search_L129, hgI_k, hgR_k, hpI_k, hpR_k, hpZ_k, haI_k, haR_k, hsI_k, hsZ_k, hlen_k, hlet_p, hret_p, hretZ_0, hretZ_1, hif_p, okk_setV, okk_setF, nV, nF, fV, vF, hcallV_b, hbind_p, kk_40 h1, rf_40_0 h1, PL_F, f5, TwA.k0 ht, TwA.k1 ht, TwA.k2 ht, TwA.k3 ht, TwA.k4 ht, TwA.k5 ht, TwA.k6 ht, TwA.k7 ht, TwA.k8 ht, TwA.k9 ht, TwA.k10 ht, TwA.k11 ht, TwA.k12 ht, TwA.k13 ht, TwA.k14 ht, TwA.k15 ht, TwA.k16 ht, TwA.k17 ht, TwA.n2 ht, TwA.n3 ht, TwA.n4 ht, TwA.n6 ht, TwA.n7 ht, TwA.n8 ht, TwA.n9 ht, TwA.n10 ht, TwA.n11 ht, TwA.n12 ht, TwA.n13 ht, TwA.n14 ht, TwA.n15 ht, TwA.n16 ht, TwA.n17 ht, TwA.f2 ht, TwA.f3 ht, TwA.f5 ht, TwA.f6 ht, TwA.f8 ht, TwA.f9 ht, TwA.f11 ht, TwA.f12 ht, TwA.f13 ht, TwA.f14 ht, TwA.f15 ht, TwA.b0 ht, TwA.b1 ht, TwA.b2 ht, TwA.g0 ht, TwA.g1 ht, TwA.g2 ht, v2, hB, ov, fo, ix_s (show i < 1000000 by omega)]
      rw [if_neg (by omega), if_neg en, if_pos trivial]
    | true =>
      have oi := fsO_1 L i hf'
      have bL := hL i iB
      rw [hf', if_pos rfl] at fo
      obtain ⟨W1, V1, s1, s2⟩ := hsp o i W V z o0 iB oi pm zM
      have es : stL S G (fsO S) (ctC S L0 B n G h) rc k q L e r i z = (if ctC S L0 B n G h k o e z.1 = true then rc o (lsA L i) (e + G k o) (sup r k i) z else z) := by
        unfold stL
        rw [ho]
        by_cases x : ctC S L0 B n G h k o e z.1 = true
        · rw [if_pos ⟨by omega, hf', x⟩, if_pos x]
        · rw [if_neg (fun y => x y.2.2), if_neg x]
      rw [← es] at s1 s2
      have zM' : -1 ≤ (stL S G (fsO S) (ctC S L0 B n G h) rc k q L e r i z).1 := by
        rw [es]
        split
        · exact Int.le_trans zM (mono _ _ _ _ _)
        · exact zM
      obtain ⟨W', V', a1, a2⟩ := ih fl (i + 1) W1 V1 _ (by omega) (by omega) s2 zM'
      refine ⟨W', V', ?_, a2⟩
      rw [← a1]
      have w1 : w32 (L i - 1) = L i - 1 := w32_id ⟨by omega, by omega⟩
      have w3 : w32 (L i - 1 + 1) = L i := by
        rw [w32_id ⟨by omega, by omega⟩]
        omega
      have hs2 := PL_shp (lsA L i) W V z.1 hs
      have e1 : sup L i (L i - 1) = lsA L i := rfl
      have e2 : sup (lsA L i) i (L i) = L := by
        unfold lsA
        rw [sup_sup, sup_self]
      have e3 : lsA L i i = L i - 1 := sup_s
      have hs3 := PL_shp (lsA L i) W1 V1 (stL S G (fsO S) (ctC S L0 B n G h) rc k q L e r i z).1 hs
      rw [ho] at ov
      simp only [m_X2_search_L42, m_X2_search_L129, hgI_k, hgR_k, hpI_k, hpR_k, hpZ_k, haI_k, haR_k, hsI_k, hsZ_k, hlen_k, hlet_p, hret_p, hretZ_0, hretZ_1, hif_p, okk_setV, okk_setF, nV, nF, fV, vF, hcallV_b, hbind_p, haI_n, hsI_n, kk_40 h1, rf_40_0 h1, kk_41 h1, ln_41 h1, i9, PL_F, f5, TwA.k0 ht, TwA.k1 ht, TwA.k2 ht, TwA.k3 ht, TwA.k4 ht, TwA.k5 ht, TwA.k6 ht, TwA.k7 ht, TwA.k8 ht, TwA.k9 ht, TwA.k10 ht, TwA.k11 ht, TwA.k12 ht, TwA.k13 ht, TwA.k14 ht, TwA.k15 ht, TwA.k16 ht, TwA.k17 ht, TwA.n2 ht, TwA.n3 ht, TwA.n4 ht, TwA.n6 ht, TwA.n7 ht, TwA.n8 ht, TwA.n9 ht, TwA.n10 ht, TwA.n11 ht, TwA.n12 ht, TwA.n13 ht, TwA.n14 ht, TwA.n15 ht, TwA.n16 ht, TwA.n17 ht, TwA.f2 ht, TwA.f3 ht, TwA.f5 ht, TwA.f6 ht, TwA.f8 ht, TwA.f9 ht, TwA.f11 ht, TwA.f12 ht, TwA.f13 ht, TwA.f14 ht, TwA.f15 ht, TwA.b0 ht, TwA.b1 ht, TwA.b2 ht, TwA.g0 ht, TwA.g1 ht, TwA.g2 ht, v2, hB, PL_41, ov, fo, w1, PL_L, e1, kk_40 hs2, s1, kk_40 hs3, kk_41 hs3, ln_41 hs3, rf_40_0 hs, e3, w3, e2, ix_s (show i < 1000000 by omega)]
      rw [if_neg (by omega), if_neg (by omega), if_neg (by decide)]
theorem x_search {u : hS} {t n B : Nat} {S L0 : Nat → Int} {G : Nat → Int → Int} {h : Int} (c : plC u t n B S L0 G h) : ∀ (d fl k q : Nat) (L : Nat → Int) (e : Int) (r W V : Nat → Int) (z : lZ), d < fl → k + d = n → (q : Int) < S 0 → (∀ b, b < B → 0 ≤ L b ∧ L b ≤ 10) → 0 ≤ e ∧ e ≤ 800 * k → plM n k W V r z → -1 ≤ z.1 → (k = n → (q : Int) = h ∧ z.1 < e) → ∃ W' V', M_X2_search fl 40 k q e (PL u L W V z.1) = some (0, PL u L W' V' (liN S B G h (fsO S) (ctC S L0 B n G h) d k q L e r z).1) ∧ plM n k W' V' r (liN S B G h (fsO S) (ctC S L0 B n G h) d k q L e r z) := by
  obtain ⟨hs, rf, f5, v6, hn, hB, hg, hb⟩ := id c
  have v6' : ∀ L W V M, hV (PL u L W V M) 40 6 = (n : Int) := fun L W V M => by
    rw [PL_j (by decide), v6]
  intro d
  induction d with
  | zero =>
    intro fl k q L e r W V z hf hk hq hL he pm zM ad
    obtain ⟨fl, rfl⟩ : ∃ x, fl = x + 1 := ⟨fl - 1, by omega⟩
    have kn : k = n := by omega
    obtain ⟨a1, a2⟩ := ad kn
    have h1 := PL_shp L W V z.1 hs
    have h2 := PL_shp L W V e hs
    have n6a : n ≤ 6 := hn.2
    have li : liN S B G h (fsO S) (ctC S L0 B n G h) 0 k q L e r z = (e, r) := by
      show lfL h q e r z = (e, r)
      unfold lfL
      rw [if_pos ⟨a1, a2⟩]
    rw [li]
    refine ⟨W, fun j => if j < n then W j else V j, ?_, pm.1, fun j hj => ?_⟩
    · show m_X2_search (fun a b c e f => m_X2_spend (M_X2_search fl) a b c e f) 40 k q e (PL u L W V z.1) = _
      simp only [m_X2_search, hgI_k, hgR_k, hpI_k, hpR_k, hpZ_k, haI_k, haR_k, hsI_k, hsZ_k, hlen_k, hlet_p, hret_p, hretZ_0, hretZ_1, hif_p, okk_setV, okk_setF, nV, nF, fV, vF, kk_40 h1, v6', PL_M, kk_40 h2, rf_40_3 h2, rf_40_4 h2]
      rw [if_neg (by omega), hcpy_n (kk_44 h2) (kk_45 h2) (by rw [ln_44 h2]; exact n6a) (by rw [ln_45 h2]; exact n6a), PL_V, hret_p]
    · show (if j < n then W j else V j) = r j
      rw [if_pos hj]
      exact pm.1 j (by omega)
  | succ d ih =>
    intro fl k q L e r W V z hf hk hq hL he pm zM ad
    obtain ⟨fl, rfl⟩ : ∃ x, fl = x + 1 := ⟨fl - 1, by omega⟩
    have kn : k < n := by omega
    have h1 := PL_shp L W V z.1 hs
    have hsp : ∀ (q' : Nat) (L' : Nat → Int) (b : Int) (W V : Nat → Int) (z : lZ), (q' : Int) < S 0 → (∀ b, b < B → 0 ≤ L' b ∧ L' b ≤ 10) → plM n k W V r z → -1 ≤ z.1 → ∃ W' V', m_X2_spend (M_X2_search fl) 40 k q' b e (PL u L' W V z.1) = some (0, PL u L' W' V' (if ctC S L0 B n G h k q' e z.1 = true then liN S B G h (fsO S) (ctC S L0 B n G h) d (k + 1) q' L' (e + G k q') (sup r k b) z else z).1) ∧ plM n k W' V' r (if ctC S L0 B n G h k q' e z.1 = true then liN S B G h (fsO S) (ctC S L0 B n G h) d (k + 1) q' L' (e + G k q') (sup r k b) z else z) := fun q' L' b W V z hq' hL' pm zM => by
      have g := hg k q' kn hq'
      exact x_spend c kn hq' he (M_X2_search fl) (liN S B G h (fsO S) (ctC S L0 B n G h) d (k + 1)) (fun r W V z pm2 zM2 ad2 => ih fl (k + 1) q' L' (e + G k q') r W V z (by omega) (by omega) hq' hL' (by omega) pm2 zM2 ad2) pm zM
    obtain ⟨W1, V1, b1, b2⟩ := hsp q L (-1) W V z hq hL pm zM
    have st : (if ctC S L0 B n G h k q e z.1 = true then liN S B G h (fsO S) (ctC S L0 B n G h) d (k + 1) q L (e + G k q) (sup r k (-1)) z else z) = stay G (ctC S L0 B n G h) (liN S B G h (fsO S) (ctC S L0 B n G h) d (k + 1)) k q L e r z := rfl
    rw [st] at b1 b2
    have zM1 : -1 ≤ (stay G (ctC S L0 B n G h) (liN S B G h (fsO S) (ctC S L0 B n G h) d (k + 1)) k q L e r z).1 := by
      unfold stay
      split
      · exact Int.le_trans zM (liN_mono _ _ _ _ _ _ _)
      · exact zM
    obtain ⟨W', V', a1, a2⟩ := x_seaL c kn hq hL he (fun a b c e f => m_X2_spend (M_X2_search fl) a b c e f) (liN S B G h (fsO S) (ctC S L0 B n G h) d (k + 1)) r (fun q' i W V z hq' iB oi pm zM => hsp q' (lsA L i) i W V z hq' (fun b hb => by
      have y := hL b hb
      by_cases x : b = i
      · subst x
        rw [lsA_s]
        omega
      · rw [lsA_n x]
        exact y) pm zM) (fun q' L' e' r' z => liN_mono _ _ _ _ _ _ _) B 1000000000 0 W1 V1 _ (by have := rf.2.2.2.1.2.2.1; omega) (by omega) b2 zM1
    refine ⟨W', V', ?_, a2⟩
    rw [liN_s, ← a1]
    show m_X2_search (fun a b c e f => m_X2_spend (M_X2_search fl) a b c e f) 40 k q e (PL u L W V z.1) = _
    have h2 := PL_shp L W1 V1 (stay G (ctC S L0 B n G h) (liN S B G h (fsO S) (ctC S L0 B n G h) d (k + 1)) k q L e r z).1 hs
    simp only [m_X2_search, hgI_k, hgR_k, hpI_k, hpR_k, hpZ_k, haI_k, haR_k, hsI_k, hsZ_k, hlen_k, hlet_p, hret_p, hretZ_0, hretZ_1, hif_p, okk_setV, okk_setF, nV, nF, fV, vF, hcallV_b, hbind_p, kk_40 h1, v6', b1]
    rw [if_pos (by omega)]
    rfl
