/-! a person under a rule: the reference -/
theorem RSZ_put {u : hS} {X : Nat → Int} {n : Int} {a : Nat} (h : a ≠ 228) (h2 : a ≠ 220) (G : Nat → Int) : hput (RSZ u X n) a G = RSZ (hput u a G) X n := by
  unfold RSZ
  rw [hV_put_n (Ne.symm h2), put_comm (Ne.symm h2), put_comm (Ne.symm h)]
theorem put_cut (u : hS) (D D' Y Y' : Nat → Int) : hput (hput (hput (hput u 232 D) 229 Y) 232 D') 229 Y' = hput (hput u 232 D') 229 Y' := by
  rw [put_comm (show 229 ≠ 232 by decide) (hput u 232 D), hput_put, hput_put]
theorem y_obL {u : hS} (hs : shp u) (ex : ∀ c, c < 9 → hV u 231 c = 0) {w : hS} {t r M C p : Nat} {S cd op : Nat → Int} {a b e : Nat → Nat} (hS : hV u 230 = S) (ws : WS S) (wv : WV S) (rw0 : RepW0 w t (twn S)) (hr : r < 6) (rc : rlC cd op M C a b e) (ry : ryC u r cd op M C a b e) (hp : (p : Int) < S 4) : ∀ (k n i : Nat) (bs m : Int) (D Y X : Nat → Int) (tp : Int), k < n → S 2 = ((i + k : Nat) : Int) → ∃ D' Y' X' tp', m_X10_bridgeBy_L8 n 220 r p bs m i (RSZ (hput (hput u 232 D) 229 Y) X tp) = some ((obB (canB S p) (valB cd op C a b e (hV w (t + 17)) S p) k i bs m).1, RSZ (hput (hput u 232 D') 229 Y') X' tp') := by
  obtain ⟨hM, hC, oo, cl⟩ := rc
  obtain ⟨x1, x2, x3⟩ := ry
  have w0 := ws.1
  have w2 := ws.2.2.1
  have w4 := ws.2.2.2.2.1
  have p4 : p < 4 := by omega
  have zq := (wv.2.2.1 p hp).1
  obtain ⟨f, hf⟩ : ∃ f : Nat, S (10 + 3 * p) = f := ⟨(S (10 + 3 * p)).toNat, by omega⟩
  have gi := goal_in ws wv hp
  obtain ⟨g, hg⟩ : ∃ g : Nat, qGoal S p = g := ⟨(qGoal S p).toNat, by omega⟩
  have f8 : f < 8 := by omega
  have s230 : ∀ D Y X tp, hV (RSZ (hput (hput u 232 D) 229 Y) X tp) 230 = S := fun D Y X tp => by
    rw [RSZ_n (by decide) (by decide), hV_put_n (by decide), hV_put_n (by decide), hS]
  have s231 : ∀ D Y X tp, ∀ c, c < 9 → hV (RSZ (hput (hput u 232 D) 229 Y) X tp) 231 c = 0 := fun D Y X tp c hc => by
    rw [RSZ_n (by decide) (by decide), hV_put_n (by decide), hV_put_n (by decide)]
    exact ex c hc
  have sh : ∀ D Y X tp, shp (RSZ (hput (hput u 232 D) 229 Y) X tp) := fun _ _ _ _ => hs
  intro k
  induction k with
  | zero =>
    intro n i bs m D Y X tp hn hv
    obtain ⟨n, rfl⟩ : ∃ k, n = k + 1 := ⟨n - 1, by omega⟩
    refine ⟨D, Y, X, tp, ?_⟩
    have h1 := sh D Y X tp
    simp only [m_X10_bridgeBy_L8, hgI_k, hgR_k, hpI_k, hpR_k, hpZ_k, haI_k, haR_k, hsI_k, hsZ_k, hlen_k, hlet_p, hret_p, hretZ_0, hretZ_1, hif_p, okk_setV, okk_setF, nV, nF, fV, vF, haI_2, kk_220 h1, rf_220_20 h1, kk_230 h1, ln_230 h1, lt_c 2 160 rfl, s230]
    rw [if_pos (by omega)]
    rfl
  | succ k ih =>
    intro n i bs m D Y X tp hn hv
    obtain ⟨n, rfl⟩ : ∃ k, n = k + 1 := ⟨n - 1, by omega⟩
    have h1 := sh D Y X tp
    have hi2 : (i : Int) < S 2 := by omega
    have i9 : i < 9 := by omega
    have cc := y_canCross h1 (s231 D Y X tp) p4 i9
    rw [s230] at cc
    rw [obB_s]
    by_cases hc : qCan S p i
    case neg =>
      obtain ⟨D', Y', X', tp', q⟩ := ih n (i + 1) bs m D Y X tp (by omega) (by omega)
      refine ⟨D', Y', X', tp', ?_⟩
      rw [if_neg (fun z => hc (canB_iff.mp z.1)), ← q]
      simp only [m_X10_bridgeBy_L8, m_X10_bridgeBy_L64, hgI_k, hgR_k, hpI_k, hpR_k, hpZ_k, haI_k, haR_k, hsI_k, hsZ_k, hlen_k, hlet_p, hret_p, hretZ_0, hretZ_1, hif_p, okk_setV, okk_setF, nV, nF, fV, vF, hcallV_b, hbind_p, haI_2, kk_220 h1, rf_220_20 h1, kk_230 h1, ln_230 h1, lt_c 2 160 rfl, s230, cc.2 hc, ix_s (show i < 1000000 by omega)]
      rw [if_neg (by omega), if_neg (by decide)]
    have h0 := hc.1
    rw [hf] at h0
    obtain ⟨o, ho⟩ : ∃ o : Nat, qEnd S (94 + 2 * i) f = o := ⟨(qEnd S (94 + 2 * i) f).toNat, by omega⟩
    have zb := wv.1 i hi2
    have o0 : (o : Int) < S 0 := by
      rcases qEnd_cases ho (by omega) with ⟨e1, e2⟩ | ⟨e1, e2⟩ <;> omega
    obtain ⟨D1, Y1, y1, y2, y3⟩ := y_words h1 (by rw [s230]; exact ws) (by rw [s230]; exact wv) (s231 D Y X tp) (p := p) (b := i) (f := f) (o := o) (g := g) (by rw [s230]; exact hp) (by rw [s230]; exact hi2) (by rw [s230]; exact hf) (by rw [s230]; exact ho) (by rw [s230]; exact hg) f8 (by omega) (by rw [s230]; omega)
    rw [s230] at y2 y3
    rw [RSZ_put (by decide) (by decide), RSZ_put (by decide) (by decide), put_cut] at y1
    have nr : nrY D1 f o = nrT (hV w (t + 17)) f o g := (nr_eq ws wv rw0 hi2 (by omega) o0 (by omega) ho y2).symm
    rw [nr] at y3
    have hs2 : shp (hput (hput u 232 D1) 229 Y1) := hs
    obtain ⟨X1, tp1, z1⟩ := y_valL hs2 hr hM oo (sg := fun j hj => by rw [hV_put_n (by decide), hV_put_n (by decide)]; exact x1 j hj) (C := C) (a := a) (b := b) (e := e) (by rw [hV_put_n (by decide), hV_put_n (by decide)]; exact x2) hC (fun c hc => by
      rw [hV_put_n (by decide), hV_put_n (by decide)]
      exact ⟨cl c hc, x3 c hc⟩) C 1000000000 0 X tp (by omega) (by omega)
    rw [hV_put_s, vlS_W oo cl y3 C 0 (by omega)] at z1
    have vb : vlS cd op (wds S p i (nrT (hV w (t + 17)) f o g)) a b e C 0 = valB cd op C a b e (hV w (t + 17)) S p i := by
      unfold valB
      rw [hf, ho, hg, Int.toNat_natCast, Int.toNat_natCast, Int.toNat_natCast]
    rw [vb] at z1
    have z1' : m_X10_summedBy 220 r (RSZ (hput (hput u 232 D1) 229 Y1) X tp) = some (valB cd op C a b e (hV w (t + 17)) S p i, RSZ (hput (hput u 232 D1) 229 Y1) X1 tp1) := by
      simp only [m_X10_summedBy, hlet_p]
      exact z1
    have h2 := sh D1 Y1 X tp
    have lc := (lcmp_0 (valB cd op C a b e (hV w (t + 17)) S p i) m).2.2.2.1
    have cb : canB S p i = true := canB_iff.mpr hc
    by_cases vm : m < valB cd op C a b e (hV w (t + 17)) S p i
    · obtain ⟨D', Y', X', tp', q⟩ := ih n (i + 1) i (valB cd op C a b e (hV w (t + 17)) S p i) D1 Y1 X1 tp1 (by omega) (by omega)
      refine ⟨D', Y', X', tp', ?_⟩
      rw [if_pos ⟨cb, vm⟩, ← q]
      simp only [m_X10_bridgeBy_L8, m_X10_bridgeBy_L64, hgI_k, hgR_k, hpI_k, hpR_k, hpZ_k, haI_k, haR_k, hsI_k, hsZ_k, hlen_k, hlet_p, hret_p, hretZ_0, hretZ_1, hif_p, okk_setV, okk_setF, nV, nF, fV, vF, hcallV_b, hbind_p, haI_2, kk_220 h1, rf_220_20 h1, kk_230 h1, ln_230 h1, lt_c 2 160 rfl, s230, cc.1 hc, y1, kk_220 h2, z1', ix_s (show i < 1000000 by omega)]
      rw [if_neg (by omega), if_pos (by decide), if_pos (lc.mpr vm)]
    · obtain ⟨D', Y', X', tp', q⟩ := ih n (i + 1) bs m D1 Y1 X1 tp1 (by omega) (by omega)
      refine ⟨D', Y', X', tp', ?_⟩
      rw [if_neg (fun z => vm z.2), ← q]
      simp only [m_X10_bridgeBy_L8, m_X10_bridgeBy_L64, hgI_k, hgR_k, hpI_k, hpR_k, hpZ_k, haI_k, haR_k, hsI_k, hsZ_k, hlen_k, hlet_p, hret_p, hretZ_0, hretZ_1, hif_p, okk_setV, okk_setF, nV, nF, fV, vF, hcallV_b, hbind_p, haI_2, kk_220 h1, rf_220_20 h1, kk_230 h1, ln_230 h1, lt_c 2 160 rfl, s230, cc.1 hc, y1, kk_220 h2, z1', ix_s (show i < 1000000 by omega)]
      rw [if_neg (by omega), if_pos (by decide), if_neg (fun z => vm (lc.mp z))]
/-- what the reference's run leaves alone -/
def rfF (u v : hS) : Prop := ext u v ∧ shp v ∧ (∀ a, a ≠ 220 → a ≠ 228 → a ≠ 229 → a ≠ 230 → a ≠ 232 → agr u v a) ∧ ∀ j, j ≠ 18 → hV v 220 j = hV u 220 j
theorem rfF.tr {u v w : hS} (h : rfF u v) (k : rfF v w) : rfF u w := ⟨h.1.tr k.1, k.2.1, fun a h1 h2 h3 h4 h5 => (h.2.2.1 a h1 h2 h3 h4 h5).tr (k.2.2.1 a h1 h2 h3 h4 h5), fun j hj => (k.2.2.2 j hj).trans (h.2.2.2 j hj)⟩
theorem rfF.rf {u : hS} (hs : shp u) : rfF u u := ⟨ext.rf u, hs, fun _ _ _ _ _ _ _ => ⟨rfl, rfl⟩, fun _ _ => rfl⟩
theorem rfF.of {u : hS} (hs : shp u) (D Y X : Nat → Int) (n : Int) : rfF u (RSZ (hput (hput u 232 D) 229 Y) X n) := by
  refine ⟨(ext.put _ _ _).tr ((ext.put _ _ _).tr ((ext.put _ _ _).tr (ext.put _ _ _))), hs, fun a h1 h2 h3 h4 h5 i => ⟨?_, rfl⟩, fun j hj => ?_⟩
  · rw [RSZ_n h2 h1, hV_put_n h3, hV_put_n h5]
  · unfold RSZ
    rw [hV_put_s, sup_n hj, hV_put_n (by decide), hV_put_n (by decide)]
theorem rfF.row {u : hS} (hs : shp u) (R : Nat → Int) : rfF u (hput u 230 R) := ⟨ext.put _ _ _, hs, fun a h1 h2 h3 h4 h5 => agr.put h4, fun j _ => by rw [hV_put_n (by decide)]⟩
theorem ryC.fr {u v : hS} {r : Nat} {cd op : Nat → Int} {M C : Nat} {a b e : Nat → Nat} (h : ryC u r cd op M C a b e) (f : rfF u v) : ryC v r cd op M C a b e := by
  have g : ∀ a, a = 222 ∨ a = 224 ∨ a = 225 → hV v a = hV u a := fun a ha => funext fun i => (f.2.2.1 a (by omega) (by omega) (by omega) (by omega) (by omega) i).1
  unfold ryC
  rw [g 222 (by omega), g 224 (by omega), g 225 (by omega)]
  exact h
theorem y_obey {u : hS} (hs : shp u) (ex : ∀ c, c < 9 → hV u 231 c = 0) {w : hS} {t r M C p : Nat} {S cd op : Nat → Int} {a b e : Nat → Nat} (hS : hV u 230 = S) (ws : WS S) (wv : WV S) (rw0 : RepW0 w t (twn S)) (hr : r < 6) (rc : rlC cd op M C a b e) (ry : ryC u r cd op M C a b e) (hp : (p : Int) < S 4) (K1 : Nat → Int → Int → Int → Int → hM) (l2 l3 l4 : Int) (n : Nat) : ∃ v, m_X10_run_L63 K1 (n + 1) 220 r l2 l3 l4 p u = m_X10_run_L63 K1 n 220 r l2 l3 l4 ((p + 1 : Nat) : Int) v ∧ hV v 230 = obS cd op C a b e (hV w (t + 17)) S p ∧ rfF u v := by
  have w2 := ws.2.2.1
  have w4 := ws.2.2.2.2.1
  have p4 : p < 4 := by omega
  obtain ⟨D, Y, X, tp, q⟩ := y_obL hs ex hS ws wv rw0 hr rc ry hp (S 2).toNat 1000000000 0 (-1) 0 (hV u 232) (hV u 229) (hV u 228) (hV u 220 18) (by omega) (by omega)
  have self : hput (hput u 232 (hV u 232)) 229 (hV u 229) = u := by
    rw [hput_self, hput_self]
  rw [self, RSZ_self] at q
  have b0 : m_X10_bridgeBy 220 r p u = m_X10_bridgeBy_L8 1000000000 220 r p (-1) 0 ((0 : Nat) : Int) u := by
    simp only [m_X10_bridgeBy, hlet_p]
    rfl
  have bb := b0.trans q
  have f1 := rfF.of hs D Y X tp
  have hs1 := f1.2.1
  have s230 : hV (RSZ (hput (hput u 232 D) 229 Y) X tp) 230 = S := by
    rw [RSZ_n (by decide) (by decide), hV_put_n (by decide), hV_put_n (by decide), hS]
  have pS : (p : Int) < hV u 230 4 := by rw [hS]; exact hp
  unfold obS
  rcases obB_in (c := canB S p) (V := valB cd op C a b e (hV w (t + 17)) S p) (S 2).toNat 0 (-1) 0 (Or.inl rfl) with h | ⟨z, h1, h2, h3⟩
  · rw [h] at bb ⊢
    refine ⟨_, ?_, by rw [if_pos (by decide)]; exact s230, f1⟩
    simp only [m_X10_run_L63, m_X10_run_L96, hgI_k, hgR_k, hpI_k, hpR_k, hpZ_k, haI_k, haR_k, hsI_k, hsZ_k, hlen_k, hlet_p, hret_p, hretZ_0, hretZ_1, hif_p, okk_setV, okk_setF, nV, nF, fV, vF, hcallV_b, hbind_p, haI_4, kk_220 hs, kk_230 hs, rf_220_20 hs, ln_230 hs, lt_c 4 160 rfl, bb, ix_s (show p < 1000000 by omega)]
    rw [if_neg (by omega), if_pos (by decide)]
  · rw [h1] at bb ⊢
    have cr := y_crosses hs1 (p := p) (b := z) p4 (by omega)
    rw [s230] at cr
    refine ⟨_, ?_, by rw [if_neg (by omega), Int.toNat_natCast]; exact hV_put_s _ _ _, f1.tr (rfF.row hs1 _)⟩
    simp only [m_X10_run_L63, m_X10_run_L96, hgI_k, hgR_k, hpI_k, hpR_k, hpZ_k, haI_k, haR_k, hsI_k, hsZ_k, hlen_k, hlet_p, hret_p, hretZ_0, hretZ_1, hif_p, okk_setV, okk_setF, nV, nF, fV, vF, hcallV_b, hbind_p, haI_4, kk_220 hs, kk_230 hs, rf_220_20 hs, ln_230 hs, lt_c 4 160 rfl, bb, kk_220 hs1, cr, ix_s (show p < 1000000 by omega)]
    rw [if_neg (by omega), if_neg (by omega)]
