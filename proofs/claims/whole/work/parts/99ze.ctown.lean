/-! the call town, in the class -/
theorem cnS.ws {S : Nat → Int} (h : rtR S) : WS S := by
  obtain ⟨⟨x0, b0, f0, a0, w0, r0⟩, s6, s1, _⟩ := h
  exact ⟨x0, ⟨s1.1, by omega⟩, b0, f0, a0, w0, ⟨by omega, by omega⟩, r0⟩
theorem RT.wv {u : hS} {t : Nat} {S : Nat → Int} (h : RT u t S) : WV S := by
  obtain ⟨_, ⟨cn, s6, s1, s01⟩, hP, hB, hF, hZ, hW⟩ := h
  refine ⟨fun b hb => ?_, fun b hb => ?_, fun p hp => ?_, fun p b hp hb => ?_, fun w hw => ?_⟩
  · have := hB b hb
    rw [show 94 + 2 * b + 1 = 95 + 2 * b by omega]
    exact this.2.2.2.2
  · have := hF b hb
    rw [show 112 + 2 * b + 1 = 113 + 2 * b by omega]
    exact this.2.2
  · have := ((hP p).1 hp).1
    rw [this.2.1, this.2.2.1]
    exact ⟨this.2.2.2, this.2.2.2, by omega, by omega⟩
  · have c2 := cn.2.1
    have := ((hP p).1 hp).2 b (by omega)
    rw [this.2.2.2]
    exact ⟨by omega, this.2.1, this.2.2.1⟩
  · have := hW w hw
    exact this.2.2.2.2
theorem dist_of {u : hS} (hs : shp u) {S : Nat → Int} (ws : WS S) (wv : WV S) {G : Nat → Int} (f : ∀ a' : Nat, (a' : Int) < S 0 → fsOk S G a') {q r : Nat} (hq : (q : Int) < S 0) (hr : (r : Int) < S 0) : isDist (twn S) q r (G (8 * q + r)) := by
  have w0 := ws.1
  have w2 := ws.2.2.1
  have t0 : twn S 0 = S 0 := if_pos (by omega)
  have ex : ∀ a : Nat, (a : Int) < S 0 → ∃ D, isRow S (fun _ => true) a D := fun a ha => by
    have e : hV (hput u 230 S) 230 = S := hV_put_s u 230 S
    have := y_fillsWays (u := hput u 230 S) (by rw [shp_put]; exact hs) (by rw [e]; exact ws) (by rw [e]; exact wv) (O := fun _ => true) (a := a) (by rw [e]; exact ha) (p := -1) (.inl ⟨by decide, fun _ => rfl⟩)
    obtain ⟨D, _, h⟩ := this
    rw [e] at h
    exact ⟨D, h⟩
  obtain ⟨D, hD⟩ := ex q hq
  obtain ⟨E, hE⟩ := ex r hr
  have e1 : G (8 * q + r) = D r := pre_row w0.1 wv hq hD (f q hq).1 (f q hq).2 r hr
  have e2 := row_sym wv hD hE hq hr
  rw [e1, e2]
  have b := hE.2.1 q hq
  have sm : ∀ (k : Nat) (x : Int), wkO S (fun _ => true) r k x → (0 ≤ x ∧ x < S 0) ∧ E x.toNat < 99 := by
    intro k
    induction k with
    | zero =>
      intro x hx
      have ex : x = (r : Int) := hx
      rw [ex, Int.toNat_natCast, hE.1]
      exact ⟨⟨by omega, hr⟩, by omega⟩
    | succ k ih =>
      intro x hx
      obtain ⟨b, m, hb, ho, hm, he, h0⟩ := hx
      have z := wv.1 b hb
      have i := ih m hm
      have l := row_lt w0.1 wv hr hE m.toNat (by omega) i.2
      have c := hE.2.2 b hb rfl
      rcases qEnd_cases he h0 with ⟨f1, f2⟩ | ⟨f1, f2⟩
      · rw [f1, f2] at c
        exact ⟨by omega, by omega⟩
      · rw [f1, f2] at c
        exact ⟨by omega, by omega⟩
  by_cases z : E q < 99
  · have l := row_lt w0.1 wv hr hE q hq z
    refine .inr ⟨(E q).toNat, by omega, by rw [t0]; omega, ?_, fun j hj y => ?_⟩
    · exact (wlk_twn w2.2 _ _ _).mpr ((wlk_wkO wv _ _ (by omega)).mpr (b.2 z))
    · have y2 := (wlk_wkO wv _ _ (by omega)).mp ((wlk_twn w2.2 _ _ _).mp y)
      have := row_le hE _ _ y2
      rw [Int.toNat_natCast] at this
      omega
  · refine .inl ⟨by omega, fun k y => ?_⟩
    have y2 := (wlk_wkO wv _ _ (by omega)).mp ((wlk_twn w2.2 _ _ _).mp y)
    have := (sm k _ y2).2
    rw [Int.toNat_natCast] at this
    exact z this
/-- the standing of a town's morning -/
def stM (u : hS) (t : Nat) : Prop := hF u 30 0 = t ∧ hV u 30 1 = 0 ∧ (∀ i, i < 4 → hV u 31 i = hV u (t + 11) i) ∧ (∀ i, i < 4 → hV u 32 i = 0) ∧ (∀ i, i < 36 → hV u 33 i = hV u (t + 12) i) ∧ ∀ i, i < 36 → hV u 34 i = 0
theorem rt_repF {u : hS} (hs : shp u) {t : Nat} (ht : TwA u t) (t3 : 243 ≤ t) {S : Nat → Int} (rt : RT u t S) (sm : stM u t) (f : ∀ a' : Nat, (a' : Int) < S 0 → fsOk S (hV u (t + 17)) a') : RepF u 30 t S := by
  have wv := rt.wv
  have ws := cnS.ws rt.2.1
  have ha := stp_30.1 u hs
  obtain ⟨⟨c0, c1, c2, c3, c4, c5, c7⟩, ⟨cn, s6, s1, s01⟩, hP, hB, hF, hZ, hW⟩ := id rt
  obtain ⟨m0, m1, m2, m3, m4, m5⟩ := sm
  have w2 := ws.2.2.1
  have w4 := ws.2.2.2.2.1
  have t0 : twn S 0 = S 0 := if_pos (by omega)
  have t2 : twn S 2 = S 2 := if_pos (by omega)
  refine ⟨⟨ha, ht, m0, c0, c1, c2, c3, c4, c5, m1.trans s6.symm, c7, ?_, ?_, ?_, ?_, ?_, ?_, ?_, ?_, ?_, ?_, ?_, ?_, ?_, ?_, ?_⟩, .inr t3, ⟨?_, ?_, ?_, ?_⟩, ws, wv⟩
  · intro p hp
    have := ((hP p).1 hp).1
    exact (m2 p (by omega)).trans (this.1.trans this.2.1.symm)
  · intro p hp
    exact ((hP p).1 hp).1.1
  · intro p hp
    exact (m3 p (by omega)).trans ((hP p).1 hp).1.2.2.1.symm
  · intro p b hp hb
    exact (m4 (9 * p + b) (by omega)).trans (((hP p).1 hp).2 b (by omega)).1
  · intro p b hp hb
    exact (m5 (9 * p + b) (by omega)).trans (((hP p).1 hp).2 b (by omega)).2.2.2.symm
  · intro b hb
    exact (hB b hb).1
  · intro b hb
    rw [show 94 + 2 * b + 1 = 95 + 2 * b by omega]
    exact (hB b hb).2.1
  · intro b hb
    exact (hF b hb).1
  · intro b hb
    rw [show 112 + 2 * b + 1 = 113 + 2 * b by omega]
    exact (hF b hb).2.1
  · intro b hb
    exact (hZ b hb).1
  · intro b hb
    exact (hZ b hb).2
  · intro b hb
    exact (hW b hb).1
  · intro b hb
    exact (hW b hb).2.1
  · intro b hb
    exact (hW b hb).2.2.1
  · intro b hb
    exact (hW b hb).2.2.2.1
  · intro b hb
    rw [t2] at hb
    rw [qTwin_cg (S' := twn S) (S := S) (fun i h1 h2 => if_pos (by omega))]
    exact (hB b hb).2.2.1
  · intro q r hq hr
    rw [t0] at hq hr
    exact dist_of hs ws wv f hq hr
  · intro h
    rw [t2] at h
    have := (hB 0 (by omega)).2.2.2.2.1
    rw [c1]
    exact s01 (by omega)
  · intro b hb
    rw [t2] at hb
    rw [show twn S (94 + 2 * b) = S (94 + 2 * b) from if_pos (by omega), show twn S (95 + 2 * b) = S (95 + 2 * b) from if_pos (by omega)]
    exact (hB b hb).2.2.2.1
theorem x_startIn {u : hS} (hs : shp u) {t : Nat} (ht : TwA u t) (t3 : 243 ≤ t) : ∃ v, m_X4_startIn 30 t u = some (0, v) ∧ ext u v ∧ shp v ∧ (∀ a, a < 30 ∨ 34 < a → agr u v a) ∧ stM v t := by
  have hv : shp (hsetF u 30 0 t) := shp_setF hs stp_30.2.1
  have k0 := stp_30.1 u hs
  have a1 := stp_30.1 _ hv
  have ht1 : TwA (hsetF u 30 0 t) t := by
    refine ht.fr ⟨Nat.le_refl _, fun _ _ => ⟨rfl, rfl⟩⟩ (fun a h1 h2 i => ⟨rfl, ?_⟩)
    rw [sF_F, if_neg (by omega)]
  refine ⟨_, by
    simp only [m_X4_startIn, hpR_k (StA.k0 k0), hpI_k (StA.k0 a1)]
    simp only [hgI_k, hgR_k, hpI_k, hpR_k, hpZ_k, haI_k, haR_k, hsI_k, hsZ_k, hlen_k, hlet_p, hret_p, hretZ_0, hretZ_1, hif_p, okk_setV, okk_setF, nV, nF, fV, vF, okk_put, nP, fP, hcall_b, hbind_p, okk_copy, hF_copy, hN_copy, hcpy_n, StA.k0 a1, StA.k1 a1, StA.k2 a1, StA.k3 a1, StA.k4 a1, StA.n1 a1, StA.n2 a1, StA.n3 a1, StA.n4 a1, StA.f2 a1, StA.f3 a1, StA.f4 a1, StA.f5 a1, TwA.k0 ht1, TwA.k1 ht1, TwA.k2 ht1, TwA.k3 ht1, TwA.k4 ht1, TwA.k5 ht1, TwA.k6 ht1, TwA.k7 ht1, TwA.k8 ht1, TwA.k9 ht1, TwA.k10 ht1, TwA.k11 ht1, TwA.k12 ht1, TwA.k13 ht1, TwA.k14 ht1, TwA.k15 ht1, TwA.k16 ht1, TwA.k17 ht1, TwA.n2 ht1, TwA.n3 ht1, TwA.n4 ht1, TwA.n6 ht1, TwA.n7 ht1, TwA.n8 ht1, TwA.n9 ht1, TwA.n10 ht1, TwA.n11 ht1, TwA.n12 ht1, TwA.n13 ht1, TwA.n14 ht1, TwA.n15 ht1, TwA.n16 ht1, TwA.n17 ht1, TwA.f2 ht1, TwA.f3 ht1, TwA.f5 ht1, TwA.f6 ht1, TwA.f8 ht1, TwA.f9 ht1, TwA.f11 ht1, TwA.f12 ht1, TwA.f13 ht1, TwA.f14 ht1, TwA.f15 ht1, TwA.b0 ht1, TwA.b1 ht1, TwA.b2 ht1, TwA.g0 ht1, TwA.g1 ht1, TwA.g2 ht1, Nat.le_refl, x_fill (N := 4), x_fill (N := 36), show (4 : Nat) < 1000 by decide, show (36 : Nat) < 1000 by decide]
    rfl, ?_⟩
  refine ⟨⟨Nat.le_refl _, fun _ _ => ⟨rfl, rfl⟩⟩, hv, fun a ha i => ⟨?_, ?_⟩, ?_, ?_, fun i hi => ?_, fun i hi => ?_, fun i hi => ?_, fun i hi => ?_⟩
  · rw [hV_put_n (by omega), hV_put_n (by omega), hV_copy, if_neg (by omega), hV_copy, if_neg (by omega), hV_setV_a (by omega)]
    rfl
  · show (if a = 30 ∧ i = 0 then t else hF u a i) = hF u a i
    rw [if_neg (by omega)]
  · show (if 30 = 30 ∧ 0 = 0 then t else hF u 30 0) = t
    rw [if_pos ⟨rfl, rfl⟩]
  · rw [hV_put_n (by decide), hV_put_n (by decide), hV_copy, if_neg (by omega), hV_copy, if_neg (by omega), hV_setV_s]
  · rw [hV_put_n (by decide), hV_put_n (by decide), hV_copy, if_neg (by omega), hV_copy, if_pos (by omega), hV_setV_a (by omega), Nat.sub_zero, Nat.zero_add, hV_put_n (by omega), hV_put_n (by omega), hV_copy, if_neg (by omega), hV_copy, if_neg (by omega), hV_setV_a (by omega)]
  · rw [hV_put_n (by decide), hV_put_s, if_pos hi]
  · rw [hV_put_n (by decide), hV_put_n (by decide), hV_copy, if_pos (by omega), hV_copy, if_neg (by omega), hV_setV_a (by omega), Nat.sub_zero, Nat.zero_add, hV_put_n (by omega), hV_put_n (by omega), hV_copy, if_neg (by omega), hV_copy, if_neg (by omega), hV_setV_a (by omega)]
  · rw [hV_put_s, if_pos hi]
/-- what town leaves in the class -/
def okTc (u v : hS) : Prop := ext u v ∧ shp v ∧ (∀ a, a < hB u → a ≠ 1 → a ≠ 2 → ¬ (30 ≤ a ∧ a ≤ 34) → agr u v a) ∧ (∀ i, i ≠ 6 → i ≠ 7 → hV v 1 i = hV u 1 i) ∧ (∀ i, hF v 1 i = hF u 1 i) ∧ hV v 2 1 = 0
theorem frT.ag {t : Nat} {u v : hS} (h : frT t u v) {a : Nat} (ha : a < t) : agr u v a := fun i => ⟨by rw [h.2 a (.inl ha)], by rw [h.1.2.2.2]⟩
theorem RT.fr {u v : hS} {t : Nat} {S : Nat → Int} (h : RT u t S) (g : ∀ a, t ≤ a → a ≤ t + 16 → hV v a = hV u a) : RT v t S := by
  unfold RT rtC at h ⊢
  rw [g t (by omega) (by omega), g (t + 1) (by omega) (by omega), g (t + 2) (by omega) (by omega), g (t + 3) (by omega) (by omega), g (t + 4) (by omega) (by omega), g (t + 5) (by omega) (by omega), g (t + 6) (by omega) (by omega), g (t + 7) (by omega) (by omega), g (t + 9) (by omega) (by omega), g (t + 10) (by omega) (by omega), g (t + 11) (by omega) (by omega), g (t + 12) (by omega) (by omega), g (t + 13) (by omega) (by omega), g (t + 14) (by omega) (by omega), g (t + 15) (by omega) (by omega), g (t + 16) (by omega) (by omega)]
  exact h
def zA (g : Nat → Int) (j : Nat) : Nat → Int := fun i => if i < j then 0 else g i
theorem nT_rt {u : hS} {t : Nat} (hb : hB u = t) (g : Nat → Int) : RT (nT u t) t (zA g 10) := by
  have z : ∀ a i, t ≤ a → a ≤ t + 17 → hV (nT u t) a i = 0 := fun a i h1 h2 => nT_zr hb a i h1 (by rw [nT_B hb]; omega)
  have e : ∀ i, i < 10 → zA g 10 i = 0 := fun i hi => if_pos hi
  refine ⟨?_, ?_, fun p => ?_, fun b hb' => ?_, fun b hb' => ?_, fun b hb' => ?_, fun b hb' => ?_⟩
  · unfold rtC
    rw [z t 0 (by omega) (by omega), z t 1 (by omega) (by omega), z (t + 1) 3 (by omega) (by omega), z (t + 5) 3 (by omega) (by omega), z t 7 (by omega) (by omega), z t 10 (by omega) (by omega), z t 4 (by omega) (by omega)]
    exact ⟨rfl, rfl, rfl, rfl, rfl, rfl, rfl⟩
  · unfold rtR cnS
    rw [e 0 (by decide), e 1 (by decide), e 2 (by decide), e 3 (by decide), e 4 (by decide), e 5 (by decide), e 6 (by decide), e 7 (by decide)]
    decide
  · rw [e 4 (by decide)]
    exact ⟨fun h => by omega, fun _ b _ => z _ _ (by omega) (by omega)⟩
  · rw [e 2 (by decide)] at hb'
    omega
  · rw [e 3 (by decide)] at hb'
    omega
  · rw [e 7 (by decide)] at hb'
    omega
  · rw [e 5 (by decide)] at hb'
    omega
theorem refL_lt : ∀ q ∈ refL, q.1 < 243 := by
  have h : refL.all (fun q => Nat.blt q.1 243) = true := by decide +kernel
  intro q hq
  have := List.all_eq_true.mp h q hq
  rw [Nat.blt_eq] at this
  exact this
theorem loT.shp {t : Nat} {u v : hS} (h : loT t u v) (t3 : 243 ≤ t) (hs : shp u) : shp v := by
  refine ⟨by have := h.1; omega, fun a ha => ?_, fun q hq => ?_⟩
  · rw [(h.2 a (by omega)).1, (h.2 a (by omega)).2.1]
    exact hs.2.1 a ha
  · have : ∀ q ∈ refL, q.1 < 243 := refL_lt
    rw [(h.2 q.1 (by have := this q hq; omega)).2.2.2]
    exact hs.2.2 q hq
theorem loT.ext {t : Nat} {u v : hS} (h : loT t u v) (hb : hB u = t) : ext u v := ⟨by have := h.1; omega, fun a ha => ⟨(h.2 a (by omega)).1, (h.2 a (by omega)).2.1⟩⟩
theorem loT.ag {t : Nat} {u v : hS} (h : loT t u v) {a : Nat} (ha : a < t) : agr u v a := fun i => ⟨(h.2 a ha).2.2.1 i, (h.2 a ha).2.2.2 i⟩
