/-! the call town, run through in the class -/
theorem tS_4' (u : hS) (p s f : Int) : hV (hsetV (tS u p s f) 2 1 0) 2 4 = f := by
  rw [hV_setV_i (by decide), tS_4]
theorem agrV {u v : hS} {a : Nat} (h : agr u v a) : hV v a = hV u a := funext fun i => (h i).1
/-- X is the memory of the reading, t the new town -/
def rdM (u X : hS) (t : Nat) : Prop := hB X = t + 18 ∧ shp X ∧ (∀ a, a < t → hK X a = hK u a ∧ hN X a = hN u a ∧ (∀ i, hF X a i = hF u a i)) ∧ (∀ a, a < t → a ≠ 2 → hV X a = hV u a) ∧ TwA X t
theorem rdM.w {u X : hS} {t : Nat} (h : rdM u X t) (x : Int) (i : Nat) : rdM u (hsetV X 2 i x) t := ⟨h.1, h.2.1, h.2.2.1, fun a h1 h2 => by rw [hV_ne h2]; exact h.2.2.2.1 a h1 h2, h.2.2.2.2⟩
theorem rdM.ag {u X : hS} {t : Nat} (h : rdM u X t) {a : Nat} (h1 : a < t) (h2 : a ≠ 2) : agr u X a := fun i => ⟨by rw [h.2.2.2.1 a h1 h2], (h.2.2.1 a h1).2.2 i⟩
theorem rdM.ex {u X : hS} {t : Nat} (h : rdM u X t) (hb : hB u = t) : ext u X := ⟨by have := h.1; omega, fun a ha => ⟨(h.2.2.1 a (by omega)).1, (h.2.2.1 a (by omega)).2.1⟩⟩
theorem rd_tS {u u' : hS} {t : Nat} (hs : shp u) (hb : hB u = t) (t3 : 243 ≤ t) (fr : frT t (nT u t) u') (p s f : Int) : rdM u (tS u' p s f) t := by
  have lo := nT_lo hb
  have hs0 := lo.shp t3 hs
  have hs1 := fr.shp hs0
  have ht1 := fr.tw (nT_tw hb (by omega))
  refine ⟨?_, by rw [tS_shp]; exact hs1, fun a ha => ⟨?_, ?_, fun i => ?_⟩, fun a h1 h2 => ?_, ?_⟩
  · rw [tS_B, fr.1.1, nT_B hb]
  · show hK u' a = _
    rw [fr.1.2.1]
    exact (lo.2 a ha).1
  · rw [tS_N, fr.1.2.2.1]
    exact (lo.2 a ha).2.1
  · rw [tS_F, fr.1.2.2.2]
    exact (lo.2 a ha).2.2.2 i
  · rw [tS_o h2, fr.2 a (.inl h1)]
    exact funext (lo.2 a h1).2.2.1
  · exact ht1
theorem x_town {u : hS} (hs : shp u) {n : Nat} (n4 : n ≤ 400) (hn : hV u 2 1 = (n : Int)) (g : Nat → Int) : ∃ (u1 : hS) (f : Nat) (S' : Nat → Int), m_X9_town 1 u = some (if f = 0 then S' 2 else w32 (-2 - (f : Int)), u1) ∧ okTc u u1 ∧ (f ≠ 0 → (∀ a, 30 ≤ a → a ≤ 34 → agr u u1 a) ∧ hV u1 1 6 = hV u 1 6 ∧ hV u1 1 7 = hV u 1 7) ∧ (f = 0 → RepF u1 30 (hB u) S' ∧ hV u1 1 6 = 0 ∧ hV u1 1 7 = 0) ∧ ∀ (v : hS) (m : Int) (G : Nat), rTp n (hV u 3) v → hV v 220 11 = 6 → 42 ≤ G → ∃ (y : Nat) (S'' : Nat → Int) (p'' m' : Int), hbind (m_X10_clauseHere 220 (rS (hput (hsetV v 220 14 0) 226 (zA g 10)) 0 0 m)) (fun w => m_X10_readsAll_L35 G 220 w) = m_X10_readsAll_L88 220 (rS (hput (hsetV v 220 14 (y : Int)) 226 S'') p'' (f : Int) m') ∧ (f = 0 → S'' = S') := by
  have t3 : 243 ≤ hB u := hs.1
  generalize hb : hB u = t at *
  have lo := nT_lo hb
  have hs0 := lo.shp t3 hs
  have ht0 := nT_tw hb (show 0 < t by omega)
  have h0 : cTp n (hV u 3) (nT u t) := ⟨hs0, ((lo.2 2 (by omega)).2.2.1 1).trans hn, funext (lo.2 3 (by omega)).2.2.1, n4⟩
  obtain ⟨u', p', s', f, S', E, fr, gd, rf⟩ := lines t3 40 0 rfl (nT u t) (zA g 10) 0 0 h0 ht0 (nT_rt hb g) ⟨fun _ => rfl, fun _ => rfl⟩ (by omega) 1000000000 (by omega)
  have E : m_X7_read_L8 1000000000 t 2 1 0 (tS (nT u t) 0 0 0) = m_X7_read_L35 t 2 (tS u' (p' : Int) (s' : Int) (f : Int)) := E
  have Bg : m_X6_begin 2 (nT u t) = some (0, tS (nT u t) 0 0 0) := by
    have := x_begin hs0 (hV (nT u t) 2 2) (hV (nT u t) 2 3) (hV (nT u t) 2 4)
    rwa [tS_self] at this
  have hs1 := fr.shp hs0
  have rd := rd_tS hs hb t3 fr (p' : Int) (s' : Int) (f : Int)
  have Rd : ∀ X, m_X7_read_L35 t 2 (tS u' (p' : Int) (s' : Int) (f : Int)) = some (0, X) → m_X7_read t 2 (nT u t) = some (0, X) := fun X e => by
    unfold m_X7_read
    rw [hcallV_b (kk_2 hs0), Bg, hbind_p, hlet_p, hlet_p, E, e]
  have Tn : ∀ X, m_X7_read t 2 (nT u t) = some (0, X) → shp X → m_X9_town 1 u = (hif (hV (hsetV X 2 1 0) 2 4 = 0) (hgR 9 1 3 fun v6 => hcallV 4 v6 (m_X4_startIn v6 t) fun _ => hcallV 9 1 (m_X9_forgetActs 1) fun _ => hgR 7 t 2 fun v7 => hgI 1 v7 3 fun v8 => hret v8) (hgR 9 1 0 fun v9 => hgI 6 v9 4 fun v10 => hret (w32 (-2 - v10)))) (hsetV X 2 1 0) := fun X e hX => by
    have hX' : shp (hsetV X 2 1 0) := hX
    unfold m_X9_town
    rw [show ∀ (f : Nat → hM), hnew 7 f u = f (hB u) (hmake u 7 0) from fun _ => rfl, hb, hassert_ok (by omega), hcall_b, x_newT hb (by omega), hbind_p, hgR_k (kk_1 hs0), rf_1_0 hs0, hcallV_b (TwA.k0 ht0), e, hbind_p, hgR_k (kk_1 hX), rf_1_0 hX, hpI_k (kk_2 hX), hgR_k (kk_1 hX'), rf_1_0 hX', hgI_k (kk_2 hX')]
  by_cases z : f = 0
  · obtain ⟨rt, s0⟩ := gd z
    subst z
    have rt0 : RT (tS u' (p' : Int) (s' : Int) ((0 : Nat) : Int)) t S' := rt.fr (fun a h1 h2 => tS_o (by omega))
    obtain ⟨⟨c0, c1, c2, c3, c4, c5, c7⟩, rr, hP, hB', hF', hZ, hW⟩ := id rt0
    have ws := cnS.ws rr
    have wv := rt0.wv
    obtain ⟨G, e1, e2⟩ := x_findSteps (u := tS u' (p' : Int) (s' : Int) ((0 : Nat) : Int)) (t := t) (S := S') ⟨rd.2.2.2.2, c0, c2, fun b hb' => ⟨(hB' b hb').1, by rw [show 94 + 2 * b + 1 = 95 + 2 * b by omega]; exact (hB' b hb').2.1⟩⟩ ws.1 ws.2.2.1 wv
    have e0 : m_X7_read_L35 t 2 (tS u' (p' : Int) (s' : Int) ((0 : Nat) : Int)) = some (0, hput (tS u' (p' : Int) (s' : Int) ((0 : Nat) : Int)) (t + 17) G) := by
      unfold m_X7_read_L35
      rw [hgI_k (by rw [tS_k]; exact kk_2 hs1), tS_4, hif_p, if_neg (fun y => y rfl), hcallV_b (TwA.k0 rd.2.2.2.2), e1, hbind_p]
      rfl
    have rd1 : rdM u (hput (tS u' (p' : Int) (s' : Int) ((0 : Nat) : Int)) (t + 17) G) t := ⟨rd.1, by rw [shp_put]; exact rd.2.1, rd.2.2.1, fun a h1 h2 => by rw [hV_put_n (by omega)]; exact rd.2.2.2.1 a h1 h2, rd.2.2.2.2⟩
    have rd2 := rd1.w 0 1
    generalize hX : hput (tS u' (p' : Int) (s' : Int) ((0 : Nat) : Int)) (t + 17) G = X at *
    have T := Tn X (Rd X e0) rd1.2.1
    have x4 : hV (hsetV X 2 1 0) 2 4 = 0 := by
      rw [← hX, hV_setV_i (by decide), hV_put_n (by omega), tS_4]
      rfl
    have xr : ∀ a, t ≤ a → a ≤ t + 16 → hV (hsetV X 2 1 0) a = hV u' a := fun a h1 h2 => by rw [hV_ne (by omega), ← hX, hV_put_n (by omega), tS_o (by omega)]
    have x17 : hV (hsetV X 2 1 0) (t + 17) = G := by rw [hV_ne (by omega), ← hX, hV_put_s]
    rw [hif_p, if_pos x4, hgR_k (kk_1 rd2.2.1), rf_1_3 rd2.2.1, hcallV_b (kk_30 rd2.2.1)] at T
    obtain ⟨v, S1, S2, S3, S4, S5⟩ := x_startIn rd2.2.1 rd2.2.2.2.2 t3
    have htv : TwA v t := rd2.2.2.2.2.fr S2 (fun a h1 h2 => S4 a (by omega))
    have hs3 : shp (hsetV (hsetV v 1 6 0) 1 7 0) := S3
    have ht3 : TwA (hsetV (hsetV v 1 6 0) 1 7 0) t := htv
    have fg : m_X9_forgetActs 1 v = some (0, hsetV (hsetV v 1 6 0) 1 7 0) := by
      unfold m_X9_forgetActs
      rw [hpI_k (kk_1 S3), hpI_k (show okk (hsetV v 1 6 0) 1 9 from kk_1 S3)]
      rfl
    have vr : ∀ a, t ≤ a → a ≤ t + 16 → hV (hsetV (hsetV v 1 6 0) 1 7 0) a = hV u' a := fun a h1 h2 => by rw [hV_ne (by omega), hV_ne (by omega), agrV (S4 a (by omega)), xr a h1 h2]
    have v17 : hV (hsetV (hsetV v 1 6 0) 1 7 0) (t + 17) = G := by rw [hV_ne (by omega), hV_ne (by omega), agrV (S4 (t + 17) (by omega)), x17]
    have rt3 : RT (hsetV (hsetV v 1 6 0) 1 7 0) t S' := rt.fr vr
    refine ⟨hsetV (hsetV v 1 6 0) 1 7 0, 0, S', ?_, ?_, fun y => absurd rfl y, fun _ => ⟨?_, ?_, ?_⟩, rf⟩
    · rw [T, S1, hbind_p, hcallV_b (kk_1 S3), fg, hbind_p, hgR_k (TwA.k0 ht3), TwA.f2 ht3, hgI_k (TwA.k1 ht3), rt3.1.2.2.1, hret_p, if_pos rfl]
    · refine ⟨(rd2.ex hb).tr S2, hs3, fun a h1 h2 h4 h5 => ?_, fun i h6 h7 => ?_, fun i => ?_, ?_⟩
      · intro i
        rw [hV_setV_a h2, hV_setV_a h2]
        have q := S4 a (by omega) i
        have q2 := rd2.ag (show a < t by omega) h4 i
        exact ⟨q.1.trans q2.1, q.2.trans q2.2⟩
      · rw [hV_setV_i h7, hV_setV_i h6, (S4 1 (by omega) i).1]
        exact (rd2.ag (show 1 < t by omega) (by decide) i).1
      · show hF v 1 i = _
        rw [(S4 1 (by omega) i).2]
        exact (rd2.ag (show 1 < t by omega) (by decide) i).2
      · rw [hV_setV_a (by decide), hV_setV_a (by decide), (S4 2 (by omega) 1).1, hV_setV_s]
    · refine rt_repF hs3 ht3 t3 rt3 ?_ (fun a ha => by rw [v17]; exact e2 a ha)
      obtain ⟨q0, q1, q2, q3, q4, q5⟩ := S5
      refine ⟨q0, ?_, fun i hi => ?_, fun i hi => ?_, fun i hi => ?_, fun i hi => ?_⟩
      · rw [hV_setV_a (by decide), hV_setV_a (by decide)]
        exact q1
      · rw [hV_setV_a (by decide), hV_setV_a (by decide), hV_setV_a (by omega), hV_setV_a (by omega)]
        exact q2 i hi
      · rw [hV_setV_a (by decide), hV_setV_a (by decide)]
        exact q3 i hi
      · rw [hV_setV_a (by decide), hV_setV_a (by decide), hV_setV_a (by omega), hV_setV_a (by omega)]
        exact q4 i hi
      · rw [hV_setV_a (by decide), hV_setV_a (by decide)]
        exact q5 i hi
    · rw [hV_setV_i (by decide), hV_setV_s]
    · rw [hV_setV_s]
  · have e0 : m_X7_read_L35 t 2 (tS u' (p' : Int) (s' : Int) (f : Int)) = some (0, tS u' (p' : Int) (s' : Int) (f : Int)) := by
      unfold m_X7_read_L35
      rw [hgI_k (by rw [tS_k]; exact kk_2 hs1), tS_4, hif_p, if_pos (by omega)]
      rfl
    have T := Tn _ (Rd _ e0) rd.2.1
    have rd2 := rd.w 0 1
    rw [hif_p, if_neg (by rw [tS_4']; omega), hgR_k (kk_1 rd2.2.1), rf_1_0 rd2.2.1, hgI_k (kk_2 rd2.2.1), tS_4', hret_p] at T
    refine ⟨hsetV (tS u' (p' : Int) (s' : Int) (f : Int)) 2 1 0, f, S', ?_, ⟨rd2.ex hb, rd2.2.1, fun a h1 h2 h4 h5 => rd2.ag (by omega) h4, fun i _ _ => (rd2.ag (show 1 < t by omega) (by decide) i).1, fun i => (rd2.ag (show 1 < t by omega) (by decide) i).2, hV_setV_s _ _ _ _⟩, fun _ => ⟨fun a h1 h2 => rd2.ag (by omega) (by omega), (rd2.ag (show 1 < t by omega) (by decide) 6).1, (rd2.ag (show 1 < t by omega) (by decide) 7).1⟩, fun y => absurd y z, rf⟩
    rw [T, if_neg z]
