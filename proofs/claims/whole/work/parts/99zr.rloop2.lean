/-! tests: the loop over and, or -/
theorem bhd_M {r : Nat} {b : Bool} {Z cd op : Nat → Int} {M M0 : Nat} (h : bhd r b Z cd op M M0) : M0 + eB b = M := by
  cases b with
  | true => exact h.1.symm
  | false => exact h.1.symm
theorem len_eS (ei : Bool) (s : List Int) : (eS ei s).length = s.length + eB ei := by
  cases ei <;> simp [eS, eB]
theorem x_L92J {u : hS} {Q : Nat} (ru : RuA u Q) (q54 : 54 ≤ Q) (R : Nat → Nat → Int → hM) (ei : Int) (cd op : Nat → Int) {M : Nat} (hM4 : M ≤ 400) (k p s f : Int) : ∃ (cd' op' : Nat → Int) (M' : Nat), M' ≤ 400 ∧ m_X3_readTest_L92 R Q ei (tS (RM u Q cd op M k) p s f) = some (0, tS (RM u Q cd' op' (M' : Int) k) p s f) := by
  unfold m_X3_readTest_L92
  rw [hif_p]
  by_cases w : ei = 0
  · refine ⟨cd, op, M, hM4, ?_⟩
    rw [if_pos w]
    rfl
  · obtain ⟨cd', op', M', h1, h2⟩ := x_emitJ ru q54 cd op hM4 k p s f 124 0
    refine ⟨cd', op', M', h1, ?_⟩
    rw [if_neg w, hcallV_b (by rw [tS_k, RM_k]; exact ru.k0), h2, hbind_p]
    rfl
theorem x_L14F {n : Nat} {B : Nat → Int} {u : hS} (h : cTp n B u) {Q : Nat} (ru : RuA u Q) (q54 : 54 ≤ Q) (R : Nat → Nat → Int → hM) (ei d c : Int) (cd op : Nat → Int) {M : Nat} (hM4 : M ≤ 400) (k p s : Int) {f : Int} (hf : f ≠ 0) (F : Nat) : ∃ (cd' op' : Nat → Int) (M' : Nat), M' ≤ 400 ∧ m_X3_readTest_L14 R (F + 2) Q 2 d ei 1 c (tS (RM u Q cd op M k) p s f) = some (0, tS (RM u Q cd' op' (M' : Int) k) p s f) := by
  obtain ⟨cd', op', M', h1, h2⟩ := x_L92J ru q54 R ei cd op hM4 k p s f
  refine ⟨cd', op', M', h1, ?_⟩
  have hs := h.1
  have k2 : okk (tS (RM u Q cd op M k) p s f) 2 6 := by rw [tS_k, RM_k]; exact kk_2 hs
  have hsR : shp (RM u Q cd op M k) := by rw [RM_shp]; exact hs
  rw [m_X3_readTest_L14, hif_p, if_neg (by decide), hif_p]
  by_cases c4 : c ≥ 400
  · rw [if_pos c4, h2]
  · rw [if_neg c4, hcallV_b k2, x_takeWordF hsR p s hf 5, hbind_p, hif_p, if_pos rfl, hcallV_b k2, x_takeWordF hsR p s hf 6, hbind_p, hif_p, if_pos rfl, hlet_p]
    unfold m_X3_readTest_L86
    rw [hlet_p, m_X3_readTest_L14, hif_p, if_pos rfl, h2]
theorem loop_step {n : Nat} {B : Nat → Int} (hB : byB B n) {u : hS} (h : cTp n B u) {Q r : Nat} (ru : RuA u Q) (q54 : 54 ≤ Q) (r6 : r < 6) {N : Nat} (N4 : N ≤ 400) (ihF : ∀ N', N' < N → FactP n B u Q r N') (ihL : ∀ N', N' < N → LoopP n B u Q r N') : LoopP n B u Q r N := by
  intro d p M k a e c Fc ei cd op ts s d10 hN hp hMe hc hFc t
  have hs := h.1
  have n4 := h.2.2.2
  have s1' := sk_le B hp
  have ss := sk_sk B hp
  have h0 := RM_tp h q54 cd op M k
  obtain ⟨Fc, rfl⟩ : ∃ j, Fc = j + 1 := ⟨Fc - 1, by omega⟩
  have c4 : ¬ ((c : Int) ≥ 400) := by omega
  have c6 : c < 1000000 := by omega
  have t5 := t.2.2.2.2
  have e1 : eB ei ≤ 1 := by cases ei <;> decide
  have k2 : ∀ cd op (M k P s f : Int), okk (tS (RM u Q cd op M k) P s f) 2 6 := fun _ _ _ _ _ _ _ => by rw [tS_k, RM_k]; exact kk_2 hs
  have kQ : ∀ cd op (M k P s f : Int), okk (tS (RM u Q cd op M k) P s f) Q 3 := fun _ _ _ _ _ _ _ => by rw [tS_k, RM_k]; exact ru.k0
  have E5 := c_takeWord h0 s okC_5 hp
  have st0 : m_X3_readTest_L14 (M_X3_readFact (13 - d)) (Fc + 1) Q 2 (d : Int) (eI ei) 1 (c : Int) (tS (RM u Q cd op M k) (p : Int) s 0) = hbind (m_X6_takeWord 2 5 (tS (RM u Q cd op M k) (p : Int) s 0)) (fun v1 => hif (v1 = 0) (hcallV 6 2 (m_X6_takeWord 2 6) fun v2 => hif (v2 = 0) (hlet (0 : Int) fun (w3 : Int) => m_X3_readTest_L86 (M_X3_readFact (13 - d)) (m_X3_readTest_L14 (M_X3_readFact (13 - d)) Fc) Q 2 (d : Int) (eI ei) w3 (c : Int)) (hif (eI ei = 0) (m_X3_readTest_L72 (M_X3_readFact (13 - d)) (m_X3_readTest_L14 (M_X3_readFact (13 - d)) Fc) Q 2 (d : Int) 1 (c : Int)) (hcallV 3 Q (m_X3_emit Q 124 0) fun _ => m_X3_readTest_L72 (M_X3_readFact (13 - d)) (m_X3_readTest_L14 (M_X3_readFact (13 - d)) Fc) Q 2 (d : Int) 1 (c : Int)))) (hcallV 3 Q (M_X3_readFact (13 - d) Q 2 (d : Int)) fun _ => hcallV 3 Q (m_X3_emit Q 38 0) fun _ => m_X3_readTest_L86 (M_X3_readFact (13 - d)) (m_X3_readTest_L14 (M_X3_readFact (13 - d)) Fc) Q 2 (d : Int) (eI ei) 1 (c : Int))) := by
    rw [m_X3_readTest_L14, hif_p, if_neg (by decide), hif_p, if_neg c4, hcallV_b (k2 _ _ _ _ _ _ _)]
  -- the bound that the reference needs
  have bd : ∀ (st : List Int) (b : Bool) (Z : Nat → Int) (M0 : Nat), bhd r b Z cd op M M0 → st.length ≤ e → M0 + (aS b (eS ei st)).length ≤ 400 := fun st b Z M0 hb hl => by
    have := bhd_M hb
    rw [len_aS]
    omega
  by_cases W : isW B n (sk B n p) 6385252
  · -- and
    obtain ⟨lt, wp, ch1, ch2⟩ := isW_lt hB s1'.2 W
    have pw := (wl_b B s1'.2).1
    rw [if_pos W] at E5
    obtain ⟨f1, p2, k1, M1, s2, cd1, op1, V, vp, vM, vg, vr⟩ := ihF (N - 1) (by omega) d (sk B n p + wl B n (sk B n p)) M k a (e + eB ei + 1) cd op (if ei then true :: true :: ts else true :: ts) ((sk B n p : Nat) : Int) d10 (by omega) pw (by omega) t
    rw [E5, hbind_p, hif_p, if_neg (by decide), hcallV_b (kQ _ _ _ _ _ _ _), V, hbind_p, hcallV_b (kQ _ _ _ _ _ _ _)] at st0
    -- the reference's way to the next fact
    have rf : ∀ (v : hS) (Z O : Nat → Int) (m : Int) (st : List Int) (b : Bool) (M0 H F : Nat), rTp n B v → hV v 220 11 = (r : Int) → bhd r b Z cd op M M0 → stk O (aS b (eS ei st)) → st.length ≤ e → bsS st → dpc st = d → ∃ Z1, zF r Z Z1 ∧ zk r Z1 cd op M ∧ RA (H + 1) (F + 1) (rS (RX v r Z M0 O k d (aS b (eS ei st)).length) (p : Int) 0 m) = RF 1000000000 F (rS (RX v r Z1 M (sup O (eS ei st).length 12) k d (12 :: eS ei st).length) ((sk B n p + wl B n (sk B n p) : Nat) : Int) 0 m) := fun v Z O m st b M0 H F hv h11 hb so hl bs hd => by
      have bb := bd st b Z M0 hb hl
      obtain ⟨Z1, y1, y2, y3⟩ := ta_and hB hv h11 r6 (k := k) (m := m) hb so bs (by rw [len_eS]; omega) bb (show dpc st ≤ d by omega) (by omega) s1'.2 ss W (F + 1)
      refine ⟨Z1, y1, y2, ?_⟩
      rw [ra_c hv h11 r6 (cd := cd) (op := op) so bs bb (show dpc st ≤ d by omega) (by omega) hp H (F + 1), if_pos (.inl (by omega)), y3]
      exact t12 hv F _ _ _ _ _ _ _ _
    by_cases z : f1 = 0
    · obtain ⟨g1, g2, g3⟩ := vg z
      subst z
      have g2' := g2.2.1
      have M14 : M1 < 400 := by omega
      have t3 : tk (sup cd1 M1 38) (sup op1 M1 0) (M1 + 1) a (if ei then true :: true :: ts else true :: ts) k1 := by
        have l3 := g3.2.2.2.1
        cases ei with
        | true => exact tk_e g3 (ty_log (.inl rfl) _) (okO_n (by decide) (by decide) 0) (by simp only [if_true, List.length_cons] at l3 ⊢; omega) g3.2.2.2.2
        | false => exact tk_e g3 (ty_log (.inl rfl) _) (okO_n (by decide) (by decide) 0) (by simp only [Bool.false_eq_true, if_false, List.length_cons] at l3 ⊢; omega) g3.2.2.2.2
      obtain ⟨f, p', k', M', s', cd', op', E, i1, i2, i3, i4⟩ := ihL (N - 1) (by omega) d p2 (M1 + 1) k1 a e (c + 1) Fc ei (sup cd1 M1 38) (sup op1 M1 0) ts s2 d10 (by omega) vp (by omega) (by omega) (by omega) t3
      have mvA : mv p M cd op p2 (M1 + 1) (sup cd1 M1 38) (sup op1 M1 0) := ⟨by have := g2.1; omega, by omega, fun j hj => by
        have := g2.2.2 j hj
        have := g2.1
        rw [sup_n (by omega), sup_n (by omega)]
        assumption⟩
      rw [x_emit ru q54 cd1 op1 M14, hbind_p] at st0
      unfold m_X3_readTest_L86 at st0
      rw [hlet_p, ix_s c6] at st0
      refine ⟨f, p', k', M', s', cd', op', st0.trans E, i1, i2, fun y => ?_, fun v Z O m st b M0 H F hv h11 hb so hl bs hd hH hF => ?_⟩
      · obtain ⟨y1, y2, y3, y4⟩ := i3 y
        exact ⟨by omega, y2, mvA.tE y3, y4⟩
      · obtain ⟨H, rfl⟩ : ∃ j, H = j + 1 := ⟨H - 1, by omega⟩
        obtain ⟨F, rfl⟩ : ∃ j, F = j + 1 := ⟨F - 1, by omega⟩
        obtain ⟨Z1, y1, y2, y3⟩ := rf v Z O m st b M0 H F hv h11 hb so hl bs hd
        have so1 := stk_p (stk_aS so).1 12
        obtain ⟨_, q2⟩ := vr v Z1 (sup O (eS ei st).length 12) m (12 :: eS ei st) 1000000000 F hv h11 y2 so1 (by rw [List.length_cons, len_eS]; omega) (by
          show (if (12 : Int) = 11 ∨ (12 : Int) = 91 then 1 else 0) + dpc (eS ei st) = d
          rw [if_neg (by decide)]
          have := dpc_aS false ei st
          rw [show aS false (eS ei st) = eS ei st from rfl] at this
          omega) (by omega) (by omega)
        obtain ⟨Z2, O2, m2, H2, F2, x1, x2, x3, x4, x5, x6⟩ := q2 rfl
        have R := i4 v Z2 O2 m2 st true M1 H2 F2 hv h11 ⟨rfl, fun j hj => by rw [sup_n (by omega), sup_n (by omega)]; exact x3 j hj, sup_s⟩ x4 hl bs hd x5 x6
        have eq : RA (H + 1) (F + 1) (rS (RX v r Z M0 O k d (aS b (eS ei st)).length) (p : Int) 0 m) = RA H2 F2 (rS (RX v r Z2 M1 O2 k1 d (aS true (eS ei st)).length) (p2 : Int) 0 m2) := y3.trans x1
        rw [eq]
        have zz := y1.tr x2
        refine ⟨fun y => ?_, fun y => ?_⟩
        · obtain ⟨Z', O', m', p'', k'', M'', dp'', oc'', r1, r2⟩ := R.1 y
          exact ⟨Z', O', m', p'', k'', M'', dp'', oc'', r1, zz.tr r2⟩
        · obtain ⟨Z', O', m', r1, r2, r3, r4, r5⟩ := R.2 y
          refine ⟨Z', O', m', zz.tr r1, r2, r3, r4, fun st' hst => ⟨(r5 st' hst).1, fun hch => ?_⟩⟩
          obtain ⟨Z', O', m', p'', k'', M'', dp'', oc'', r6, r7⟩ := (r5 st' hst).2 hch
          exact ⟨Z', O', m', p'', k'', M'', dp'', oc'', r6, zz.tr r7⟩
    · obtain ⟨cd3, op3, M3, e2, e3⟩ := x_emitJ ru q54 cd1 op1 vM k1 (p2 : Int) s2 (f1 : Int) 38 0
      obtain ⟨Fc, rfl⟩ : ∃ j, Fc = j + 2 := ⟨Fc - 2, by omega⟩
      obtain ⟨cd4, op4, M4, e4, e6⟩ := x_L14F h ru q54 (M_X3_readFact (13 - d)) (eI ei) (d : Int) ((c + 1 : Nat) : Int) cd3 op3 e2 (k1 : Int) (p2 : Int) s2 (f := (f1 : Int)) (by omega) Fc
      rw [e3, hbind_p] at st0
      unfold m_X3_readTest_L86 at st0
      rw [hlet_p, ix_s c6, e6] at st0
      refine ⟨f1, p2, k1, M4, s2, cd4, op4, st0, vp, e4, fun y => absurd y z, fun v Z O m st b M0 H F hv h11 hb so hl bs hd hH hF => ⟨fun _ => ?_, fun y => absurd y z⟩⟩
      obtain ⟨H, rfl⟩ : ∃ j, H = j + 1 := ⟨H - 1, by omega⟩
      obtain ⟨F, rfl⟩ : ∃ j, F = j + 1 := ⟨F - 1, by omega⟩
      obtain ⟨Z1, y1, y2, y3⟩ := rf v Z O m st b M0 H F hv h11 hb so hl bs hd
      have so1 := stk_p (stk_aS so).1 12
      obtain ⟨q1, _⟩ := vr v Z1 (sup O (eS ei st).length 12) m (12 :: eS ei st) 1000000000 F hv h11 y2 so1 (by rw [List.length_cons, len_eS]; omega) (by
        show (if (12 : Int) = 11 ∨ (12 : Int) = 91 then 1 else 0) + dpc (eS ei st) = d
        rw [if_neg (by decide)]
        have := dpc_aS false ei st
        rw [show aS false (eS ei st) = eS ei st from rfl] at this
        omega) (by omega) (by omega)
      obtain ⟨Z', O', m', p'', k'', M'', dp'', oc'', r1, r2⟩ := q1 z
      exact ⟨Z', O', m', p'', k'', M'', dp'', oc'', y3.trans r1, y1.tr r2⟩
  · rw [if_neg W] at E5
    have E6 := c_takeWord h0 s okC_6 s1'.2
    rw [ss] at E6
    rw [E5, hbind_p, hif_p, if_pos rfl, hcallV_b (k2 _ _ _ _ _ _ _)] at st0
    -- what is owed
    have M14 : M + eB ei ≤ 400 := by omega
    have ct : tk (cE ei cd M) (oE ei op M) (M + eB ei) a (true :: ts) k := by
      have l3 := t.2.2.2.1
      cases ei with
      | true => exact tk_e t (ty_log (.inr rfl) _) (okO_n (by decide) (by decide) 0) (by simp only [if_true, List.length_cons] at l3 ⊢; omega) t5
      | false => exact t
    have cm : M ≤ M + eB ei ∧ ∀ j, j < M → cE ei cd M j = cd j ∧ oE ei op M j = op j := by
      cases ei with
      | true => exact ⟨by omega, fun j hj => ⟨sup_n (by omega), sup_n (by omega)⟩⟩
      | false => exact ⟨by omega, fun j hj => ⟨rfl, rfl⟩⟩
    by_cases V6 : isW B n (sk B n p) 28530
    · -- or
      obtain ⟨lt, wp, ch1, ch2⟩ := isW_lt hB s1'.2 V6
      have pw := (wl_b B s1'.2).1
      rw [if_pos V6] at E6
      obtain ⟨f1, p2, k1, M1, s2, cd1, op1, V, vp, vM, vg, vr⟩ := ihF (N - 1) (by omega) d (sk B n p + wl B n (sk B n p)) (M + eB ei) k a (e + 1) (cE ei cd M) (oE ei op M) (true :: ts) ((sk B n p : Nat) : Int) d10 (by omega) pw (by omega) ct
      have l72 : m_X3_readTest_L72 (M_X3_readFact (13 - d)) (m_X3_readTest_L14 (M_X3_readFact (13 - d)) Fc) Q 2 (d : Int) 1 (c : Int) (tS (RM u Q (cE ei cd M) (oE ei op M) ((M + eB ei : Nat) : Int) k) ((sk B n p + wl B n (sk B n p) : Nat) : Int) ((sk B n p : Nat) : Int) 0) = m_X3_readTest_L14 (M_X3_readFact (13 - d)) Fc Q 2 (d : Int) 1 1 ((c + 1 : Nat) : Int) (tS (RM u Q cd1 op1 M1 k1) (p2 : Int) s2 (f1 : Int)) := by
        unfold m_X3_readTest_L72 m_X3_readTest_L86
        rw [hlet_p, hcallV_b (kQ _ _ _ _ _ _ _), V, hbind_p, hlet_p, ix_s c6]
      have st1 : m_X3_readTest_L14 (M_X3_readFact (13 - d)) (Fc + 1) Q 2 (d : Int) (eI ei) 1 (c : Int) (tS (RM u Q cd op M k) (p : Int) s 0) = m_X3_readTest_L14 (M_X3_readFact (13 - d)) Fc Q 2 (d : Int) 1 1 ((c + 1 : Nat) : Int) (tS (RM u Q cd1 op1 M1 k1) (p2 : Int) s2 (f1 : Int)) := by
        rw [st0, E6, hbind_p, hif_p, if_neg (by decide), hif_p]
        cases ei with
        | true =>
          have M4 : M < 400 := by
            have : M + 1 ≤ 400 := M14
            omega
          rw [if_neg (by decide), hcallV_b (kQ _ _ _ _ _ _ _), x_emit ru q54 cd op M4, hbind_p]
          exact l72
        | false =>
          rw [if_pos (by decide)]
          exact l72
      have rf : ∀ (v : hS) (Z O : Nat → Int) (m : Int) (st : List Int) (b : Bool) (M0 H F : Nat), rTp n B v → hV v 220 11 = (r : Int) → bhd r b Z cd op M M0 → stk O (aS b (eS ei st)) → st.length ≤ e → bsS st → dpc st = d → ∃ Z1, zF r Z Z1 ∧ zk r Z1 (cE ei cd M) (oE ei op M) (M + eB ei) ∧ RA (H + 1) (F + 1) (rS (RX v r Z M0 O k d (aS b (eS ei st)).length) (p : Int) 0 m) = RF 1000000000 F (rS (RX v r Z1 ((M + eB ei : Nat) : Int) (sup O st.length 13) k d (13 :: st).length) ((sk B n p + wl B n (sk B n p) : Nat) : Int) 0 m) := fun v Z O m st b M0 H F hv h11 hb so hl bs hd => by
        have bb := bd st b Z M0 hb hl
        obtain ⟨Z1, y1, y2, y3⟩ := ta_or hB hv h11 r6 (k := k) (m := m) hb so bs M14 (by omega) bb (show dpc st ≤ d by omega) (by omega) s1'.2 ss W V6 (F + 1)
        refine ⟨Z1, y1, y2, ?_⟩
        rw [ra_c hv h11 r6 (cd := cd) (op := op) so bs bb (show dpc st ≤ d by omega) (by omega) hp H (F + 1), if_pos (.inl (by omega)), y3]
        exact t12 hv F _ _ _ _ _ _ _ _
      have dp13 : ∀ st, dpc st = d → dpc (13 :: st) = d := fun st hd => by
        show (if (13 : Int) = 11 ∨ (13 : Int) = 91 then 1 else 0) + dpc st = d
        rw [if_neg (by decide)]
        omega
      by_cases z : f1 = 0
      · obtain ⟨g1, g2, g3⟩ := vg z
        subst z
        have g2' := g2.2.1
        obtain ⟨f, p', k', M', s', cd', op', E, i1, i2, i3, i4⟩ := ihL (N - 1) (by omega) d p2 M1 k1 a e (c + 1) Fc true cd1 op1 ts s2 d10 (by omega) vp (by show M1 + e + 1 ≤ p2; omega) (by omega) (by omega) g3
        refine ⟨f, p', k', M', s', cd', op', st1.trans E, i1, i2, fun y => ?_, fun v Z O m st b M0 H F hv h11 hb so hl bs hd hH hF => ?_⟩
        · obtain ⟨y1, y2, y3, y4⟩ := i3 y
          obtain ⟨y5, y6, y7⟩ := y3
          have y6 : M' + p2 ≤ M1 + 1 + p' := y6
          have g4 := g2.1
          refine ⟨by omega, y2, ⟨by omega, by omega, fun j hj => ?_⟩, y4⟩
          have a1 := y7 j (by omega)
          have a2 := g2.2.2 j (by omega)
          have a3 := cm.2 j hj
          exact ⟨a1.1.trans (a2.1.trans a3.1), a1.2.trans (a2.2.trans a3.2)⟩
        · obtain ⟨H, rfl⟩ : ∃ j, H = j + 1 := ⟨H - 1, by omega⟩
          obtain ⟨F, rfl⟩ : ∃ j, F = j + 1 := ⟨F - 1, by omega⟩
          obtain ⟨Z1, y1, y2, y3⟩ := rf v Z O m st b M0 H F hv h11 hb so hl bs hd
          have so1 := stk_p (stk_aS so).2 13
          obtain ⟨_, q2⟩ := vr v Z1 (sup O st.length 13) m (13 :: st) 1000000000 F hv h11 y2 so1 (by rw [List.length_cons]; omega) (dp13 st hd) (by omega) (by omega)
          obtain ⟨Z2, O2, m2, H2, F2, x1, x2, x3, x4, x5, x6⟩ := q2 rfl
          have R := i4 v Z2 O2 m2 st false M1 H2 F2 hv h11 ⟨rfl, x3⟩ x4 hl bs hd x5 x6
          have eq : RA (H + 1) (F + 1) (rS (RX v r Z M0 O k d (aS b (eS ei st)).length) (p : Int) 0 m) = RA H2 F2 (rS (RX v r Z2 M1 O2 k1 d (aS false (eS true st)).length) (p2 : Int) 0 m2) := y3.trans x1
          rw [eq]
          have zz := y1.tr x2
          refine ⟨fun y => ?_, fun y => ?_⟩
          · obtain ⟨Z', O', m', p'', k'', M'', dp'', oc'', r1, r2⟩ := R.1 y
            exact ⟨Z', O', m', p'', k'', M'', dp'', oc'', r1, zz.tr r2⟩
          · obtain ⟨Z', O', m', r1, r2, r3, r4, r5⟩ := R.2 y
            refine ⟨Z', O', m', zz.tr r1, r2, r3, r4, fun st' hst => ⟨(r5 st' hst).1, fun hch => ?_⟩⟩
            obtain ⟨Z', O', m', p'', k'', M'', dp'', oc'', r6, r7⟩ := (r5 st' hst).2 hch
            exact ⟨Z', O', m', p'', k'', M'', dp'', oc'', r6, zz.tr r7⟩
      · obtain ⟨Fc, rfl⟩ : ∃ j, Fc = j + 2 := ⟨Fc - 2, by omega⟩
        obtain ⟨cd4, op4, M4, e4, e6⟩ := x_L14F h ru q54 (M_X3_readFact (13 - d)) 1 (d : Int) ((c + 1 : Nat) : Int) cd1 op1 vM (k1 : Int) (p2 : Int) s2 (f := (f1 : Int)) (by omega) Fc
        rw [e6] at st1
        refine ⟨f1, p2, k1, M4, s2, cd4, op4, st1, vp, e4, fun y => absurd y z, fun v Z O m st b M0 H F hv h11 hb so hl bs hd hH hF => ⟨fun _ => ?_, fun y => absurd y z⟩⟩
        obtain ⟨H, rfl⟩ : ∃ j, H = j + 1 := ⟨H - 1, by omega⟩
        obtain ⟨F, rfl⟩ : ∃ j, F = j + 1 := ⟨F - 1, by omega⟩
        obtain ⟨Z1, y1, y2, y3⟩ := rf v Z O m st b M0 H F hv h11 hb so hl bs hd
        have so1 := stk_p (stk_aS so).2 13
        obtain ⟨q1, _⟩ := vr v Z1 (sup O st.length 13) m (13 :: st) 1000000000 F hv h11 y2 so1 (by rw [List.length_cons]; omega) (dp13 st hd) (by omega) (by omega)
        obtain ⟨Z', O', m', p'', k'', M'', dp'', oc'', r1, r2⟩ := q1 z
        exact ⟨Z', O', m', p'', k'', M'', dp'', oc'', y3.trans r1, y1.tr r2⟩
    · -- neither
      rw [if_neg V6] at E6
      have st1 : m_X3_readTest_L14 (M_X3_readFact (13 - d)) (Fc + 1) Q 2 (d : Int) (eI ei) 1 (c : Int) (tS (RM u Q cd op M k) (p : Int) s 0) = some (0, tS (RM u Q (cE ei cd M) (oE ei op M) ((M + eB ei : Nat) : Int) k) ((sk B n p : Nat) : Int) s 0) := by
        obtain ⟨Fc, rfl⟩ : ∃ j, Fc = j + 1 := ⟨Fc - 1, by omega⟩
        rw [st0, E6, hbind_p, hif_p, if_pos rfl, hlet_p]
        unfold m_X3_readTest_L86
        rw [hlet_p, m_X3_readTest_L14, hif_p, if_pos rfl]
        unfold m_X3_readTest_L92
        rw [hif_p]
        cases ei with
        | true =>
          have M4 : M < 400 := by
            have : M + 1 ≤ 400 := M14
            omega
          rw [if_neg (by decide), hcallV_b (kQ _ _ _ _ _ _ _), x_emit ru q54 cd op M4, hbind_p]
          rfl
        | false =>
          rw [if_pos (by decide)]
          rfl
      refine ⟨0, sk B n p, k, M + eB ei, s, cE ei cd M, oE ei op M, st1, s1'.2, M14, fun _ => ⟨s1'.1, ss, ⟨cm.1, by omega, cm.2⟩, ct⟩, fun v Z O m st b M0 H F hv h11 hb so hl bs hd hH hF => ⟨fun y => absurd rfl y, fun _ => ?_⟩⟩
      obtain ⟨H, rfl⟩ : ∃ j, H = j + 1 := ⟨H - 1, by omega⟩
      obtain ⟨F, rfl⟩ : ∃ j, F = j + 1 := ⟨F - 1, by omega⟩
      have bb := bd st b Z M0 hb hl
      have T0 := t12_0 hv h11 r6 (k := k) (m := m) hb so bs M14 bb (show dpc st ≤ d by omega) (by omega) s1'.2 ss F
      have RC := ra_c hv h11 r6 (k := k) (m := m) (cd := cd) (op := op) (Z := Z) so bs bb (show dpc st ≤ d by omega) (by omega) hp H (F + 1)
      have TN := ta_no hv (r := r) (O := O) (Z := Z) (M0 := M0) (k := k) (d := d) (oc := (aS b (eS ei st)).length) (m := m) s1'.2 ss W V6 (F + 1)
      rcases bs with e0 | ⟨st', e0⟩
      · rw [if_pos (.inr (by rw [e0]; simp)), TN] at RC
        obtain ⟨Z1, y1, y2, y3⟩ := T0.1 e0
        exact ⟨Z1, O, m, y1, y2, (stk_aS so).2, fun _ => RC.trans y3, fun st' hst => by rw [e0] at hst; cases hst⟩
      · have i9 : 91 ∈ st := by
          rw [e0]
          exact List.mem_cons_self
        by_cases c9 : chr B n (sk B n p) = 93
        · have lt : sk B n p < n := chr_lt (B := B) (by omega)
          rw [if_neg (fun y => y.elim (fun z => z c9) (fun z => z i9))] at RC
          obtain ⟨Z1, y1, y2, y3⟩ := ra_cl hv h11 r6 (k := k) (m := m) hb so (.inr ⟨st', e0⟩) e0 M14 bb (show dpc st ≤ d by omega) (by omega) lt H (F + 1)
          refine ⟨Z1, O, m, y1, y2, (stk_aS so).2, fun y => (by rw [y] at e0; cases e0), fun st2 hst => ⟨fun _ => ⟨H, F + 1, ?_, by omega, by omega⟩, fun y => absurd c9 y⟩⟩
          have : st2 = st' := by
            rw [hst] at e0
            exact List.tail_eq_of_cons_eq e0
          rw [this]
          exact RC.trans y3
        · rw [if_pos (.inl c9), TN] at RC
          obtain ⟨Z1, y1, y2, y3⟩ := s1 (r := r) (.inr ⟨st', e0⟩) b ei M14 hb (d : Int)
          refine ⟨Z1, O, m, y2, y3, (stk_aS so).2, fun y => (by rw [y] at e0; cases e0), fun st2 hst => ⟨fun y => absurd y c9, fun _ => ?_⟩⟩
          exact ⟨Z, O, m, _, _, _, _, _, RC.trans (T0.2 st' e0), zF.rf r Z⟩
