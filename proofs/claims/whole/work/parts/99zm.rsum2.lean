/-! a sum of a rule: the loop -/
def SLP (n : Nat) (B : Nat → Int) (u : hS) (Q r N : Nat) : Prop := ∀ (p M k a c F : Nat) (cd op : Nat → Int) (ts : List Bool) (wt s : Int), n - p ≤ N → p ≤ n → M + eW wt ≤ p → c < p → N + 3 ≤ F → (wt = -1 ∨ wt = 43 ∨ wt = 45) → tk cd op M a (if wt = -1 then false :: ts else false :: false :: ts) k → ∃ (f p' k' M' : Nat) (s' : Int) (cd' op' : Nat → Int), m_X3_readSum_L12 F Q 2 wt 1 (c : Int) (tS (RM u Q cd op M k) (p : Int) s 0) = some (0, tS (RM u Q cd' op' M' k') (p' : Int) s' (f : Int)) ∧ p' ≤ n ∧ M' ≤ 400 ∧ (f = 0 → p ≤ p' ∧ sk B n p' = p' ∧ mvE (eW wt) p M cd op p' M' cd' op' ∧ tk cd' op' M' a (false :: ts) k') ∧ ∀ (v : hS) (Z O : Nat → Int) (dp oc m : Int) (F' G' : Nat), rTp n B v → hV v 220 11 = (r : Int) → zk r Z cd op M → N + 2 ≤ F' → N + 2 ≤ G' → refO v r Z O dp oc (pS F' G' wt) (rS (RX v r Z M O k dp oc) (p : Int) 0 m) f p' k' M' cd' op'
theorem sgT_n {c : Int} (h : c = 42 ∨ c = 47 ∨ c = 37) : isNum c ∧ c ≠ 0 ∧ c ≠ 1 ∧ ∀ o, w32 (sgT c + w32 (16 * 0)) = sgn c o := by
  rcases h with rfl | rfl | rfl <;> exact ⟨by decide, by decide, by decide, fun _ => by rfl⟩
theorem sgR_n {c : Int} (h : c = 43 ∨ c = 45) : isNum c ∧ c ≠ 0 ∧ c ≠ 1 ∧ ∀ o, w32 (sgR c + w32 (16 * 0)) = sgn c o := by
  rcases h with rfl | rfl <;> exact ⟨by decide, by decide, by decide, fun _ => by rfl⟩
theorem refO.m {v : hS} {r : Nat} {Z Z1 O : Nat → Int} {dp oc : Int} {g g1 : hM} {st st1 : hS} {f p' k' M' : Nat} {cd' op' : Nat → Int} (x : refO v r Z1 O dp oc g1 st1 f p' k' M' cd' op') (e : g st = g1 st1) (z : zF r Z Z1) : refO v r Z O dp oc g st f p' k' M' cd' op' := by
  obtain ⟨Z', m', p'', k'', M'', x1, x2, x3⟩ := x
  exact ⟨Z', m', p'', k'', M'', e.trans x1, z.tr x2, x3⟩
theorem sl_step {n : Nat} {B : Nat → Int} (hB : byB B n) {u : hS} (h : cTp n B u) {Q r : Nat} (ru : RuA u Q) (q54 : 54 ≤ Q) (r6 : r < 6) {N : Nat} (N4 : N ≤ 400) (ih : ∀ N', N' < N → SLP n B u Q r N') : SLP n B u Q r N := by
  intro p M k a c F cd op ts wt s hN hp hMp hc hF hw t
  have hs := h.1
  have n4 := h.2.2.2
  have s1 := sk_le B hp
  have ss := sk_sk B hp
  have t5 := t.2.2.2.2
  have e1 : eW wt ≤ 1 := by
    unfold eW
    by_cases z : wt = -1
    · rw [if_pos z]
      omega
    · rw [if_neg z]
      omega
  have k2 : ∀ cd op (M k P s f : Int), okk (tS (RM u Q cd op M k) P s f) 2 6 := fun _ _ _ _ _ _ _ => by rw [tS_k, RM_k]; exact kk_2 hs
  have kQ : ∀ cd op (M k P s f : Int), okk (tS (RM u Q cd op M k) P s f) Q 3 := fun _ _ _ _ _ _ _ => by rw [tS_k, RM_k]; exact ru.k0
  have z0 : ¬ ((0 : Int) ≠ 0) := fun z => z rfl
  have n10 : ¬ ((1 : Int) = 0) := by decide
  obtain ⟨F, rfl⟩ : ∃ j, F = j + 1 := ⟨F - 1, by omega⟩
  have c4 : ¬ ((c : Int) ≥ 400) := by omega
  have c6 : c < 1000000 := by omega
  have q6 : sk B n p < 1000000 := by omega
  have st0 : m_X3_readSum_L12 (F + 1) Q 2 wt 1 (c : Int) (tS (RM u Q cd op M k) (p : Int) s 0) = (if chr B n (sk B n p) = 42 ∨ chr B n (sk B n p) = 47 ∨ chr B n (sk B n p) = 37 then m_X3_readSum_L58 (m_X3_readSum_L12 F) Q 2 wt 1 (c : Int) (chr B n (sk B n p)) else m_X3_readSum_L83 (m_X3_readSum_L12 F) Q 2 wt 1 (c : Int) (chr B n (sk B n p))) (tS (RM u Q cd op M k) ((sk B n p : Nat) : Int) s 0) := by
    rw [m_X3_readSum_L12, hif_p, if_neg n10, hif_p, if_neg c4, hcallV_b (k2 _ _ _ _ _ _ _), c_next (RM_tp h q54 cd op M k) s 0 hp, hbind_p, hlet_p, hgI_k (k2 _ _ _ _ _ _ _), tS_4, hif_p, if_neg z0, hif_p]
    by_cases x1 : chr B n (sk B n p) = 42
    · rw [if_pos x1, if_pos (.inl x1)]
    · rw [if_neg x1, hif_p]
      by_cases x2 : chr B n (sk B n p) = 47
      · rw [if_pos x2, if_pos (.inr (.inl x2))]
      · rw [if_neg x2, hif_p]
        by_cases x3 : chr B n (sk B n p) = 37
        · rw [if_neg (fun z => z x3), if_pos (.inr (.inr x3))]
        · rw [if_pos x3, if_neg (by omega)]
  by_cases A : chr B n (sk B n p) = 42 ∨ chr B n (sk B n p) = 47 ∨ chr B n (sk B n p) = 37
  · have lt : sk B n p < n := chr_lt (B := B) (by omega)
    obtain ⟨nu, nn0, nn1, sg⟩ := sgT_n A
    rw [if_pos A] at st0
    obtain ⟨f1, p2, k2', M2, s2, cd2, op2, V, vp, vM, vg, vr⟩ := j_val hB h ru q54 r6 t (show M ≤ sk B n p + 1 by omega) (show sk B n p + 1 ≤ n by omega) s
    have st1 : m_X3_readSum_L12 (F + 1) Q 2 wt 1 (c : Int) (tS (RM u Q cd op M k) (p : Int) s 0) = hbind (m_X3_emit Q (chr B n (sk B n p)) 0 (tS (RM u Q cd2 op2 M2 k2') (p2 : Int) s2 (f1 : Int))) (fun _ => m_X3_readSum_L12 F Q 2 wt 1 ((c + 1 : Nat) : Int)) := by
      rw [st0]
      unfold m_X3_readSum_L58 m_X3_readSum_L138
      rw [hgI_k (k2 _ _ _ _ _ _ _), tS_2, hpI_k (k2 _ _ _ _ _ _ _), tS_w2, ix_s q6, hcallV_b (kQ _ _ _ _ _ _ _), V, hbind_p, hcallV_b (kQ _ _ _ _ _ _ _), ← ix_s c6]
      rfl
    by_cases z : f1 = 0
    · obtain ⟨g1, g2, g3⟩ := vg z
      have g2' := g2.2.1
      have M2l : M2 < 400 := by omega
      rw [x_emit ru q54 cd2 op2 M2l, hbind_p] at st1
      have t3 : tk (sup cd2 M2 (chr B n (sk B n p))) (sup op2 M2 0) (M2 + 1) a (if wt = -1 then false :: ts else false :: false :: ts) k2' := by
        have l3 := g3.2.2.2.1
        by_cases w : wt = -1
        · rw [if_pos w] at g3 l3 ⊢
          exact tk_e g3 (ty_num nu _) (okO_n nn0 nn1 0) (by simp only [List.length_cons] at l3 ⊢; omega) g3.2.2.2.2
        · rw [if_neg w] at g3 l3 ⊢
          exact tk_e g3 (ty_num nu _) (okO_n nn0 nn1 0) (by simp only [List.length_cons] at l3 ⊢; omega) g3.2.2.2.2
      subst z
      obtain ⟨f, p', k', M', s', cd', op', E, i1, i2, i3, i4⟩ := ih (N - 1) (by omega) p2 (M2 + 1) k2' a (c + 1) F (sup cd2 M2 (chr B n (sk B n p))) (sup op2 M2 0) ts wt s2 (by omega) vp (by omega) (by omega) (by omega) hw t3
      have mvA : mv p M cd op p2 (M2 + 1) (sup cd2 M2 (chr B n (sk B n p))) (sup op2 M2 0) := ⟨by have := g2.1; omega, by omega, fun j hj => by
        have := g2.2.2 j hj
        have := g2.1
        rw [sup_n (by omega), sup_n (by omega)]
        assumption⟩
      refine ⟨f, p', k', M', s', cd', op', st1.trans E, i1, i2, fun y => ?_, fun v Z O dp oc m F' G' hv h11 hz hF' hG' => ?_⟩
      · obtain ⟨y1, y2, y3, y4⟩ := i3 y
        exact ⟨by omega, y2, mvA.tE y3, y4⟩
      · obtain ⟨F', rfl⟩ : ∃ j, F' = j + 1 := ⟨F' - 1, by omega⟩
        obtain ⟨Z1, m1, P1, K1, X1, x1, x2, x3⟩ := vr v Z O dp oc m hv h11 hz
        obtain ⟨x4, x5, x6, x7⟩ := x3 rfl
        refine (i4 v (sup Z1 (400 * r + M2) (w32 (sgT (chr B n (sk B n p)) + w32 (16 * 0)))) O dp oc m1 F' G' hv h11 (x7.s (sg 0)) (by omega) (by omega)).m ?_ (x2.tr (zF.s M2l))
        unfold pS
        rw [pS_m hB r6 v hv h11 Z O M k dp oc m hp F' A, x1, hbind_p, hif_p, if_pos rfl, if_pos (by decide), x4, x5, x6, X_cv hv, y_puts hv h11 r6 Z1 M2l, hbind_p]
        rfl
    · obtain ⟨cd3, op3, M3, e2, e3⟩ := x_emitJ ru q54 cd2 op2 vM k2' (p2 : Int) s2 (f1 : Int) (chr B n (sk B n p)) 0
      obtain ⟨F, rfl⟩ : ∃ j, F = j + 2 := ⟨F - 2, by omega⟩
      obtain ⟨cd4, op4, M4, p4, e4, e5, e6⟩ := x_sumF h ru q54 wt cd3 op3 e2 (k2' : Int) s2 (f := (f1 : Int)) (by omega) vp ((c + 1 : Nat) : Int) F
      rw [e3, hbind_p, e6] at st1
      refine ⟨f1, p4, k2', M4, s2, cd4, op4, st1, e5, e4, fun y => absurd y z, fun v Z O dp oc m F' G' hv h11 hz hF' hG' => ?_⟩
      obtain ⟨F', rfl⟩ : ∃ j, F' = j + 1 := ⟨F' - 1, by omega⟩
      obtain ⟨Z1, m1, P1, K1, X1, x1, x2, x3⟩ := vr v Z O dp oc m hv h11 hz
      refine refO_b z Z1 m1 P1 K1 X1 ?_ x2
      unfold pS
      rw [pS_m hB r6 v hv h11 Z O M k dp oc m hp F' A, x1, hbind_p, hif_p, if_neg z, if_neg z0, hretZ_0, hbind_p, hif_p, if_neg z0, hretZ_0]
  · rw [if_neg A] at st0
    -- what is owed is put down
    have ow : ∀ (P s : Int), wt ≠ -1 → M < 400 ∧ m_X3_emit Q wt 0 (tS (RM u Q cd op M k) P s 0) = some (0, tS (RM u Q (sup cd M wt) (sup op M 0) ((M + 1 : Nat) : Int) k) P s 0) ∧ tk (sup cd M wt) (sup op M 0) (M + 1) a (false :: ts) k := fun P s w => by
      have M4 : M < 400 := by
        unfold eW at hMp
        rw [if_neg w] at hMp
        omega
      have nw := sgR_n (c := wt) (by omega)
      rw [if_neg w] at t
      have l3 := t.2.2.2.1
      exact ⟨M4, x_emit ru q54 cd op M4 _ _ _ _ _ _, tk_e t (ty_num nw.1 _) (okO_n nw.2.1 nw.2.2.1 0) (by simp only [List.length_cons] at l3 ⊢; omega) t5⟩
    by_cases C : chr B n (sk B n p) = 43 ∨ chr B n (sk B n p) = 45
    · have lt : sk B n p < n := chr_lt (B := B) (by omega)
      have cw : ¬ (chr B n (sk B n p) = -1) := by omega
      obtain ⟨nu, nn0, nn1, sg⟩ := sgR_n C
      -- signs so far
      obtain ⟨cd1, op1, M1, m1e, tk1, em1, mv1, rr1⟩ : ∃ (cd1 op1 : Nat → Int) (M1 : Nat), M1 = M + eW wt ∧ tk cd1 op1 M1 a (false :: ts) k ∧ (∀ (P s : Int) (K : hM), (hif (wt = -1) K (hcallV 3 Q (m_X3_emit Q wt 0) fun _ => K)) (tS (RM u Q cd op M k) P s 0) = K (tS (RM u Q cd1 op1 M1 k) P s 0)) ∧ (∀ j, j < M → cd1 j = cd j ∧ op1 j = op j) ∧ ∀ (v : hS) (Z O : Nat → Int) (dp oc P m : Int) (K : hM), rTp n B v → hV v 220 11 = (r : Int) → zk r Z cd op M → ∃ Z1, zF r Z Z1 ∧ zk r Z1 cd1 op1 M1 ∧ (if wt = -1 then K else hcallV 10 220 (m_X10_puts 220 (sgR wt) 0) fun _ => K) (rS (RX v r Z M O k dp oc) P 0 m) = K (rS (RX v r Z1 M1 O k dp oc) P 0 m) := by
        by_cases w : wt = -1
        · refine ⟨cd, op, M, by unfold eW; rw [if_pos w]; rfl, by rw [if_pos w] at t; exact t, fun P s K => by rw [hif_p, if_pos w], fun j _ => ⟨rfl, rfl⟩, fun v Z O dp oc P m K hv h11 hz => ⟨Z, zF.rf r Z, hz, by rw [if_pos w]⟩⟩
        · obtain ⟨M4, _, o3⟩ := ow 0 0 w
          have nw := sgR_n (c := wt) (by omega)
          refine ⟨sup cd M wt, sup op M 0, M + 1, by unfold eW; rw [if_neg w], o3, fun P s K => ?_, fun j hj => ⟨sup_n (by omega), sup_n (by omega)⟩, fun v Z O dp oc P m K hv h11 hz => ⟨sup Z (400 * r + M) (w32 (sgR wt + w32 (16 * 0))), zF.s M4, hz.s (nw.2.2.2 0), ?_⟩⟩
          · rw [hif_p, if_neg w, hcallV_b (kQ _ _ _ _ _ _ _), (ow P s w).2.1, hbind_p]
          · rw [if_neg w, X_cv hv, y_puts hv h11 r6 Z M4, hbind_p]
      obtain ⟨f1, p2, k2', M2, s2, cd2, op2, V, vp, vM, vg, vr⟩ := j_val hB h ru q54 r6 tk1 (show M1 ≤ sk B n p + 1 by omega) (show sk B n p + 1 ≤ n by omega) s
      have st1 : m_X3_readSum_L12 (F + 1) Q 2 wt 1 (c : Int) (tS (RM u Q cd op M k) (p : Int) s 0) = m_X3_readSum_L12 F Q 2 (chr B n (sk B n p)) 1 ((c + 1 : Nat) : Int) (tS (RM u Q cd2 op2 M2 k2') (p2 : Int) s2 (f1 : Int)) := by
        have l104 : m_X3_readSum_L104 (m_X3_readSum_L12 F) Q 2 wt 1 (c : Int) (chr B n (sk B n p)) (tS (RM u Q cd op M k) ((sk B n p : Nat) : Int) s 0) = m_X3_readSum_L12 F Q 2 (chr B n (sk B n p)) 1 ((c + 1 : Nat) : Int) (tS (RM u Q cd2 op2 M2 k2') (p2 : Int) s2 (f1 : Int)) := by
          unfold m_X3_readSum_L104
          rw [hgI_k (k2 _ _ _ _ _ _ _), tS_2, hpI_k (k2 _ _ _ _ _ _ _), tS_w2, ix_s q6, em1]
          unfold m_X3_readSum_L125 m_X3_readSum_L138
          rw [hlet_p, hcallV_b (kQ _ _ _ _ _ _ _), V, hbind_p, hlet_p, ix_s c6]
        rw [st0]
        unfold m_X3_readSum_L83
        rw [hgI_k (k2 _ _ _ _ _ _ _), tS_4, hif_p, if_neg z0, hif_p]
        by_cases y : chr B n (sk B n p) = 43
        · rw [if_pos y, l104]
        · rw [if_neg y, hif_p, if_neg (fun z => by omega), l104]
      have eC : eW (chr B n (sk B n p)) = 1 := by
        unfold eW
        rw [if_neg cw]
      have rfst : ∀ (v : hS) (Z O : Nat → Int) (dp oc m : Int) (F' G' : Nat), rTp n B v → hV v 220 11 = (r : Int) → zk r Z cd op M → ∃ Z1, zF r Z Z1 ∧ zk r Z1 cd1 op1 M1 ∧ pS (F' + 1) (G' + 1) wt (rS (RX v r Z M O k dp oc) (p : Int) 0 m) = hbind (m_X10_value 220 (rS (RX v r Z1 M1 O k dp oc) ((sk B n p + 1 : Nat) : Int) 0 m)) (fun v1 st => hbind ((hif (v1 ≠ 0) (m_X10_term_L9 1000000000 220) (hretZ 0)) st) (fun v3 => hif (v3 ≠ 0) (hcallV 10 220 (m_X10_puts 220 (sgR (chr B n (sk B n p))) 0) fun _ => m_X10_sum_L9 G' 220) (hretZ 0))) := fun v Z O dp oc m F' G' hv h11 hz => by
        obtain ⟨Z1, y1, y2, y3⟩ := rr1 v Z O dp oc ((sk B n p : Nat) : Int) m (m_X10_sum_L9 (G' + 1) 220) hv h11 hz
        refine ⟨Z1, y1, y2, ?_⟩
        unfold pS
        rw [pS_t r6 v hv Z O M k dp oc m hp F' A, hbind_p, hif_p, if_pos (by decide), y3]
        exact pS_a hB r6 v hv h11 Z1 O M1 k dp oc m s1.2 G' ss C
      by_cases z : f1 = 0
      · obtain ⟨g1, g2, g3⟩ := vg z
        subst z
        have g2' := g2.2.1
        obtain ⟨f, p', k', M', s', cd', op', E, i1, i2, i3, i4⟩ := ih (N - 1) (by omega) p2 M2 k2' a (c + 1) F cd2 op2 ts (chr B n (sk B n p)) s2 (by omega) vp (by omega) (by omega) (by omega) (by omega) (by rw [if_neg cw]; exact g3)
        refine ⟨f, p', k', M', s', cd', op', st1.trans E, i1, i2, fun y => ?_, fun v Z O dp oc m F' G' hv h11 hz hF' hG' => ?_⟩
        · obtain ⟨y1, y2, y3, y4⟩ := i3 y
          obtain ⟨y5, y6, y7⟩ := y3
          have g4 := g2.1
          refine ⟨by omega, y2, ⟨by omega, by omega, fun j hj => ?_⟩, y4⟩
          have a1 := y7 j (by omega)
          have a2 := g2.2.2 j (by omega)
          have a3 := mv1 j hj
          exact ⟨a1.1.trans (a2.1.trans a3.1), a1.2.trans (a2.2.trans a3.2)⟩
        · obtain ⟨F', rfl⟩ : ∃ j, F' = j + 1 := ⟨F' - 1, by omega⟩
          obtain ⟨G', rfl⟩ : ∃ j, G' = j + 1 := ⟨G' - 1, by omega⟩
          obtain ⟨Z0, w1, w2, w3⟩ := rfst v Z O dp oc m F' G' hv h11 hz
          obtain ⟨Z1, m1, P1, K1, X1, x1, x2, x3⟩ := vr v Z0 O dp oc m hv h11 w2
          obtain ⟨x4, x5, x6, x7⟩ := x3 rfl
          refine (i4 v Z1 O dp oc m1 1000000000 G' hv h11 x7 (by omega) (by omega)).m ?_ (w1.tr x2)
          rw [w3, x1, hbind_p, x4, x5, x6, if_pos rfl]
          unfold pS
          rw [if_neg cw, hif_p, if_pos (by decide)]
          rfl
      · obtain ⟨F, rfl⟩ : ∃ j, F = j + 2 := ⟨F - 2, by omega⟩
        obtain ⟨cd4, op4, M4, p4, e4, e5, e6⟩ := x_sumF h ru q54 (chr B n (sk B n p)) cd2 op2 vM (k2' : Int) s2 (f := (f1 : Int)) (by omega) vp ((c + 1 : Nat) : Int) F
        rw [e6] at st1
        refine ⟨f1, p4, k2', M4, s2, cd4, op4, st1, e5, e4, fun y => absurd y z, fun v Z O dp oc m F' G' hv h11 hz hF' hG' => ?_⟩
        obtain ⟨F', rfl⟩ : ∃ j, F' = j + 1 := ⟨F' - 1, by omega⟩
        obtain ⟨G', rfl⟩ : ∃ j, G' = j + 1 := ⟨G' - 1, by omega⟩
        obtain ⟨Z0, w1, w2, w3⟩ := rfst v Z O dp oc m F' G' hv h11 hz
        obtain ⟨Z1, m1, P1, K1, X1, x1, x2, x3⟩ := vr v Z0 O dp oc m hv h11 w2
        refine refO_b z Z1 m1 P1 K1 X1 ?_ (w1.tr x2)
        rw [w3, x1, hbind_p, if_neg z, hif_p, if_neg z0, hretZ_0, hbind_p, hif_p, if_neg z0, hretZ_0]
    · -- the end
      have st1 : m_X3_readSum_L12 (F + 1) Q 2 wt 1 (c : Int) (tS (RM u Q cd op M k) (p : Int) s 0) = m_X3_readSum_L144 Q wt (tS (RM u Q cd op M k) ((sk B n p : Nat) : Int) s 0) := by
        obtain ⟨F, rfl⟩ : ∃ j, F = j + 1 := ⟨F - 1, by omega⟩
        rw [st0]
        unfold m_X3_readSum_L83 m_X3_readSum_L136 m_X3_readSum_L138
        rw [hgI_k (k2 _ _ _ _ _ _ _), tS_4, hif_p, if_neg z0, hif_p, if_neg (fun z => C (.inl z)), hif_p, if_pos (fun z => C (.inr z)), hlet_p, hlet_p, m_X3_readSum_L12, hif_p, if_pos rfl]
      by_cases w : wt = -1
      · refine ⟨0, sk B n p, k, M, s, cd, op, ?_, s1.2, by omega, fun _ => ⟨s1.1, ss, ⟨by omega, by omega, fun j _ => ⟨rfl, rfl⟩⟩, by rw [if_pos w] at t; exact t⟩, fun v Z O dp oc m F' G' hv h11 hz hF' hG' => ?_⟩
        · rw [st1]
          unfold m_X3_readSum_L144
          rw [hif_p, if_pos w]
          rfl
        · obtain ⟨F', rfl⟩ : ∃ j, F' = j + 1 := ⟨F' - 1, by omega⟩
          obtain ⟨G', rfl⟩ : ∃ j, G' = j + 1 := ⟨G' - 1, by omega⟩
          refine refO_g Z m ?_ (zF.rf r Z) hz
          unfold pS
          rw [pS_t r6 v hv Z O M k dp oc m hp F' A, hbind_p, hif_p, if_pos (by decide), if_pos w]
          exact pS_e r6 v hv Z O M k dp oc m s1.2 G' ss C
      · obtain ⟨M4, _, o3⟩ := ow 0 0 w
        have nw := sgR_n (c := wt) (by omega)
        have ew : eW wt = 1 := by
          unfold eW
          rw [if_neg w]
        refine ⟨0, sk B n p, k, M + 1, s, sup cd M wt, sup op M 0, ?_, s1.2, by omega, fun _ => ⟨s1.1, ss, ⟨by omega, by omega, fun j hj => ⟨sup_n (by omega), sup_n (by omega)⟩⟩, o3⟩, fun v Z O dp oc m F' G' hv h11 hz hF' hG' => ?_⟩
        · rw [st1]
          unfold m_X3_readSum_L144
          rw [hif_p, if_neg w, hcallV_b (kQ _ _ _ _ _ _ _), (ow _ s w).2.1, hbind_p]
          rfl
        · obtain ⟨F', rfl⟩ : ∃ j, F' = j + 1 := ⟨F' - 1, by omega⟩
          obtain ⟨G', rfl⟩ : ∃ j, G' = j + 1 := ⟨G' - 1, by omega⟩
          refine refO_g (sup Z (400 * r + M) (w32 (sgR wt + w32 (16 * 0)))) m ?_ (zF.s M4) (hz.s (nw.2.2.2 0))
          unfold pS
          rw [pS_t r6 v hv Z O M k dp oc m hp F' A, hbind_p, hif_p, if_pos (by decide), if_neg w, X_cv hv, y_puts hv h11 r6 Z M4, hbind_p]
          exact pS_e r6 v hv _ O _ k dp oc m s1.2 G' ss C
theorem sl_all {n : Nat} {B : Nat → Int} (hB : byB B n) {u : hS} (h : cTp n B u) {Q r : Nat} (ru : RuA u Q) (q54 : 54 ≤ Q) (r6 : r < 6) : ∀ N, N ≤ 400 → SLP n B u Q r N := by
  intro N
  induction N using Nat.strongRecOn with
  | ind N ih => exact fun N4 => sl_step hB h ru q54 r6 N4 (fun N' h1 => ih N' h1 (by omega))
theorem j_sum {n : Nat} {B : Nat → Int} (hB : byB B n) {u : hS} (h : cTp n B u) {Q r : Nat} (ru : RuA u Q) (q54 : 54 ≤ Q) (r6 : r < 6) {p M k a : Nat} {cd op : Nat → Int} {ts : List Bool} (t : tk cd op M a ts k) (Mp : M ≤ p) (hp : p ≤ n) : ∀ s : Int, ∃ (f p' k' M' : Nat) (s' : Int) (cd' op' : Nat → Int), m_X3_readSum Q 2 (tS (RM u Q cd op M k) (p : Int) s 0) = some (0, tS (RM u Q cd' op' M' k') (p' : Int) s' (f : Int)) ∧ p' ≤ n ∧ M' ≤ 400 ∧ (f = 0 → p < p' ∧ sk B n p' = p' ∧ mv p M cd op p' M' cd' op' ∧ tk cd' op' M' a (false :: ts) k') ∧ ∀ (v : hS) (Z O : Nat → Int) (dp oc m : Int), rTp n B v → hV v 220 11 = (r : Int) → zk r Z cd op M → refO v r Z O dp oc (m_X10_sum 220) (rS (RX v r Z M O k dp oc) (p : Int) 0 m) f p' k' M' cd' op' := by
  intro s
  have n4 := h.2.2.2
  have kQ : ∀ cd op (M k P s f : Int), okk (tS (RM u Q cd op M k) P s f) Q 3 := fun _ _ _ _ _ _ _ => by rw [tS_k, RM_k]; exact ru.k0
  have z0 : ¬ ((0 : Int) ≠ 0) := fun z => z rfl
  obtain ⟨f1, p2, k2, M2, s2, cd2, op2, V, vp, vM, vg, vr⟩ := j_val hB h ru q54 r6 t Mp hp s
  have st : m_X3_readSum Q 2 (tS (RM u Q cd op M k) (p : Int) s 0) = m_X3_readSum_L12 1000000000 Q 2 (-1) 1 0 (tS (RM u Q cd2 op2 M2 k2) (p2 : Int) s2 (f1 : Int)) := by
    unfold m_X3_readSum
    rw [hcallV_b (kQ _ _ _ _ _ _ _), V, hbind_p, hlet_p, hlet_p, hlet_p]
  have sr : ∀ (v : hS) (Z O : Nat → Int) (dp oc m : Int), rTp n B v → ∀ (x : Int) (st1 : hS), m_X10_value 220 (rS (RX v r Z M O k dp oc) (p : Int) 0 m) = some (x, st1) → m_X10_sum 220 (rS (RX v r Z M O k dp oc) (p : Int) 0 m) = hbind ((hif (x ≠ 0) (m_X10_term_L9 1000000000 220) (hretZ 0)) st1) (fun v1 => hif (v1 ≠ 0) (m_X10_sum_L9 1000000000 220) (hretZ 0)) := fun v Z O dp oc m hv x st1 e => by
    unfold m_X10_sum
    rw [X_cv hv]
    unfold m_X10_term
    rw [X_cv hv, e, hbind_p]
  by_cases z : f1 = 0
  · obtain ⟨g1, g2, g3⟩ := vg z
    subst z
    have g2' := g2.2.1
    obtain ⟨f, p', k', M', s', cd', op', E, i1, i2, i3, i4⟩ := sl_all hB h ru q54 r6 (n - p2) (by omega) p2 M2 k2 a 0 1000000000 cd2 op2 ts (-1) s2 (by omega) vp (by show M2 + 0 ≤ p2; omega) (by omega) (by omega) (.inl rfl) g3
    refine ⟨f, p', k', M', s', cd', op', st.trans E, i1, i2, fun y => ?_, fun v Z O dp oc m hv h11 hz => ?_⟩
    · obtain ⟨y1, y2, y3, y4⟩ := i3 y
      exact ⟨by omega, y2, g2.tE y3, y4⟩
    · obtain ⟨Z1, m1, P1, K1, X1, x1, x2, x3⟩ := vr v Z O dp oc m hv h11 hz
      obtain ⟨x4, x5, x6, x7⟩ := x3 rfl
      refine (i4 v Z1 O dp oc m1 1000000000 1000000000 hv h11 x7 (by omega) (by omega)).m ?_ x2
      rw [sr v Z O dp oc m hv _ _ x1, x4, x5, x6, if_pos rfl]
      unfold pS
      rw [if_pos rfl, hif_p, if_pos (by decide)]
      rfl
  · obtain ⟨cd4, op4, M4, p4, e4, e5, e6⟩ := x_sumF h ru q54 (-1) cd2 op2 vM (k2 : Int) s2 (f := (f1 : Int)) (by omega) vp 0 999999998
    refine ⟨f1, p4, k2, M4, s2, cd4, op4, st.trans e6, e5, e4, fun y => absurd y z, fun v Z O dp oc m hv h11 hz => ?_⟩
    obtain ⟨Z1, m1, P1, K1, X1, x1, x2, x3⟩ := vr v Z O dp oc m hv h11 hz
    refine refO_b z Z1 m1 P1 K1 X1 ?_ x2
    rw [sr v Z O dp oc m hv _ _ x1, if_neg z, hif_p, if_neg z0, hretZ_0, hbind_p, hif_p, if_neg z0, hretZ_0]
