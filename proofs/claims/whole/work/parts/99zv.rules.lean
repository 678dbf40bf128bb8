/-! all clauses of a rule -/
theorem frQ.shp {Q : Nat} {u v : hS} (h : frQ Q u v) (hs : shp u) : shp v := by
  obtain ⟨K, N, V, F, B⟩ := u
  obtain ⟨K', N', V', F', B'⟩ := v
  obtain ⟨⟨h1, h2, h3, h4⟩, _⟩ := h
  have g1 : B' = B := h1
  have g2 : K' = K := h2
  have g3 : N' = N := h3
  have g4 : F' = F := h4
  clear h1 h2 h3 h4
  subst g1 g2 g3 g4
  exact hs
theorem frQ.ru {Q : Nat} {u v : hS} (h : frQ Q u v) {Q' : Nat} (ru : RuA u Q') : RuA v Q' := by
  obtain ⟨K, N, V, F, B⟩ := u
  obtain ⟨K', N', V', F', B'⟩ := v
  obtain ⟨⟨h1, h2, h3, h4⟩, _⟩ := h
  have g1 : B' = B := h1
  have g2 : K' = K := h2
  have g3 : N' = N := h3
  have g4 : F' = F := h4
  clear h1 h2 h3 h4
  subst g1 g2 g3 g4
  exact ru
theorem frQ.tp {Q : Nat} {u v : hS} (h : frQ Q u v) (q54 : 54 ≤ Q) {n : Nat} {B : Nat → Int} (c : cTp n B u) : cTp n B v := c.agr (h.shp c.1) (by rw [h.2 2 (by omega)]) (h.2 3 (by omega))
theorem frR.shp {r : Nat} {u v : hS} (h : frR r u v) (hs : shp u) : shp v := by
  obtain ⟨K, N, V, F, B⟩ := u
  obtain ⟨K', N', V', F', B'⟩ := v
  obtain ⟨⟨h1, h2, h3, h4⟩, _⟩ := h
  have g1 : B' = B := h1
  have g2 : K' = K := h2
  have g3 : N' = N := h3
  have g4 : F' = F := h4
  clear h1 h2 h3 h4
  subst g1 g2 g3 g4
  exact hs
theorem frR.tp {r : Nat} {u v : hS} (h : frR r u v) {n : Nat} {B : Nat → Int} (c : rTp n B u) : rTp n B v := ⟨h.shp c.1, by rw [h.2.2.1 1 (by decide)]; exact c.2.1, by rw [h.2.1 221 (by decide) (by decide) (by decide)]; exact c.2.2.1, c.2.2.2⟩
def CI (Q : Nat) (u : hS) (c : Nat) (A Bf E : Nat → Nat) : Prop := hV u Q 7 = (c : Int) ∧ ∀ i, i < c → hV u (Q + 3) i = (A i : Int) ∧ hV u (Q + 4) i = (Bf i : Int) ∧ hV u (Q + 5) i = (E i : Int)
def RI (r : Nat) (v : hS) (c : Nat) (A Bf E : Nat → Nat) : Prop := hV v 220 14 = (c : Int) ∧ hV v 225 r = (c : Int) ∧ ∀ i, i < c → hV v 224 (48 * r + 4 * i) = (A i : Int) ∧ hV v 224 (48 * r + 4 * i + 1) = (Bf i : Int) ∧ hV v 224 (48 * r + 4 * i + 2) = (if Bf i = E i then -1 else (Bf i : Int)) ∧ hV v 224 (48 * r + 4 * i + 3) = (E i : Int)
def TI (cd op : Nat → Int) (M : Nat) (A Bf E : Nat → Nat) (c : Nat) : Prop := (∀ j, j < M → okO (cd j) (op j)) ∧ ∀ i, i < c → clS cd M A Bf E i
def sN (A : Nat → Nat) (c x : Nat) : Nat → Nat := fun i => if i = c then x else A i
theorem sN_s (A : Nat → Nat) (c x : Nat) : sN A c x c = x := if_pos rfl
theorem sN_n {A : Nat → Nat} {c x i : Nat} (h : i ≠ c) : sN A c x i = A i := if_neg h
theorem CI.s {Q : Nat} {u u' : hS} {c : Nat} {A Bf E : Nat → Nat} (h : CI Q u c A Bf E) {a b e : Nat} (k : clK Q c u u' a b e) : CI Q u' (c + 1) (sN A c a) (sN Bf c b) (sN E c e) := by
  obtain ⟨k1, k2, k3⟩ := k
  refine ⟨k1, fun i hi => ?_⟩
  by_cases y : i = c
  · subst y
    rw [sN_s, sN_s, sN_s]
    exact k2
  · rw [sN_n y, sN_n y, sN_n y, (k3 i y).1, (k3 i y).2.1, (k3 i y).2.2]
    exact h.2 i (by omega)
theorem RI.s {r : Nat} {v v' : hS} {c : Nat} {A Bf E : Nat → Nat} (h : RI r v c A Bf E) {a b e : Nat} (k : rlK r c v v' a b e) : RI r v' (c + 1) (sN A c a) (sN Bf c b) (sN E c e) := by
  obtain ⟨k1, k2, k3, k4⟩ := k
  refine ⟨k1, k2, fun i hi => ?_⟩
  by_cases y : i = c
  · subst y
    rw [sN_s, sN_s, sN_s]
    exact k3
  · rw [sN_n y, sN_n y, sN_n y, k4 _ (by omega), k4 _ (by omega), k4 _ (by omega), k4 _ (by omega)]
    exact h.2.2 i (by omega)
theorem TI.s {cd op cd' op' : Nat → Int} {M M' M1 c p p' : Nat} {A Bf E : Nat → Nat} (h : TI cd op M A Bf E c) (m : mv p M cd op p' M' cd' op') (ok : ∀ j, j < M' → okO (cd' j) (op' j)) (h1 : M ≤ M1 ∧ M1 ≤ M') (h2 : tyL cd' (M1 - M) M [] = some [false]) (h3 : M1 < M' → tyL cd' (M' - M1) M1 [] = some [true]) : TI cd' op' M' (sN A c M) (sN Bf c M1) (sN E c M') (c + 1) := by
  refine ⟨ok, fun i hi => ?_⟩
  unfold clS
  by_cases y : i = c
  · subst y
    rw [sN_s, sN_s, sN_s]
    exact ⟨h1.1, h1.2, Nat.le_refl _, h2, h3⟩
  · rw [sN_n y, sN_n y, sN_n y]
    obtain ⟨c1, c2, c3, c4, c5⟩ := h.2 i (by omega)
    have m1 := m.1
    refine ⟨c1, c2, by omega, ?_, fun z => ?_⟩
    · rw [tyL_cg (cd := cd) _ _ _ (fun j _ hj => (m.2.2 j (by omega)).1)]
      exact c4
    · rw [tyL_cg (cd := cd) _ _ _ (fun j _ hj => (m.2.2 j (by omega)).1)]
      exact c5 z
def RLn (n : Nat) (B : Nat → Int) (Q r c : Nat) : Prop := ∀ (u : hS) (cd op : Nat → Int) (M k p : Nat) (s : Int) (A Bf E : Nat → Nat), cTp n B u → RuA u Q → CI Q u c A Bf E → TI cd op M A Bf E c → k ≤ 60 → M ≤ p → p ≤ n → ∀ F, 14 ≤ F + c → ∃ (u' : hS) (cd' op' : Nat → Int) (M' k' p' f C : Nat) (s' : Int) (A' B' E' : Nat → Nat), m_X3_read_L23 F Q 2 1 (c : Int) (tS (RM u Q cd op M k) (p : Int) s 0) = some (0, tS (RM u' Q cd' op' M' k') (p' : Int) s' (f : Int)) ∧ frQ Q u u' ∧ (f = 0 → C ≤ 12 ∧ M' ≤ 400 ∧ CI Q u' C A' B' E' ∧ TI cd' op' M' A' B' E' C) ∧ ∀ (v : hS) (Z O : Nat → Int) (dp oc m : Int) (G : Nat), rTp n B v → hV v 220 11 = (r : Int) → RI r v c A Bf E → zk r Z cd op M → 14 ≤ G + c → ∃ (v' : hS) (Z' O' : Nat → Int) (m' p'' k'' M'' dp'' oc'' : Int), hbind (m_X10_clauseHere 220 (rS (RX v r Z M O k dp oc) (p : Int) 0 m)) (fun w => m_X10_readsAll_L35 G 220 w) = m_X10_readsAll_L88 220 (rS (RX v' r Z' M'' O' k'' dp'' oc'') p'' (f : Int) m') ∧ frR r v v' ∧ zF r Z Z' ∧ (f = 0 → RI r v' C A' B' E' ∧ zk r Z' cd' op' M')
theorem rl_step {n : Nat} {B : Nat → Int} (hB : byB B n) {Q r c : Nat} (q54 : 54 ≤ Q) (r6 : r < 6) (c12 : c ≤ 12) (ih : c < 12 → RLn n B Q r (c + 1)) : RLn n B Q r c := by
  intro u cd op M k p s A Bf E h ru ci ti k6 Mp hp F hF
  obtain ⟨F, rfl⟩ : ∃ j, F = j + 1 := ⟨F - 1, by omega⟩
  have hs := h.1
  have n4 := h.2.2.2
  have c6 : c < 1000000 := by omega
  obtain ⟨f1, p1, k1, M1, Mb, s1, cd1, op1, u1, S, pn, M4, fr, gd, rf⟩ := j_clause hB h ru q54 r6 c12 ci.1 ti.1 k6 Mp hp s
  have h1 := fr.tp q54 h
  have ru1 := fr.ru ru
  have hR := RM_tp h1 q54 cd1 op1 M1 k1
  have T := c_takeNextClause hR s1 (f1 : Int) pn
  have z0 : ¬ ((0 : Int) ≠ 0) := fun z => z rfl
  have st : m_X3_read_L23 (F + 1) Q 2 1 (c : Int) (tS (RM u Q cd op M k) (p : Int) s 0) = hbind (m_X6_takeNextClause 2 (tS (RM u1 Q cd1 op1 M1 k1) (p1 : Int) s1 (f1 : Int))) (fun w => m_X3_read_L23 F Q 2 w ((c + 1 : Nat) : Int)) := by
    rw [S F]
    unfold m_X3_read_L118
    rw [hcallV_b (by rw [tS_k, RM_k]; exact kk_2 h1.1), ← ix_s c6]
    rfl
  have l0 : ∀ (c' : Int) (X : hS), m_X3_read_L23 F Q 2 0 c' X = some (0, X) := fun c' X => by
    obtain ⟨F, rfl⟩ : ∃ j, F = j + 1 := ⟨F - 1, by omega⟩
    rw [m_X3_read_L23, hif_p, if_pos rfl]
    rfl
  by_cases K : f1 = 0
  case neg =>
    rw [if_neg (by omega)] at T
    refine ⟨u1, cd1, op1, M1, k1, p1, f1, 0, s1, A, Bf, E, ?_, fr, fun y => absurd y K, fun v Z O dp oc m G hv h11 ri hz hG => ?_⟩
    · rw [st, T, hbind_p, l0]
    · obtain ⟨v', Z', O', m', p'', k'', M'', dp'', oc'', x1, x2, x3, _⟩ := rf v Z O dp oc m hv h11 ri.1 ri.2.1 hz
      obtain ⟨G, rfl⟩ : ∃ j, G = j + 1 := ⟨G - 1, by omega⟩
      refine ⟨v', Z', O', m', p'', k'', M'', dp'', oc'', ?_, x2, x3, fun y => absurd y K⟩
      rw [x1, hbind_p, if_neg K, m_X10_readsAll_L35, hif_p, if_pos rfl]
      unfold m_X10_readsAll_L66
      rw [hif_p, if_pos rfl]
  obtain ⟨g1, g2, g3, g4, g5, g6, g7, g8, g9⟩ := gd K
  subst K
  have g3' := g3.2.1
  have ci1 := ci.s g9
  have ti1 := ti.s g3 g5 g6 g7 g8
  have sk1 := (sk_le B pn).2
  have ss := sk_sk B pn
  rw [if_pos (show ((0 : Nat) : Int) = 0 from rfl)] at T
  have kref : ∀ (v : hS) (Z O : Nat → Int) (dp oc m : Int) (G : Nat), rTp n B v → hV v 220 11 = (r : Int) → RI r v c A Bf E → zk r Z cd op M → ∃ (v' : hS) (Z' O' : Nat → Int) (m' dp'' oc'' : Int), hbind (m_X10_clauseHere 220 (rS (RX v r Z M O k dp oc) (p : Int) 0 m)) (fun w => m_X10_readsAll_L35 G 220 w) = m_X10_readsAll_L35 G 220 1 (rS (RX v' r Z' M1 O' k1 dp'' oc'') (p1 : Int) 0 m') ∧ frR r v v' ∧ zF r Z Z' ∧ RI r v' (c + 1) (sN A c M) (sN Bf c Mb) (sN E c M1) ∧ zk r Z' cd1 op1 M1 := fun v Z O dp oc m G hv h11 ri hz => by
    obtain ⟨v', Z', O', m', p'', k'', M'', dp'', oc'', x1, x2, x3, x4⟩ := rf v Z O dp oc m hv h11 ri.1 ri.2.1 hz
    obtain ⟨⟨y1, y2, y3, y4⟩, y5⟩ := x4 rfl
    refine ⟨v', Z', O', m', dp'', oc'', ?_, x2, x3, ri.s y5, y4⟩
    rw [x1, hbind_p, if_pos rfl, y1, y2, y3]
    rfl
  by_cases c59 : chr B n (sk B n p1) = 59
  · rw [if_pos c59] at T
    have lt := chr_lt (B := B) (n := n) (p := sk B n p1) (by rw [c59]; decide)
    have skp := (sk_le B pn).1
    obtain ⟨u', cd', op', M', k', p', f, C, s', A', B', E', E1, fr', g', r'⟩ := ih g1 u1 cd1 op1 M1 k1 (sk B n p1 + 1) s1 (sN A c M) (sN Bf c Mb) (sN E c M1) h1 ru1 ci1 ti1 g4 (by omega) (by omega) F (by omega)
    refine ⟨u', cd', op', M', k', p', f, C, s', A', B', E', ?_, fr.tr fr', g', fun v Z O dp oc m G hv h11 ri hz hG => ?_⟩
    · rw [st, T, hbind_p]
      exact E1
    · obtain ⟨G, rfl⟩ : ∃ j, G = j + 1 := ⟨G - 1, by omega⟩
      obtain ⟨v', Z', O', m', dp'', oc'', x1, x2, x3, x4, x5⟩ := kref v Z O dp oc m (G + 1) hv h11 ri hz
      have hv' := x2.tp hv
      have v11 : hV v' 220 11 = (r : Int) := by rw [x2.2.2.1 11 (by decide)]; exact h11
      obtain ⟨v2, Z2, O2, m2, p2, k2, M2, dp2, oc2, y1, y2, y3, y4⟩ := r' v' Z' O' dp'' oc'' m' G hv' v11 x4 x5 (by omega)
      refine ⟨v2, Z2, O2, m2, p2, k2, M2, dp2, oc2, ?_, x2.tr y2, x3.tr y3, y4⟩
      rw [x1, m_X10_readsAll_L35, hif_p, if_neg (by decide), X_cv hv', r_see (RX_tp hv' r Z' M1 O' k1 dp'' oc'') 0 m' pn, hbind_p, hif_p, if_neg (fun z => z c59), X_g8 hv', X_p8 hv', ix_s (by omega), X_cv hv']
      exact y1
  · rw [if_neg c59] at T
    have kr66 : ∀ (v : hS) (Z O : Nat → Int) (dp oc m : Int) (G : Nat), rTp n B v → hV v 220 11 = (r : Int) → RI r v c A Bf E → zk r Z cd op M → 14 ≤ G + c → ∃ (v' : hS) (Z' O' : Nat → Int) (m' dp'' oc'' : Int), hbind (m_X10_clauseHere 220 (rS (RX v r Z M O k dp oc) (p : Int) 0 m)) (fun w => m_X10_readsAll_L35 G 220 w) = m_X10_readsAll_L88 220 (rS (RX v' r Z' M1 O' k1 dp'' oc'') ((sk B n p1 : Nat) : Int) ((if chr B n (sk B n p1) = -1 then 0 else 1 + 8 * sk B n p1 : Nat) : Int) m') ∧ frR r v v' ∧ zF r Z Z' ∧ RI r v' (c + 1) (sN A c M) (sN Bf c Mb) (sN E c M1) ∧ zk r Z' cd1 op1 M1 := fun v Z O dp oc m G hv h11 ri hz hG => by
      obtain ⟨G, rfl⟩ : ∃ j, G = j + 1 := ⟨G - 1, by omega⟩
      obtain ⟨v', Z', O', m', dp'', oc'', x1, x2, x3, x4, x5⟩ := kref v Z O dp oc m (G + 1) hv h11 ri hz
      have hv' := x2.tp hv
      refine ⟨v', Z', O', m', dp'', oc'', ?_, x2, x3, x4, x5⟩
      have hx := RX_tp hv' r Z' M1 O' k1 dp'' oc''
      have R := r_66 hx sk1 m'
      rw [ss] at R
      rw [x1, m_X10_readsAll_L35, hif_p, if_neg (by decide), X_cv hv', r_see hx 0 m' pn, hbind_p, hif_p, if_pos c59]
      exact R
    by_cases cm : chr B n (sk B n p1) = -1
    · rw [if_pos cm] at T
      refine ⟨u1, cd1, op1, M1, k1, sk B n p1, 0, c + 1, s1, _, _, _, ?_, fr, fun _ => ⟨by omega, M4, ci1, ti1⟩, fun v Z O dp oc m G hv h11 ri hz hG => ?_⟩
      · rw [st, T, hbind_p, l0]
      · obtain ⟨v', Z', O', m', dp'', oc'', x1, x2, x3, x4, x5⟩ := kr66 v Z O dp oc m G hv h11 ri hz hG
        rw [if_pos cm] at x1
        exact ⟨v', Z', O', m', _, _, _, dp'', oc'', x1, x2, x3, fun _ => ⟨x4, x5⟩⟩
    · rw [if_neg cm] at T
      refine ⟨u1, cd1, op1, M1, k1, sk B n p1, 1 + 8 * sk B n p1, 0, s1, A, Bf, E, ?_, fr, fun y => absurd y (by omega), fun v Z O dp oc m G hv h11 ri hz hG => ?_⟩
      · rw [st, T, hbind_p, l0]
      · obtain ⟨v', Z', O', m', dp'', oc'', x1, x2, x3, x4, x5⟩ := kr66 v Z O dp oc m G hv h11 ri hz hG
        rw [if_neg cm] at x1
        exact ⟨v', Z', O', m', _, _, _, dp'', oc'', x1, x2, x3, fun y => absurd y (by omega)⟩
theorem rlines {n : Nat} {B : Nat → Int} (hB : byB B n) {Q r : Nat} (q54 : 54 ≤ Q) (r6 : r < 6) : ∀ d c : Nat, d + c = 12 → RLn n B Q r c := by
  intro d
  induction d with
  | zero => exact fun c hc => rl_step hB q54 r6 (by omega) (fun z => by omega)
  | succ d ih => exact fun c hc => rl_step hB q54 r6 (by omega) (fun z => ih (c + 1) (by omega))
