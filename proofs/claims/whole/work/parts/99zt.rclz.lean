/-! a clause of a rule -/
theorem RM_wx {u : hS} {Q : Nat} {cd op : Nat → Int} {M k : Int} {a i : Nat} {x : Int} (h : a ≠ Q ∧ a ≠ Q + 1 ∧ a ≠ Q + 2) : hsetV (RM u Q cd op M k) a i x = RM (hsetV u a i x) Q cd op M k := by
  unfold RM
  rw [put_set_c _ _ _ _ h.1, put_set_c _ _ _ _ h.2.2, put_set_c _ _ _ _ h.2.1, hV_ne (Ne.symm h.1)]
theorem RM_w7 {u : hS} {Q : Nat} {cd op : Nat → Int} {M k x : Int} : hsetV (RM u Q cd op M k) Q 7 x = RM (hsetV u Q 7 x) Q cd op M k := by
  unfold RM
  rw [setV_put, ← put_set_c _ _ _ _ (show Q ≠ Q + 1 by omega), ← put_set_c _ _ _ _ (show Q ≠ Q + 2 by omega), put_setV]
  congr 1
  funext i
  unfold sup ruF
  by_cases e : i = 7
  · subst e
    rw [if_pos rfl, if_neg (by decide), if_neg (by decide), hV_setV_s]
  · rw [if_neg e, hV_setV_i e]
theorem RX_wx {v : hS} {r : Nat} {Z : Nat → Int} {M : Int} {O : Nat → Int} {k dp oc : Int} {a i : Nat} {x : Int} (h : a ≠ 220 ∧ a ≠ 222 ∧ a ≠ 223 ∧ a ≠ 227) : hsetV (RX v r Z M O k dp oc) a i x = RX (hsetV v a i x) r Z M O k dp oc := by
  unfold RX
  rw [put_set_c _ _ _ _ h.1, put_set_c _ _ _ _ h.2.2.2, put_set_c _ _ _ _ h.2.2.1, put_set_c _ _ _ _ h.2.1, hV_ne (Ne.symm h.1), hV_ne (Ne.symm h.2.2.1)]
theorem RX_w14 {v : hS} {r : Nat} {Z : Nat → Int} {M : Int} {O : Nat → Int} {k dp oc x : Int} : hsetV (RX v r Z M O k dp oc) 220 14 x = RX (hsetV v 220 14 x) r Z M O k dp oc := by
  unfold RX
  rw [setV_put, hV_ne (show 223 ≠ 220 by decide), ← put_set_c _ _ _ _ (show 220 ≠ 222 by decide), ← put_set_c _ _ _ _ (show 220 ≠ 223 by decide), ← put_set_c _ _ _ _ (show 220 ≠ 227 by decide), put_setV]
  congr 1
  funext i
  unfold sup rQ
  by_cases e : i = 14
  · subst e
    rw [if_pos rfl, if_neg (by decide), if_neg (by decide), if_neg (by decide), hV_setV_s]
  · rw [if_neg e, hV_setV_i e]
theorem j_test {n : Nat} {B : Nat → Int} (hB : byB B n) {u : hS} (h : cTp n B u) {Q r : Nat} (ru : RuA u Q) (q54 : 54 ≤ Q) (r6 : r < 6) {p M k a : Nat} {cd op : Nat → Int} {ts : List Bool} (t : tk cd op M a ts k) (Mp : M ≤ p) (hp : p ≤ n) (s : Int) : ∃ (f p' k' M' : Nat) (s' : Int) (cd' op' : Nat → Int), M_X3_readTest 13 Q 2 0 (tS (RM u Q cd op M k) (p : Int) s 0) = some (0, tS (RM u Q cd' op' M' k') (p' : Int) s' (f : Int)) ∧ p' ≤ n ∧ M' ≤ 400 ∧ (f = 0 → p < p' ∧ mv p M cd op p' M' cd' op' ∧ tk cd' op' M' a (true :: ts) k') ∧ ∀ (v : hS) (Z O : Nat → Int) (dp oc m : Int), rTp n B v → hV v 220 11 = (r : Int) → zk r Z cd op M → ∃ (Z' O' : Nat → Int) (m' p'' k'' M'' dp'' oc'' : Int), m_X10_tested 220 (rS (RX v r Z M O k dp oc) (p : Int) 0 m) = some (if f = 0 then 1 else 0, rS (RX v r Z' M'' O' k'' dp'' oc'') p'' (f : Int) m') ∧ zF r Z Z' ∧ (f = 0 → p'' = (p' : Int) ∧ k'' = (k' : Int) ∧ M'' = (M' : Int) ∧ zk r Z' cd' op' M') := by
  have n4 := h.2.2.2
  have kQ : ∀ cd op (M k P s f : Int), okk (tS (RM u Q cd op M k) P s f) Q 3 := fun _ _ _ _ _ _ _ => by rw [tS_k, RM_k]; exact ru.k0
  obtain ⟨FP, _⟩ := test_all hB h ru q54 r6 (n - p) (by omega)
  obtain ⟨f1, p2, k1, M1, s2, cd1, op1, V, vp, vM, vg, vr⟩ := FP 0 p M k a 0 cd op ts s (by omega) (by omega) hp (by omega) t
  have V : M_X3_readFact 13 Q 2 0 (tS (RM u Q cd op M k) (p : Int) s 0) = _ := V
  have st1 : M_X3_readTest 13 Q 2 0 (tS (RM u Q cd op M k) (p : Int) s 0) = m_X3_readTest_L14 (M_X3_readFact 13) 1000000000 Q 2 0 0 1 0 (tS (RM u Q cd1 op1 M1 k1) (p2 : Int) s2 (f1 : Int)) := by
    unfold M_X3_readTest m_X3_readTest
    rw [hcallV_b (kQ _ _ _ _ _ _ _), V, hbind_p, hlet_p, hlet_p, hlet_p]
  have rt : ∀ (v : hS) (Z O : Nat → Int) (dp oc m : Int), rTp n B v → m_X10_tested 220 (rS (RX v r Z M O k dp oc) (p : Int) 0 m) = RF 1000000000 999999999 (rS (RX v r Z M O k 0 0) (p : Int) 0 m) := fun v Z O dp oc m hv => by
    unfold m_X10_tested
    rw [X_p16 hv, X_p13 hv, hlet_p]
    exact t12 hv 999999999 _ _ _ _ _ _ _ _
  by_cases z : f1 = 0
  · obtain ⟨g1, g2, g3⟩ := vg z
    subst z
    have g2' := g2.2.1
    obtain ⟨_, LP⟩ := test_all hB h ru q54 r6 (n - p2) (by omega)
    obtain ⟨f, p', k', M', s', cd', op', E, i1, i2, i3, i4⟩ := LP 0 p2 M1 k1 a 0 0 1000000000 false cd1 op1 ts s2 (by omega) (by omega) vp (by show M1 + 0 + 0 ≤ p2; omega) (by omega) (by omega) g3
    refine ⟨f, p', k', M', s', cd', op', st1.trans E, i1, i2, fun y => ?_, fun v Z O dp oc m hv h11 hz => ?_⟩
    · obtain ⟨y1, y2, y3, y4⟩ := i3 y
      exact ⟨by omega, g2.tE y3, y4⟩
    · obtain ⟨_, q2⟩ := vr v Z O m [] 1000000000 999999999 hv h11 hz trivial (Nat.le_refl _) rfl (by omega) (by omega)
      obtain ⟨Z2, O2, m2, H2, F2, x1, x2, x3, x4, x5, x6⟩ := q2 rfl
      have R := i4 v Z2 O2 m2 [] false M1 H2 F2 hv h11 ⟨rfl, x3⟩ trivial (Nat.le_refl _) (.inl rfl) rfl x5 x6
      have eq : m_X10_tested 220 (rS (RX v r Z M O k dp oc) (p : Int) 0 m) = RA H2 F2 (rS (RX v r Z2 M1 O2 k1 0 0) (p2 : Int) 0 m2) := (rt v Z O dp oc m hv).trans x1
      by_cases y : f = 0
      · obtain ⟨Z', O', m', r1, r2, r3, r4, _⟩ := R.2 y
        refine ⟨Z', O', m', (p' : Int), (k' : Int), (M' : Int), 0, 0, ?_, x2.tr r1, fun _ => ⟨rfl, rfl, rfl, r2⟩⟩
        rw [eq, if_pos y, y]
        exact r4 rfl
      · obtain ⟨Z', O', m', p'', k'', M'', dp'', oc'', r1, r2⟩ := R.1 y
        refine ⟨Z', O', m', p'', k'', M'', dp'', oc'', ?_, x2.tr r2, fun w => absurd w y⟩
        rw [eq, if_neg y]
        exact r1
  · obtain ⟨cd4, op4, M4, e4, e6⟩ := x_L14F h ru q54 (M_X3_readFact 13) 0 0 0 cd1 op1 vM (k1 : Int) (p2 : Int) s2 (f := (f1 : Int)) (by omega) 999999998
    refine ⟨f1, p2, k1, M4, s2, cd4, op4, st1.trans e6, vp, e4, fun y => absurd y z, fun v Z O dp oc m hv h11 hz => ?_⟩
    obtain ⟨q1, _⟩ := vr v Z O m [] 1000000000 999999999 hv h11 hz trivial (Nat.le_refl _) rfl (by omega) (by omega)
    obtain ⟨Z', O', m', p'', k'', M'', dp'', oc'', r1, r2⟩ := q1 z
    refine ⟨Z', O', m', p'', k'', M'', dp'', oc'', ?_, r2, fun w => absurd w z⟩
    rw [rt v Z O dp oc m hv, if_neg z]
    exact r1
theorem x_L86 {u : hS} {Q : Nat} (ru : RuA u Q) (q54 : 54 ≤ Q) (K : Nat → Nat → Int → Int → hM) {c : Nat} (c12 : c < 12) (cd op : Nat → Int) (M k p s f : Int) : m_X3_read_L86 K Q 2 (c : Int) (tS (RM u Q cd op M k) p s f) = m_X3_read_L118 K Q 2 (c : Int) (tS (RM (hsetV (hsetV u (Q + 5) c M) Q 7 (w32 (hV u Q 7 + 1))) Q cd op M k) p s f) := by
  unfold m_X3_read_L86
  rw [hgR_k (by rw [tS_k, RM_k]; exact ru.k0), tS_F, RM_F, ru.f4, hgI_k (by rw [tS_k, RM_k]; exact ru.k0), tS_o (by omega), RM_6, hsI_n (by rw [tS_k, RM_k]; exact ru.k5) (by rw [tS_N, RM_N, ru.n5]; exact c12), tS_set (by omega), RM_wx (by omega)]
  have ru1 : RuA (hsetV u (Q + 5) c M) Q := ru
  rw [hgI_k (by rw [tS_k, RM_k]; exact ru1.k0), tS_o (by omega), RM_i (by decide), hV_setV_a (by omega), hpI_k (by rw [tS_k, RM_k]; exact ru1.k0), tS_set (by omega), RM_w7]
/-- where only the rows of the rule at Q may differ -/
def frQ (Q : Nat) (u v : hS) : Prop := (hB v = hB u ∧ hK v = hK u ∧ hN v = hN u ∧ hF v = hF u) ∧ ∀ a, a < Q ∨ Q + 5 < a → hV v a = hV u a
theorem frQ.rf (Q : Nat) (u : hS) : frQ Q u u := ⟨⟨rfl, rfl, rfl, rfl⟩, fun _ _ => rfl⟩
theorem frQ.set {Q : Nat} {u v : hS} (h : frQ Q u v) {a i : Nat} {x : Int} (h0 : Q ≤ a) (h1 : a ≤ Q + 5) : frQ Q u (hsetV v a i x) := ⟨h.1, fun b hb => by rw [hV_ne (by omega)]; exact h.2 b hb⟩
theorem frQ.tr {Q : Nat} {u v w : hS} (h : frQ Q u v) (k : frQ Q v w) : frQ Q u w := ⟨⟨k.1.1.trans h.1.1, k.1.2.1.trans h.1.2.1, k.1.2.2.1.trans h.1.2.2.1, k.1.2.2.2.trans h.1.2.2.2⟩, fun a ha => (k.2 a ha).trans (h.2 a ha)⟩
/-- where the reference's base may differ while rule r is read -/
def frR (r : Nat) (u v : hS) : Prop := (hB v = hB u ∧ hK v = hK u ∧ hN v = hN u ∧ hF v = hF u) ∧ (∀ a, a ≠ 220 → a ≠ 224 → a ≠ 225 → hV v a = hV u a) ∧ (∀ i, i ≠ 14 → hV v 220 i = hV u 220 i) ∧ (∀ i, i < 48 * r ∨ 48 * r + 48 ≤ i → hV v 224 i = hV u 224 i) ∧ ∀ i, i ≠ r → hV v 225 i = hV u 225 i
theorem frR.rf (r : Nat) (u : hS) : frR r u u := ⟨⟨rfl, rfl, rfl, rfl⟩, fun _ _ _ _ => rfl, fun _ _ => rfl, fun _ _ => rfl, fun _ _ => rfl⟩
theorem frR.tr {r : Nat} {u v w : hS} (h : frR r u v) (k : frR r v w) : frR r u w := ⟨⟨k.1.1.trans h.1.1, k.1.2.1.trans h.1.2.1, k.1.2.2.1.trans h.1.2.2.1, k.1.2.2.2.trans h.1.2.2.2⟩, fun a h1 h2 h3 => (k.2.1 a h1 h2 h3).trans (h.2.1 a h1 h2 h3), fun i hi => (k.2.2.1 i hi).trans (h.2.2.1 i hi), fun i hi => (k.2.2.2.1 i hi).trans (h.2.2.2.1 i hi), fun i hi => (k.2.2.2.2 i hi).trans (h.2.2.2.2 i hi)⟩
theorem frR.s14 {r : Nat} {u v : hS} (h : frR r u v) (x : Int) : frR r u (hsetV v 220 14 x) := ⟨h.1, fun a h1 h2 h3 => by rw [hV_ne h1]; exact h.2.1 a h1 h2 h3, fun i hi => by rw [hV_setV_i hi]; exact h.2.2.1 i hi, fun i hi => by rw [hV_setV_a (by decide)]; exact h.2.2.2.1 i hi, fun i hi => by rw [hV_setV_a (by decide)]; exact h.2.2.2.2 i hi⟩
theorem frR.s224 {r : Nat} {u v : hS} (h : frR r u v) {j : Nat} (x : Int) (h0 : 48 * r ≤ j) (h1 : j < 48 * r + 48) : frR r u (hsetV v 224 j x) := ⟨h.1, fun a k1 k2 k3 => by rw [hV_ne k2]; exact h.2.1 a k1 k2 k3, fun i hi => by rw [hV_setV_a (by decide)]; exact h.2.2.1 i hi, fun i hi => by rw [hV_setV_i (by omega)]; exact h.2.2.2.1 i hi, fun i hi => by rw [hV_setV_a (by decide)]; exact h.2.2.2.2 i hi⟩
theorem frR.s225 {r : Nat} {u v : hS} (h : frR r u v) (x : Int) : frR r u (hsetV v 225 r x) := ⟨h.1, fun a k1 k2 k3 => by rw [hV_ne k3]; exact h.2.1 a k1 k2 k3, fun i hi => by rw [hV_setV_a (by decide)]; exact h.2.2.1 i hi, fun i hi => by rw [hV_setV_a (by decide)]; exact h.2.2.2.1 i hi, fun i hi => by rw [hV_setV_i hi]; exact h.2.2.2.2 i hi⟩
