/-! the town that is being read and the reference's row -/
def rtC (u : hS) (t : Nat) (S : Nat → Int) : Prop := hV u t 0 = S 0 ∧ hV u t 1 = S 1 ∧ hV u (t + 1) 3 = S 2 ∧ hV u (t + 5) 3 = S 3 ∧ hV u t 7 = S 4 ∧ hV u t 10 = S 5 ∧ hV u t 4 = S 7
def rtR (S : Nat → Int) : Prop := cnS S ∧ S 6 = 0 ∧ (0 ≤ S 1 ∧ S 1 ≤ 5) ∧ (S 0 ≠ 0 → 1 ≤ S 1)
def rtP (x y : Nat → Int) (S : Nat → Int) : Prop := ∀ p : Nat, ((p : Int) < S 4 → (x p = S (11 + 3 * p) ∧ S (10 + 3 * p) = S (11 + 3 * p) ∧ S (12 + 3 * p) = 0 ∧ 0 ≤ S (11 + 3 * p) ∧ S (11 + 3 * p) < S 0) ∧ ∀ b, b < 9 → y (9 * p + b) = S (22 + 9 * p + b) ∧ 0 ≤ S (22 + 9 * p + b) ∧ S (22 + 9 * p + b) ≤ S 1 ∧ S (58 + 9 * p + b) = 0) ∧ (S 4 ≤ (p : Int) → ∀ b, b < 9 → y (9 * p + b) = 0)
def rtB (x y w : Nat → Int) (S : Nat → Int) : Prop := ∀ b : Nat, (b : Int) < S 2 → x b = S (94 + 2 * b) ∧ y b = S (95 + 2 * b) ∧ w b = qTwin S b ∧ S (94 + 2 * b) ≠ S (95 + 2 * b) ∧ (0 ≤ S (94 + 2 * b) ∧ S (94 + 2 * b) < S 0) ∧ 0 ≤ S (95 + 2 * b) ∧ S (95 + 2 * b) < S 0
def rtF (x y : Nat → Int) (S : Nat → Int) : Prop := ∀ b : Nat, (b : Int) < S 3 → x b = S (112 + 2 * b) ∧ y b = S (113 + 2 * b) ∧ (0 ≤ S (112 + 2 * b) ∧ S (112 + 2 * b) < S 0) ∧ 0 ≤ S (113 + 2 * b) ∧ S (113 + 2 * b) < S 0
def rtZ (x y : Nat → Int) (S : Nat → Int) : Prop := ∀ b : Nat, (b : Int) < S 7 → x b = S (120 + 2 * b) ∧ y b = S (121 + 2 * b)
def rtW (x y z r : Nat → Int) (S : Nat → Int) : Prop := ∀ w : Nat, (w : Int) < S 5 → x w = S (128 + 4 * w) ∧ y w = S (129 + 4 * w) ∧ z w = S (130 + 4 * w) ∧ r w = S (131 + 4 * w) ∧ (0 ≤ S (128 + 4 * w) ∧ S (128 + 4 * w) < S 4) ∧ (0 ≤ S (129 + 4 * w) ∧ S (129 + 4 * w) < S 0) ∧ (0 ≤ S (130 + 4 * w) ∧ S (130 + 4 * w) ≤ 99) ∧ 0 ≤ S (131 + 4 * w) ∧ S (131 + 4 * w) ≤ 99
def RT (u : hS) (t : Nat) (S : Nat → Int) : Prop := rtC u t S ∧ rtR S ∧ rtP (hV u (t + 11)) (hV u (t + 12)) S ∧ rtB (hV u (t + 2)) (hV u (t + 3)) (hV u (t + 4)) S ∧ rtF (hV u (t + 6)) (hV u (t + 7)) S ∧ rtZ (hV u (t + 9)) (hV u (t + 10)) S ∧ rtW (hV u (t + 13)) (hV u (t + 14)) (hV u (t + 15)) (hV u (t + 16)) S
theorem rtP.cg {x y S S' : Nat → Int} (h : rtP x y S) (a4 : S 4 ≤ 4) (e : ∀ i, i = 0 ∨ i = 1 ∨ i = 4 ∨ 10 ≤ i ∧ i < 94 → S' i = S i) : rtP x y S' := by
  intro p
  have e0 := e 0 (by omega)
  have e1 := e 1 (by omega)
  have e4 := e 4 (by omega)
  rw [e0, e1, e4]
  refine ⟨fun k => ?_, (h p).2⟩
  have hp : p < 4 := by omega
  obtain ⟨a, b⟩ := (h p).1 k
  rw [e (11 + 3 * p) (by omega), e (10 + 3 * p) (by omega), e (12 + 3 * p) (by omega)]
  refine ⟨a, fun b' hb => ?_⟩
  rw [e (22 + 9 * p + b') (by omega), e (58 + 9 * p + b') (by omega)]
  exact b b' hb
theorem accN_cg {f g : Nat → Int → Int} : ∀ (k i : Nat) (a : Int), (∀ c a, i ≤ c → c < i + k → f c a = g c a) → accN f k i a = accN g k i a := by
  intro k
  induction k with
  | zero => exact fun _ _ _ => rfl
  | succ k ih =>
    intro i a h
    rw [accN_s, accN_s, h i a (by omega) (by omega)]
    exact ih (i + 1) _ (fun c a h1 h2 => h c a (by omega) (by omega))
theorem qTwin_cg {S S' : Nat → Int} {b : Nat} (e : ∀ i, 94 ≤ i → i < 96 + 2 * b → S' i = S i) : qTwin S' b = qTwin S b := by
  unfold qTwin
  refine accN_cg _ _ _ (fun c a _ h => ?_)
  unfold qEnd
  rw [e (94 + 2 * c) (by omega) (by omega), e (94 + 2 * c + 1) (by omega) (by omega), e (94 + 2 * b) (by omega) (by omega), e (95 + 2 * b) (by omega) (by omega)]
theorem rtB.cg {x y w S S' : Nat → Int} (h : rtB x y w S) (b9 : S 2 ≤ 9) (e : ∀ i, i = 0 ∨ i = 2 ∨ 94 ≤ i ∧ i < 112 → S' i = S i) : rtB x y w S' := by
  intro b
  rw [e 0 (by omega), e 2 (by omega)]
  intro k
  rw [e (94 + 2 * b) (by omega), e (95 + 2 * b) (by omega), qTwin_cg (S' := S') (S := S) (fun i h1 h2 => e i (by omega))]
  exact h b k
theorem rtF.cg {x y S S' : Nat → Int} (h : rtF x y S) (b9 : S 3 ≤ 4) (e : ∀ i, i = 0 ∨ i = 3 ∨ 112 ≤ i ∧ i < 120 → S' i = S i) : rtF x y S' := by
  intro b
  rw [e 0 (by omega), e 3 (by omega)]
  intro k
  rw [e (112 + 2 * b) (by omega), e (113 + 2 * b) (by omega)]
  exact h b k
theorem rtZ.cg {x y S S' : Nat → Int} (h : rtZ x y S) (b9 : S 7 ≤ 4) (e : ∀ i, i = 7 ∨ 120 ≤ i ∧ i < 128 → S' i = S i) : rtZ x y S' := by
  intro b
  rw [e 7 (by omega)]
  intro k
  rw [e (120 + 2 * b) (by omega), e (121 + 2 * b) (by omega)]
  exact h b k
theorem rtW.cg {x y z r S S' : Nat → Int} (h : rtW x y z r S) (b9 : S 5 ≤ 8) (q4 : S 4 ≤ S' 4) (e : ∀ i, i = 0 ∨ i = 5 ∨ 128 ≤ i ∧ i < 160 → S' i = S i) : rtW x y z r S' := by
  intro b
  rw [e 0 (by omega), e 5 (by omega)]
  intro k
  obtain ⟨a1, a2, a3, a4, a5, a6⟩ := h b k
  rw [e (128 + 4 * b) (by omega), e (129 + 4 * b) (by omega), e (130 + 4 * b) (by omega), e (131 + 4 * b) (by omega)]
  exact ⟨a1, a2, a3, a4, ⟨a5.1, by omega⟩, a6⟩
/-- where only the rows of t may differ -/
def frT (t : Nat) (u v : hS) : Prop := (hB v = hB u ∧ hK v = hK u ∧ hN v = hN u ∧ hF v = hF u) ∧ ∀ a, a < t ∨ t + 17 < a → hV v a = hV u a
theorem frT.rf (t : Nat) (u : hS) : frT t u u := ⟨⟨rfl, rfl, rfl, rfl⟩, fun _ _ => rfl⟩
theorem frT.set {t : Nat} {u v : hS} (h : frT t u v) {a i : Nat} {x : Int} (h0 : t ≤ a) (h1 : a ≤ t + 17) : frT t u (hsetV v a i x) := ⟨h.1, fun b hb => by rw [hV_ne (by omega)]; exact h.2 b hb⟩
theorem frT.tr {t : Nat} {u v w : hS} (h : frT t u v) (k : frT t v w) : frT t u w := ⟨⟨k.1.1.trans h.1.1, k.1.2.1.trans h.1.2.1, k.1.2.2.1.trans h.1.2.2.1, k.1.2.2.2.trans h.1.2.2.2⟩, fun a ha => (k.2 a ha).trans (h.2 a ha)⟩
theorem RT.town {u : hS} {t : Nat} {S : Nat → Int} (h : RT u t S) (z : S 0 = 0) {a b : Int} (a0 : 2 ≤ a ∧ a ≤ 8) (b0 : 1 ≤ b ∧ b ≤ 5) : RT (hsetV (hsetV u t 0 a) t 1 b) t (sup (sup S 1 b) 0 a) := by
  obtain ⟨⟨c0, c1, c2, c3, c4, c5, c7⟩, ⟨cn, s6, s1, s01⟩, hP, hB, hF, hZ, hW⟩ := h
  obtain ⟨⟨x0, x8⟩, ⟨b0', b9⟩, ⟨f0, f4⟩, ⟨a0', a4⟩, ⟨w0, w8⟩, r0, r4⟩ := id cn
  have e : ∀ i, i ≠ 0 → i ≠ 1 → sup (sup S 1 b) 0 a i = S i := fun i h0 h1 => by rw [sup_n h0, sup_n h1]
  have e0 : sup (sup S 1 b) 0 a 0 = a := sup_s
  have e1 : sup (sup S 1 b) 0 a 1 = b := by rw [sup_n (by decide), sup_s]
  have n4 : S 4 ≤ 0 := by
    apply Classical.byContradiction
    intro k
    have := ((hP 0).1 (by omega)).1.2.2.2
    omega
  have n2 : S 2 ≤ 0 := by
    apply Classical.byContradiction
    intro k
    have := (hB 0 (by omega)).2.2.2.2.1
    omega
  have n3 : S 3 ≤ 0 := by
    apply Classical.byContradiction
    intro k
    have := (hF 0 (by omega)).2.2.1
    omega
  have n5 : S 5 ≤ 0 := by
    apply Classical.byContradiction
    intro k
    have := (hW 0 (by omega)).2.2.2.2.1
    omega
  have r : ∀ a', a' ≠ t → hV (hsetV (hsetV u t 0 a) t 1 b) a' = hV u a' := fun a' k => by rw [hV_ne k, hV_ne k]
  refine ⟨?_, ?_, ?_, ?_, ?_, ?_, ?_⟩
  · unfold rtC
    rw [e0, e1, e 2 (by decide) (by decide), e 3 (by decide) (by decide), e 4 (by decide) (by decide), e 5 (by decide) (by decide), e 7 (by decide) (by decide), r (t + 1) (by omega), r (t + 5) (by omega), hV_setV_i (by decide), hV_setV_s, hV_setV_s, hV_setV_i (by decide), hV_setV_i (by decide), hV_setV_i (by decide), hV_setV_i (by decide), hV_setV_i (by decide), hV_setV_i (by decide)]
    exact ⟨rfl, rfl, c2, c3, c4, c5, c7⟩
  · unfold rtR cnS
    rw [e0, e1, e 2 (by decide) (by decide), e 3 (by decide) (by decide), e 4 (by decide) (by decide), e 5 (by decide) (by decide), e 6 (by decide) (by decide), e 7 (by decide) (by decide)]
    omega
  · rw [r _ (by omega), r _ (by omega)]
    intro p
    rw [e 4 (by decide) (by decide)]
    exact ⟨fun k => by omega, (hP p).2⟩
  · intro p
    rw [e 2 (by decide) (by decide)]
    exact fun k => by omega
  · intro p
    rw [e 3 (by decide) (by decide)]
    exact fun k => by omega
  · rw [r _ (by omega), r _ (by omega)]
    exact hZ.cg r4 (fun i hi => e i (by omega) (by omega))
  · intro p
    rw [e 5 (by decide) (by decide)]
    exact fun k => by omega
theorem RT.frost {u : hS} {t k : Nat} {S : Nat → Int} (h : RT u t S) (hk : S 7 = (k : Int)) (k4 : k < 4) {a b : Int} : RT (frostM u t k a b) t (sup (sup (sup S (120 + 2 * k) a) (120 + 2 * k + 1) b) 7 ((k + 1 : Nat) : Int)) := by
  obtain ⟨⟨c0, c1, c2, c3, c4, c5, c7⟩, ⟨cn, s6, s1, s01⟩, hP, hB, hF, hZ, hW⟩ := h
  obtain ⟨⟨x0, x8⟩, ⟨b0', b9⟩, ⟨f0, f4⟩, ⟨a0', a4⟩, ⟨w0, w8⟩, r0, r4⟩ := id cn
  have e : ∀ i, i ≠ 7 → (i < 120 ∨ 128 ≤ i) → sup (sup (sup S (120 + 2 * k) a) (120 + 2 * k + 1) b) 7 ((k + 1 : Nat) : Int) i = S i := fun i h0 h1 => by rw [sup_n h0, sup_n (by omega), sup_n (by omega)]
  have e7 : sup (sup (sup S (120 + 2 * k) a) (120 + 2 * k + 1) b) 7 ((k + 1 : Nat) : Int) 7 = ((k + 1 : Nat) : Int) := sup_s
  have r : ∀ a', a' ≠ t → a' ≠ t + 9 → a' ≠ t + 10 → hV (frostM u t k a b) a' = hV u a' := fun a' k1 k2 k3 => by
    unfold frostM
    rw [hV_ne k1, hV_ne k3, hV_ne k2]
  have rt : ∀ i, i ≠ 4 → hV (frostM u t k a b) t i = hV u t i := fun i hi => by
    unfold frostM
    rw [hV_setV_i hi, hV_ne (by omega), hV_ne (by omega)]
  refine ⟨?_, ?_, ?_, ?_, ?_, ?_, ?_⟩
  · unfold rtC
    rw [e 0 (by decide) (by decide), e 1 (by decide) (by decide), e 2 (by decide) (by decide), e 3 (by decide) (by decide), e 4 (by decide) (by decide), e 5 (by decide) (by decide), e7, r (t + 1) (by omega) (by omega) (by omega), r (t + 5) (by omega) (by omega) (by omega), rt 0 (by decide), rt 1 (by decide), rt 7 (by decide), rt 10 (by decide)]
    exact ⟨c0, c1, c2, c3, c4, c5, hV_setV_s _ _ _ _⟩
  · unfold rtR cnS
    rw [e 0 (by decide) (by decide), e 1 (by decide) (by decide), e 2 (by decide) (by decide), e 3 (by decide) (by decide), e 4 (by decide) (by decide), e 5 (by decide) (by decide), e 6 (by decide) (by decide), e7]
    exact ⟨⟨⟨x0, x8⟩, ⟨b0', b9⟩, ⟨f0, f4⟩, ⟨a0', a4⟩, ⟨w0, w8⟩, by omega, by omega⟩, s6, s1, s01⟩
  · rw [r _ (by omega) (by omega) (by omega), r _ (by omega) (by omega) (by omega)]
    exact hP.cg a4 (fun i hi => e i (by omega) (by omega))
  · rw [r _ (by omega) (by omega) (by omega), r _ (by omega) (by omega) (by omega), r _ (by omega) (by omega) (by omega)]
    exact hB.cg b9 (fun i hi => e i (by omega) (by omega))
  · rw [r _ (by omega) (by omega) (by omega), r _ (by omega) (by omega) (by omega)]
    exact hF.cg f4 (fun i hi => e i (by omega) (by omega))
  · intro c hc
    rw [e7] at hc
    unfold frostM
    rw [hV_ne (show t + 9 ≠ t by omega), hV_ne (show t + 9 ≠ t + 10 by omega), hV_ne (show t + 10 ≠ t by omega), sup_n (show 120 + 2 * c ≠ 7 by omega), sup_n (show 121 + 2 * c ≠ 7 by omega)]
    by_cases ck : c = k
    · subst ck
      rw [hV_setV_s, hV_setV_s, sup_n (by omega), sup_s, show 121 + 2 * c = 120 + 2 * c + 1 by omega, sup_s]
      exact ⟨rfl, rfl⟩
    · simp only [hV_setV_i ck]
      rw [sup_n (by omega), sup_n (by omega), sup_n (by omega), sup_n (by omega)]
      exact hZ c (by omega)
  · rw [r _ (by omega) (by omega) (by omega), r _ (by omega) (by omega) (by omega), r _ (by omega) (by omega) (by omega), r _ (by omega) (by omega) (by omega)]
    exact hW.cg w8 (by rw [e 4 (by decide) (by decide)]; exact Int.le_refl _) (fun i hi => e i (by omega) (by omega))
theorem RT.want {u : hS} {t k : Nat} {S : Nat → Int} (h : RT u t S) (hk : S 5 = (k : Int)) (k4 : k < 8) {a b c d : Int} (ha : 0 ≤ a ∧ a < S 4) (hb : 0 ≤ b ∧ b < S 0) (hc : 0 ≤ c ∧ c ≤ 99) (hd : 0 ≤ d ∧ d ≤ 99) : RT (wantM u t k a b c d) t (sup (sup (sup (sup (sup S (128 + 4 * k) a) (128 + 4 * k + 1) b) (128 + 4 * k + 2) c) (128 + 4 * k + 3) d) 5 ((k + 1 : Nat) : Int)) := by
  obtain ⟨⟨c0, c1, c2, c3, c4, c5, c7⟩, ⟨cn, s6, s1, s01⟩, hP, hB, hF, hZ, hW⟩ := h
  obtain ⟨⟨x0, x8⟩, ⟨b0', b9⟩, ⟨f0, f4⟩, ⟨a0', a4⟩, ⟨w0, w8⟩, r0, r4⟩ := id cn
  have e : ∀ i, i ≠ 5 → i < 128 → sup (sup (sup (sup (sup S (128 + 4 * k) a) (128 + 4 * k + 1) b) (128 + 4 * k + 2) c) (128 + 4 * k + 3) d) 5 ((k + 1 : Nat) : Int) i = S i := fun i h0 h1 => by rw [sup_n h0, sup_n (by omega), sup_n (by omega), sup_n (by omega), sup_n (by omega)]
  have e7 : sup (sup (sup (sup (sup S (128 + 4 * k) a) (128 + 4 * k + 1) b) (128 + 4 * k + 2) c) (128 + 4 * k + 3) d) 5 ((k + 1 : Nat) : Int) 5 = ((k + 1 : Nat) : Int) := sup_s
  have r : ∀ a', a' ≠ t → a' ≠ t + 13 → a' ≠ t + 14 → a' ≠ t + 15 → a' ≠ t + 16 → hV (wantM u t k a b c d) a' = hV u a' := fun a' k1 k2 k3 k4 k5 => by
    unfold wantM
    rw [hV_ne k1, hV_ne k5, hV_ne k4, hV_ne k3, hV_ne k2]
  have rt : ∀ i, i ≠ 10 → hV (wantM u t k a b c d) t i = hV u t i := fun i hi => by
    unfold wantM
    rw [hV_setV_i hi, hV_ne (by omega), hV_ne (by omega), hV_ne (by omega), hV_ne (by omega)]
  have r' : ∀ j, j < 13 → 0 < j → hV (wantM u t k a b c d) (t + j) = hV u (t + j) := fun j h1 h2 => r _ (by omega) (by omega) (by omega) (by omega) (by omega)
  refine ⟨?_, ?_, ?_, ?_, ?_, ?_, ?_⟩
  · unfold rtC
    rw [e 0 (by decide) (by decide), e 1 (by decide) (by decide), e 2 (by decide) (by decide), e 3 (by decide) (by decide), e 4 (by decide) (by decide), e 7 (by decide) (by decide), e7, r' 1 (by decide) (by decide), r' 5 (by decide) (by decide), rt 0 (by decide), rt 1 (by decide), rt 7 (by decide), rt 4 (by decide)]
    exact ⟨c0, c1, c2, c3, c4, hV_setV_s _ _ _ _, c7⟩
  · unfold rtR cnS
    rw [e 0 (by decide) (by decide), e 1 (by decide) (by decide), e 2 (by decide) (by decide), e 3 (by decide) (by decide), e 4 (by decide) (by decide), e 7 (by decide) (by decide), e 6 (by decide) (by decide), e7]
    exact ⟨⟨⟨x0, x8⟩, ⟨b0', b9⟩, ⟨f0, f4⟩, ⟨a0', a4⟩, ⟨by omega, by omega⟩, r0, r4⟩, s6, s1, s01⟩
  · rw [r' _ (by decide) (by decide), r' _ (by decide) (by decide)]
    exact hP.cg a4 (fun i hi => e i (by omega) (by omega))
  · rw [r' _ (by decide) (by decide), r' _ (by decide) (by decide), r' _ (by decide) (by decide)]
    exact hB.cg b9 (fun i hi => e i (by omega) (by omega))
  · rw [r' _ (by decide) (by decide), r' _ (by decide) (by decide)]
    exact hF.cg f4 (fun i hi => e i (by omega) (by omega))
  · rw [r' _ (by decide) (by decide), r' _ (by decide) (by decide)]
    exact hZ.cg r4 (fun i hi => e i (by omega) (by omega))
  · intro w hw
    rw [e7] at hw
    rw [e 0 (by decide) (by decide), e 4 (by decide) (by decide)]
    unfold wantM
    rw [hV_ne (show t + 13 ≠ t by omega), hV_ne (show t + 13 ≠ t + 16 by omega), hV_ne (show t + 13 ≠ t + 15 by omega), hV_ne (show t + 13 ≠ t + 14 by omega), hV_ne (show t + 14 ≠ t by omega), hV_ne (show t + 14 ≠ t + 16 by omega), hV_ne (show t + 14 ≠ t + 15 by omega), hV_ne (show t + 15 ≠ t by omega), hV_ne (show t + 15 ≠ t + 16 by omega), hV_ne (show t + 16 ≠ t by omega)]
    rw [sup_n (show 128 + 4 * w ≠ 5 by omega), sup_n (show 129 + 4 * w ≠ 5 by omega), sup_n (show 130 + 4 * w ≠ 5 by omega), sup_n (show 131 + 4 * w ≠ 5 by omega)]
    by_cases ck : w = k
    · subst ck
      rw [hV_setV_s, hV_setV_s, hV_setV_s, hV_setV_s, show 129 + 4 * w = 128 + 4 * w + 1 by omega, show 130 + 4 * w = 128 + 4 * w + 2 by omega, show 131 + 4 * w = 128 + 4 * w + 3 by omega]
      rw [sup_n (show 128 + 4 * w ≠ 128 + 4 * w + 3 by omega), sup_n (show 128 + 4 * w ≠ 128 + 4 * w + 2 by omega), sup_n (show 128 + 4 * w ≠ 128 + 4 * w + 1 by omega), sup_s, sup_n (show 128 + 4 * w + 1 ≠ 128 + 4 * w + 3 by omega), sup_n (show 128 + 4 * w + 1 ≠ 128 + 4 * w + 2 by omega), sup_s, sup_n (show 128 + 4 * w + 2 ≠ 128 + 4 * w + 3 by omega), sup_s, sup_s]
      exact ⟨rfl, rfl, rfl, rfl, ha, hb, hc, hd⟩
    · have o : ∀ j, 128 + 4 * w ≤ j → j ≤ 131 + 4 * w → sup (sup (sup (sup S (128 + 4 * k) a) (128 + 4 * k + 1) b) (128 + 4 * k + 2) c) (128 + 4 * k + 3) d j = S j := fun j h1 h2 => by
        rw [sup_n (by omega), sup_n (by omega), sup_n (by omega), sup_n (by omega)]
      simp only [hV_setV_i ck]
      rw [o _ (by omega) (by omega), o _ (by omega) (by omega), o _ (by omega) (by omega), o _ (by omega) (by omega)]
      exact hW w (by omega)
theorem RT.person {u : hS} {t k : Nat} {S : Nat → Int} (h : RT u t S) (hk : S 4 = (k : Int)) (k4 : k < 4) {a : Int} (ha : 0 ≤ a ∧ a < S 0) : RT (personM u t k a) t (sup (zL (sup (sup (sup S (10 + 3 * k) a) (10 + 3 * k + 1) a) (10 + 3 * k + 2) 0) k 9) 4 ((k + 1 : Nat) : Int)) := by
  obtain ⟨⟨c0, c1, c2, c3, c4, c5, c7⟩, ⟨cn, s6, s1, s01⟩, hP, hB, hF, hZ, hW⟩ := h
  obtain ⟨⟨x0, x8⟩, ⟨b0', b9⟩, ⟨f0, f4⟩, ⟨a0', a4⟩, ⟨w0, w8⟩, r0, r4⟩ := id cn
  generalize hS' : sup (zL (sup (sup (sup S (10 + 3 * k) a) (10 + 3 * k + 1) a) (10 + 3 * k + 2) 0) k 9) 4 ((k + 1 : Nat) : Int) = S'
  have e : ∀ i, i ≠ 4 → (i < 10 + 3 * k ∨ 10 + 3 * k + 2 < i) → (i < 22 + 9 * k ∨ 31 + 9 * k ≤ i) → (i < 58 + 9 * k ∨ 67 + 9 * k ≤ i) → S' i = S i := fun i h0 h1 h2 h3 => by
    rw [← hS', sup_n h0]
    unfold zL
    rw [if_neg (by omega), sup_n (by omega), sup_n (by omega), sup_n (by omega)]
  have e4 : S' 4 = ((k + 1 : Nat) : Int) := by rw [← hS', sup_s]
  have z1 : ∀ b, b < 9 → S' (22 + 9 * k + b) = 0 := fun b hb => by
    rw [← hS', sup_n (by omega)]
    unfold zL
    rw [if_pos (by omega)]
  have z2 : ∀ b, b < 9 → S' (58 + 9 * k + b) = 0 := fun b hb => by
    rw [← hS', sup_n (by omega)]
    unfold zL
    rw [if_pos (by omega)]
  have z3 : ∀ j, 10 + 3 * k ≤ j → j ≤ 12 + 3 * k → S' j = sup (sup (sup S (10 + 3 * k) a) (10 + 3 * k + 1) a) (10 + 3 * k + 2) 0 j := fun j h1 h2 => by
    rw [← hS', sup_n (by omega)]
    unfold zL
    rw [if_neg (by omega)]
  have r : ∀ a', a' ≠ t → a' ≠ t + 11 → hV (personM u t k a) a' = hV u a' := fun a' k1 k2 => by
    unfold personM
    rw [hV_ne k1, hV_ne k2]
  have rt : ∀ i, i ≠ 7 → hV (personM u t k a) t i = hV u t i := fun i hi => by
    unfold personM
    rw [hV_setV_i hi, hV_ne (by omega)]
  have lo : ∀ i, i ≠ 4 → i < 10 → S' i = S i := fun i h0 h1 => e i h0 (by omega) (by omega) (by omega)
  have hi' : ∀ i, 94 ≤ i → S' i = S i := fun i h0 => e i (by omega) (by omega) (by omega) (by omega)
  refine ⟨?_, ?_, ?_, ?_, ?_, ?_, ?_⟩
  · unfold rtC
    rw [lo 0 (by decide) (by decide), lo 1 (by decide) (by decide), lo 2 (by decide) (by decide), lo 3 (by decide) (by decide), lo 5 (by decide) (by decide), lo 7 (by decide) (by decide), e4, r (t + 1) (by omega) (by omega), r (t + 5) (by omega) (by omega), rt 0 (by decide), rt 1 (by decide), rt 10 (by decide), rt 4 (by decide)]
    exact ⟨c0, c1, c2, c3, hV_setV_s _ _ _ _, c5, c7⟩
  · unfold rtR cnS
    rw [lo 0 (by decide) (by decide), lo 1 (by decide) (by decide), lo 2 (by decide) (by decide), lo 3 (by decide) (by decide), lo 5 (by decide) (by decide), lo 6 (by decide) (by decide), lo 7 (by decide) (by decide), e4]
    exact ⟨⟨⟨x0, x8⟩, ⟨b0', b9⟩, ⟨f0, f4⟩, ⟨by omega, by omega⟩, ⟨w0, w8⟩, r0, r4⟩, s6, s1, s01⟩
  · rw [r (t + 12) (by omega) (by omega)]
    intro p
    rw [e4, lo 0 (by decide) (by decide), lo 1 (by decide) (by decide)]
    refine ⟨fun hp => ?_, fun hp b hb => (hP p).2 (by omega) b hb⟩
    unfold personM
    rw [hV_ne (show t + 11 ≠ t by omega)]
    by_cases pk : p = k
    · subst pk
      rw [hV_setV_s, z3 (11 + 3 * p) (by omega) (by omega), z3 (10 + 3 * p) (by omega) (by omega), z3 (12 + 3 * p) (by omega) (by omega)]
      rw [show 11 + 3 * p = 10 + 3 * p + 1 by omega, show 12 + 3 * p = 10 + 3 * p + 2 by omega]
      rw [sup_n (show 10 + 3 * p + 1 ≠ 10 + 3 * p + 2 by omega), sup_s, sup_n (show 10 + 3 * p ≠ 10 + 3 * p + 2 by omega), sup_n (show 10 + 3 * p ≠ 10 + 3 * p + 1 by omega), sup_s, sup_s]
      refine ⟨⟨rfl, rfl, rfl, ha⟩, fun b hb => ?_⟩
      rw [z1 b hb, z2 b hb, (hP p).2 (by omega) b hb]
      exact ⟨rfl, by omega, by omega, rfl⟩
    · have o := (hP p).1 (by omega)
      rw [hV_setV_i pk, e (11 + 3 * p) (by omega) (by omega) (by omega) (by omega), e (10 + 3 * p) (by omega) (by omega) (by omega) (by omega), e (12 + 3 * p) (by omega) (by omega) (by omega) (by omega)]
      refine ⟨o.1, fun b hb => ?_⟩
      rw [e (22 + 9 * p + b) (by omega) (by omega) (by omega) (by omega), e (58 + 9 * p + b) (by omega) (by omega) (by omega) (by omega)]
      exact o.2 b hb
  · rw [r _ (by omega) (by omega), r _ (by omega) (by omega), r _ (by omega) (by omega)]
    exact hB.cg b9 (fun i hi => by rcases hi with rfl | rfl | h <;> first | exact lo _ (by decide) (by decide) | exact hi' _ (by omega))
  · rw [r _ (by omega) (by omega), r _ (by omega) (by omega)]
    exact hF.cg f4 (fun i hi => by rcases hi with rfl | rfl | h <;> first | exact lo _ (by decide) (by decide) | exact hi' _ (by omega))
  · rw [r _ (by omega) (by omega), r _ (by omega) (by omega)]
    exact hZ.cg r4 (fun i hi => by rcases hi with rfl | h <;> first | exact lo _ (by decide) (by decide) | exact hi' _ (by omega))
  · rw [r _ (by omega) (by omega), r _ (by omega) (by omega), r _ (by omega) (by omega), r _ (by omega) (by omega)]
    exact hW.cg w8 (by rw [e4, hk]; omega) (fun i hi => by rcases hi with rfl | rfl | h <;> first | exact lo _ (by decide) (by decide) | exact hi' _ (by omega))
theorem RT.crossed {u : hS} {t x y : Nat} {S : Nat → Int} (h : RT u t S) (hx : (x : Int) < S 4) (hy : y < 9) {a : Int} (ha : 0 ≤ a ∧ a ≤ S 1) : RT (hsetV u (t + 12) (9 * x + y) a) t (sup S (22 + 9 * x + y) a) := by
  obtain ⟨⟨c0, c1, c2, c3, c4, c5, c7⟩, ⟨cn, s6, s1, s01⟩, hP, hB, hF, hZ, hW⟩ := h
  obtain ⟨⟨x0, x8⟩, ⟨b0', b9⟩, ⟨f0, f4⟩, ⟨a0', a4⟩, ⟨w0, w8⟩, r0, r4⟩ := id cn
  have e : ∀ i, i < 22 ∨ 58 ≤ i → sup S (22 + 9 * x + y) a i = S i := fun i h0 => by rw [sup_n (by omega)]
  have r : ∀ a', a' ≠ t + 12 → hV (hsetV u (t + 12) (9 * x + y) a) a' = hV u a' := fun a' k1 => by rw [hV_ne k1]
  refine ⟨?_, ?_, ?_, ?_, ?_, ?_, ?_⟩
  · unfold rtC
    rw [e 0 (by decide), e 1 (by decide), e 2 (by decide), e 3 (by decide), e 4 (by decide), e 5 (by decide), e 7 (by decide), r _ (by omega), r _ (by omega), r _ (by omega)]
    exact ⟨c0, c1, c2, c3, c4, c5, c7⟩
  · unfold rtR cnS
    rw [e 0 (by decide), e 1 (by decide), e 2 (by decide), e 3 (by decide), e 4 (by decide), e 5 (by decide), e 6 (by decide), e 7 (by decide)]
    exact ⟨cn, s6, s1, s01⟩
  · rw [r (t + 11) (by omega)]
    intro p
    rw [e 0 (by decide), e 1 (by decide), e 4 (by decide)]
    refine ⟨fun hp => ?_, fun hp b hb => ?_⟩
    · have o := (hP p).1 hp
      rw [e (11 + 3 * p) (by omega), e (10 + 3 * p) (by omega), e (12 + 3 * p) (by omega)]
      refine ⟨o.1, fun b hb => ?_⟩
      rw [e (58 + 9 * p + b) (by omega)]
      by_cases g : 9 * p + b = 9 * x + y
      · rw [g, show 22 + 9 * p + b = 22 + 9 * x + y by omega, hV_setV_s, sup_s]
        exact ⟨rfl, ha.1, ha.2, (o.2 b hb).2.2.2⟩
      · rw [hV_setV_i g, sup_n (by omega)]
        exact o.2 b hb
    · rw [hV_setV_i (by omega)]
      exact (hP p).2 hp b hb
  · rw [r _ (by omega), r _ (by omega), r _ (by omega)]
    exact hB.cg b9 (fun i hi => e i (by omega))
  · rw [r _ (by omega), r _ (by omega)]
    exact hF.cg f4 (fun i hi => e i (by omega))
  · rw [r _ (by omega), r _ (by omega)]
    exact hZ.cg r4 (fun i hi => e i (by omega))
  · rw [r _ (by omega), r _ (by omega), r _ (by omega), r _ (by omega)]
    exact hW.cg w8 (by rw [e 4 (by decide)]; exact Int.le_refl _) (fun i hi => e i (by omega))
theorem RT.ferry {u : hS} {t k : Nat} {S : Nat → Int} (h : RT u t S) (hk : S 3 = (k : Int)) (k4 : k < 4) {a b : Int} (ha : 0 ≤ a ∧ a < S 0) (hb : 0 ≤ b ∧ b < S 0) : RT (lkM u (t + 5) k a b) t (sup (sup (sup S (112 + 2 * k) a) (112 + 2 * k + 1) b) 3 ((k + 1 : Nat) : Int)) := by
  obtain ⟨⟨c0, c1, c2, c3, c4, c5, c7⟩, ⟨cn, s6, s1, s01⟩, hP, hB, hF, hZ, hW⟩ := h
  obtain ⟨⟨x0, x8⟩, ⟨b0', b9⟩, ⟨f0, f4⟩, ⟨a0', a4⟩, ⟨w0, w8⟩, r0, r4⟩ := id cn
  have e : ∀ i, i ≠ 3 → (i < 112 ∨ 120 ≤ i) → sup (sup (sup S (112 + 2 * k) a) (112 + 2 * k + 1) b) 3 ((k + 1 : Nat) : Int) i = S i := fun i h0 h1 => by rw [sup_n h0, sup_n (by omega), sup_n (by omega)]
  have e7 : sup (sup (sup S (112 + 2 * k) a) (112 + 2 * k + 1) b) 3 ((k + 1 : Nat) : Int) 3 = ((k + 1 : Nat) : Int) := sup_s
  have r : ∀ a', (a' < t + 5 ∨ t + 8 < a') → hV (lkM u (t + 5) k a b) a' = hV u a' := fun a' k1 => by
    unfold lkM
    rw [hV_ne (by omega), hV_ne (by omega), hV_ne (by omega), hV_ne (by omega)]
  refine ⟨?_, ?_, ?_, ?_, ?_, ?_, ?_⟩
  · unfold rtC
    rw [e 0 (by decide) (by decide), e 1 (by decide) (by decide), e 2 (by decide) (by decide), e 4 (by decide) (by decide), e 5 (by decide) (by decide), e 7 (by decide) (by decide), e7, r (t + 1) (by omega), r t (by omega)]
    exact ⟨c0, c1, c2, hV_setV_s _ _ _ _, c4, c5, c7⟩
  · unfold rtR cnS
    rw [e 0 (by decide) (by decide), e 1 (by decide) (by decide), e 2 (by decide) (by decide), e 4 (by decide) (by decide), e 5 (by decide) (by decide), e 6 (by decide) (by decide), e 7 (by decide) (by decide), e7]
    exact ⟨⟨⟨x0, x8⟩, ⟨b0', b9⟩, ⟨by omega, by omega⟩, ⟨a0', a4⟩, ⟨w0, w8⟩, r0, r4⟩, s6, s1, s01⟩
  · rw [r _ (by omega), r _ (by omega)]
    exact hP.cg a4 (fun i hi => e i (by omega) (by omega))
  · rw [r _ (by omega), r _ (by omega), r _ (by omega)]
    exact hB.cg b9 (fun i hi => e i (by omega) (by omega))
  · intro c hc
    rw [e7] at hc
    rw [e 0 (by decide) (by decide)]
    unfold lkM
    rw [hV_ne (show t + 6 ≠ t + 5 by omega), hV_ne (show t + 6 ≠ t + 5 + 3 by omega), hV_ne (show t + 6 ≠ t + 5 + 2 by omega), hV_ne (show t + 7 ≠ t + 5 by omega), hV_ne (show t + 7 ≠ t + 5 + 3 by omega), sup_n (show 112 + 2 * c ≠ 3 by omega), sup_n (show 113 + 2 * c ≠ 3 by omega), show t + 6 = t + 5 + 1 by omega, show t + 7 = t + 5 + 2 by omega]
    by_cases ck : c = k
    · subst ck
      rw [hV_setV_s, hV_setV_s, sup_n (by omega), sup_s, show 113 + 2 * c = 112 + 2 * c + 1 by omega, sup_s]
      exact ⟨rfl, rfl, ha, hb⟩
    · simp only [hV_setV_i ck]
      rw [sup_n (by omega), sup_n (by omega), sup_n (by omega), sup_n (by omega)]
      exact hF c (by omega)
  · rw [r _ (by omega), r _ (by omega)]
    exact hZ.cg r4 (fun i hi => e i (by omega) (by omega))
  · rw [r _ (by omega), r _ (by omega), r _ (by omega), r _ (by omega)]
    exact hW.cg w8 (by rw [e 4 (by decide) (by decide)]; exact Int.le_refl _) (fun i hi => e i (by omega) (by omega))
theorem RT.bridge {u : hS} {t k : Nat} {S : Nat → Int} (h : RT u t S) (hk : S 2 = (k : Int)) (k9 : k < 9) {a b : Int} (ha : 0 ≤ a ∧ a < S 0) (hb : 0 ≤ b ∧ b < S 0) (hn : a ≠ b) : RT (lkM u (t + 1) k a b) t (sup (sup (sup S (94 + 2 * k) a) (94 + 2 * k + 1) b) 2 ((k + 1 : Nat) : Int)) := by
  obtain ⟨⟨c0, c1, c2, c3, c4, c5, c7⟩, ⟨cn, s6, s1, s01⟩, hP, hB, hF, hZ, hW⟩ := h
  obtain ⟨⟨x0, x8⟩, ⟨b0', b9⟩, ⟨f0, f4⟩, ⟨a0', a4⟩, ⟨w0, w8⟩, r0, r4⟩ := id cn
  generalize hS' : sup (sup (sup S (94 + 2 * k) a) (94 + 2 * k + 1) b) 2 ((k + 1 : Nat) : Int) = S'
  have e : ∀ i, i ≠ 2 → (i < 94 + 2 * k ∨ 96 + 2 * k ≤ i) → S' i = S i := fun i h0 h1 => by rw [← hS', sup_n h0, sup_n (by omega), sup_n (by omega)]
  have e7 : S' 2 = ((k + 1 : Nat) : Int) := by rw [← hS', sup_s]
  have ea : S' (94 + 2 * k) = a := by rw [← hS', sup_n (by omega), sup_n (by omega), sup_s]
  have eb : S' (95 + 2 * k) = b := by rw [← hS', sup_n (by omega), show 95 + 2 * k = 94 + 2 * k + 1 by omega, sup_s]
  have r : ∀ a', (a' < t + 1 ∨ t + 4 < a') → hV (lkM u (t + 1) k a b) a' = hV u a' := fun a' k1 => by
    unfold lkM
    rw [hV_ne (by omega), hV_ne (by omega), hV_ne (by omega), hV_ne (by omega)]
  refine ⟨?_, ?_, ?_, ?_, ?_, ?_, ?_⟩
  · unfold rtC
    rw [e 0 (by decide) (by omega), e 1 (by decide) (by omega), e 3 (by decide) (by omega), e 4 (by decide) (by omega), e 5 (by decide) (by omega), e 7 (by decide) (by omega), e7, r (t + 5) (by omega), r t (by omega)]
    exact ⟨c0, c1, hV_setV_s _ _ _ _, c3, c4, c5, c7⟩
  · unfold rtR cnS
    rw [e 0 (by decide) (by omega), e 1 (by decide) (by omega), e 3 (by decide) (by omega), e 4 (by decide) (by omega), e 5 (by decide) (by omega), e 6 (by decide) (by omega), e 7 (by decide) (by omega), e7]
    exact ⟨⟨⟨x0, x8⟩, ⟨by omega, by omega⟩, ⟨f0, f4⟩, ⟨a0', a4⟩, ⟨w0, w8⟩, r0, r4⟩, s6, s1, s01⟩
  · rw [r _ (by omega), r _ (by omega)]
    exact hP.cg a4 (fun i hi => e i (by omega) (by omega))
  · intro c hc
    rw [e7] at hc
    rw [e 0 (by decide) (by omega)]
    unfold lkM
    rw [hV_ne (show t + 2 ≠ t + 1 by omega), hV_ne (show t + 2 ≠ t + 1 + 3 by omega), hV_ne (show t + 2 ≠ t + 1 + 2 by omega), hV_ne (show t + 3 ≠ t + 1 by omega), hV_ne (show t + 3 ≠ t + 1 + 3 by omega), hV_ne (show t + 4 ≠ t + 1 by omega), show t + 2 = t + 1 + 1 by omega, show t + 3 = t + 1 + 2 by omega, show t + 4 = t + 1 + 3 by omega]
    by_cases ck : c = k
    · subst ck
      rw [hV_setV_s, hV_setV_s, hV_setV_s, ea, eb]
      refine ⟨rfl, rfl, ?_, hn, ha, hb⟩
      unfold qTwin
      rw [ea, eb]
      refine accN_cg _ _ _ (fun d acc _ hd => ?_)
      have o := hB d (by omega)
      have o1 : hV u (t + 1 + 1) d = S (94 + 2 * d) := o.1
      have o2 : hV u (t + 1 + 2) d = S (94 + 2 * d + 1) := by rw [show 94 + 2 * d + 1 = 95 + 2 * d by omega]; exact o.2.1
      unfold ltw qEnd
      rw [o1, o2, e (94 + 2 * d) (by omega) (by omega), e (94 + 2 * d + 1) (by omega) (by omega)]
    · have o := hB c (by omega)
      simp only [hV_setV_i ck]
      rw [e (94 + 2 * c) (by omega) (by omega), e (95 + 2 * c) (by omega) (by omega), qTwin_cg (S' := S') (S := S) (fun i h1 h2 => e i (by omega) (by omega))]
      exact o
  · rw [r _ (by omega), r _ (by omega)]
    exact hF.cg f4 (fun i hi => e i (by omega) (by omega))
  · rw [r _ (by omega), r _ (by omega)]
    exact hZ.cg r4 (fun i hi => e i (by omega) (by omega))
  · rw [r _ (by omega), r _ (by omega), r _ (by omega), r _ (by omega)]
    exact hW.cg w8 (by rw [e 4 (by decide) (by omega)]; exact Int.le_refl _) (fun i hi => e i (by omega) (by omega))
