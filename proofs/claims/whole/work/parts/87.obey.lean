/-! a person under a rule -/
def nrT (T : Nat → Int) (f o g : Nat) : Int := if T (8 * f + g) = 99 then 99 else w32 (T (8 * f + g) - T (8 * o + g))
/-- one rule's meaning, apart from where it lies -/
def rlC (cd op : Nat → Int) (M C : Nat) (a b e : Nat → Nat) : Prop := M ≤ 400 ∧ C ≤ 12 ∧ (∀ j, j < M → okO (cd j) (op j)) ∧ ∀ c, c < C → clS cd M a b e c
def rxC (u : hS) (q : Nat) (cd op : Nat → Int) (C : Nat) (a b e : Nat → Nat) : Prop := hV u (q + 1) = cd ∧ hV u (q + 2) = op ∧ hV u q 7 = (C : Int) ∧ ∀ c, c < C → hV u (q + 3) c = (a c : Int) ∧ hV u (q + 4) c = (b c : Int) ∧ hV u (q + 5) c = (e c : Int)
def ryC (u : hS) (r : Nat) (cd op : Nat → Int) (M C : Nat) (a b e : Nat → Nat) : Prop := (∀ j, j < M → hV u 222 (400 * r + j) = sgn (cd j) (op j)) ∧ hV u 225 r = (C : Int) ∧ ∀ c, c < C → hV u 224 (48 * r + 4 * c) = (a c : Int) ∧ hV u 224 (48 * r + 4 * c + 1) = (b c : Int) ∧ hV u 224 (48 * r + 4 * c + 2) = (if b c = e c then -1 else (b c : Int)) ∧ hV u 224 (48 * r + 4 * c + 3) = (e c : Int)
def valB (cd op : Nat → Int) (C : Nat) (a b e : Nat → Nat) (T S : Nat → Int) (p k : Nat) : Int := vlS cd op (wds S p k (nrT T (S (10 + 3 * p)).toNat (qEnd S (94 + 2 * k) (S (10 + 3 * p))).toNat (qGoal S p).toNat)) a b e C 0
def canB (S : Nat → Int) (p k : Nat) : Bool := decide (0 ≤ qEnd S (94 + 2 * k) (S (10 + 3 * p)) ∧ 0 < qLeft S p k)
theorem canB_iff {S : Nat → Int} {p k : Nat} : canB S p k = true ↔ qCan S p k := by
  unfold canB qCan
  exact decide_eq_true_iff
def obB (c : Nat → Bool) (V : Nat → Int) : Nat → Nat → Int → Int → Int × Int
  | 0, _, b, m => (b, m)
  | k + 1, i, b, m => if c i = true ∧ m < V i then obB c V k (i + 1) i (V i) else obB c V k (i + 1) b m
theorem obB_s (c : Nat → Bool) (V : Nat → Int) (k i : Nat) (b m : Int) : obB c V (k + 1) i b m = if c i = true ∧ m < V i then obB c V k (i + 1) i (V i) else obB c V k (i + 1) b m := rfl
theorem obB_in {c : Nat → Bool} {V : Nat → Int} : ∀ (k i : Nat) (b m : Int), (b = -1 ∨ ∃ n : Nat, b = n ∧ n < i ∧ c n = true) → ((obB c V k i b m).1 = -1 ∨ ∃ n : Nat, (obB c V k i b m).1 = n ∧ n < i + k ∧ c n = true) := by
  intro k
  induction k with
  | zero =>
    intro i b m h
    exact h
  | succ k ih =>
    intro i b m h
    rw [obB_s]
    by_cases z : c i = true ∧ m < V i
    · rw [if_pos z]
      rcases ih (i + 1) i (V i) (Or.inr ⟨i, rfl, by omega, z.1⟩) with y | ⟨n, y1, y2, y3⟩
      · exact Or.inl y
      · exact Or.inr ⟨n, y1, by omega, y3⟩
    · rw [if_neg z]
      rcases ih (i + 1) b m (by
        rcases h with h | ⟨n, h1, h2, h3⟩
        · exact Or.inl h
        · exact Or.inr ⟨n, h1, by omega, h3⟩) with y | ⟨n, y1, y2, y3⟩
      · exact Or.inl y
      · exact Or.inr ⟨n, y1, by omega, y3⟩
theorem goal_in {S : Nat → Int} (ws : WS S) (wv : WV S) {p : Nat} (hp : (p : Int) < S 4) : 0 ≤ qGoal S p ∧ qGoal S p < S 0 := by
  unfold qGoal
  rcases qWant_in ws p with h | ⟨h, k⟩
  · rw [if_neg (by omega)]
    exact (wv.2.2.1 p hp).2.1
  · rw [if_pos h]
    exact (wv.2.2.2.2 (qWant S p).toNat (by omega)).2.1
theorem x_obL {u : hS} (hs : shp u) {t r M C p : Nat} {S cd op : Nat → Int} {a b e : Nat → Nat} (rf : RepF u 30 t S) (hr : r < 6) (rc : rlC cd op M C a b e) (rx : rxC u (54 + 7 * r) cd op C a b e) (hp : (p : Int) < S 4) : ∀ (k n i : Nat) (bs m : Int) (X Y : Nat → Int), k < n → S 2 = ((i + k : Nat) : Int) → ∃ X' Y', m_X9_obey_L18 n 1 (54 + 7 * r) p bs m (qWant S p) i (hput (hput u 7 Y) (54 + 7 * r + 6) X) = m_X9_obey_L18 1 1 (54 + 7 * r) p (obB (canB S p) (valB cd op C a b e (hV u (t + 17)) S p) k i bs m).1 (obB (canB S p) (valB cd op C a b e (hV u (t + 17)) S p) k i bs m).2 (qWant S p) (S 2) (hput (hput u 7 Y') (54 + 7 * r + 6) X') := by
  obtain ⟨rs, tz, rw0, ws, wv⟩ := id rf
  obtain ⟨hM, hC, oo, cl⟩ := rc
  obtain ⟨x1, x2, x3, x4⟩ := rx
  have w0 := ws.1
  have w2 := ws.2.2.1
  have w4 := ws.2.2.2.2.1
  have ru := (rul_at hs hr).1
  have rXY : ∀ X Y, RepS (hput (hput u 7 Y) (54 + 7 * r + 6) X) 30 t S := fun X Y => (rs.fr (ext.put u 7 Y) (fun a _ _ => agr.put (by omega)) (fun a _ _ => agr.put (by omega))).fr (ext.put _ _ X) (fun a _ _ => agr.put (by omega)) (fun a _ _ => agr.put (by omega))
  have zq := (wv.2.2.1 p hp).1
  obtain ⟨f, hf⟩ : ∃ f : Nat, S (10 + 3 * p) = f := ⟨(S (10 + 3 * p)).toNat, by omega⟩
  have gi := goal_in ws wv hp
  obtain ⟨g, hg⟩ : ∃ g : Nat, qGoal S p = g := ⟨(qGoal S p).toNat, by omega⟩
  have f8 : f < 8 := by omega
  have g8 : g < 8 := by omega
  intro k
  induction k with
  | zero =>
    intro n i bs m X Y hn hv
    obtain ⟨n, rfl⟩ : ∃ k, n = k + 1 := ⟨n - 1, by omega⟩
    have ht := (rXY X Y).ht
    refine ⟨X, Y, ?_⟩
    show _ = m_X9_obey_L18 (0 + 1) 1 (54 + 7 * r) p bs m (qWant S p) (S 2) _
    simp only [m_X9_obey_L18, hif_p, hgR_k, hgI_k, okk_put, nP, fP, kk_1 hs, kk_30 hs, rf_1_3 hs, rs.to, TwA.k0 ht, TwA.k1 ht, TwA.k2 ht, TwA.k3 ht, TwA.k4 ht, TwA.k5 ht, TwA.k6 ht, TwA.k7 ht, TwA.k8 ht, TwA.k9 ht, TwA.k10 ht, TwA.k11 ht, TwA.k12 ht, TwA.k13 ht, TwA.k14 ht, TwA.k15 ht, TwA.k16 ht, TwA.k17 ht, TwA.n2 ht, TwA.n3 ht, TwA.n4 ht, TwA.n6 ht, TwA.n7 ht, TwA.n8 ht, TwA.n9 ht, TwA.n10 ht, TwA.n11 ht, TwA.n12 ht, TwA.n13 ht, TwA.n14 ht, TwA.n15 ht, TwA.n16 ht, TwA.n17 ht, TwA.f2 ht, TwA.f3 ht, TwA.f5 ht, TwA.f6 ht, TwA.f8 ht, TwA.f9 ht, TwA.f11 ht, TwA.f12 ht, TwA.f13 ht, TwA.f14 ht, TwA.f15 ht, TwA.b0 ht, TwA.b1 ht, TwA.b2 ht, TwA.g0 ht, TwA.g1 ht, TwA.g2 ht, (rXY X Y).v2]
    rw [if_pos (by omega), if_pos (Int.le_refl _)]
  | succ k ih =>
    intro n i bs m X Y hn hv
    obtain ⟨n, rfl⟩ : ∃ k, n = k + 1 := ⟨n - 1, by omega⟩
    have r0 := rXY X Y
    have ht := r0.ht
    have hi2 : (i : Int) < S 2 := by omega
    have hsXY : ∀ X Y, shp (hput (hput u 7 Y) (54 + 7 * r + 6) X) := fun X Y => hs
    have cc := x_canCross r0 ws hp hi2 (qEnd_pos wv hi2)
    rw [obB_s]
    by_cases hc : qCan S p i
    case neg =>
      obtain ⟨X', Y', q⟩ := ih n (i + 1) bs m X Y (by omega) (by omega)
      refine ⟨X', Y', ?_⟩
      rw [if_neg (fun z => hc (canB_iff.mp z.1)), ← q]
      simp only [m_X9_obey_L18, m_X9_obey_L90, hif_p, hlet_p, hgR_k, hgI_k, hcallV_b, hbind_p, okk_put, nP, fP, kk_1 hs, kk_30 hs, rf_1_3 hs, rs.to, TwA.k0 ht, TwA.k1 ht, TwA.k2 ht, TwA.k3 ht, TwA.k4 ht, TwA.k5 ht, TwA.k6 ht, TwA.k7 ht, TwA.k8 ht, TwA.k9 ht, TwA.k10 ht, TwA.k11 ht, TwA.k12 ht, TwA.k13 ht, TwA.k14 ht, TwA.k15 ht, TwA.k16 ht, TwA.k17 ht, TwA.n2 ht, TwA.n3 ht, TwA.n4 ht, TwA.n6 ht, TwA.n7 ht, TwA.n8 ht, TwA.n9 ht, TwA.n10 ht, TwA.n11 ht, TwA.n12 ht, TwA.n13 ht, TwA.n14 ht, TwA.n15 ht, TwA.n16 ht, TwA.n17 ht, TwA.f2 ht, TwA.f3 ht, TwA.f5 ht, TwA.f6 ht, TwA.f8 ht, TwA.f9 ht, TwA.f11 ht, TwA.f12 ht, TwA.f13 ht, TwA.f14 ht, TwA.f15 ht, TwA.b0 ht, TwA.b1 ht, TwA.b2 ht, TwA.g0 ht, TwA.g1 ht, TwA.g2 ht, r0.v2, cc.2 hc, ix_s (show i < 1000000 by omega)]
      rw [if_neg (by omega), if_pos trivial]
    have h0 := hc.1
    rw [hf] at h0
    obtain ⟨o, ho⟩ : ∃ o : Nat, qEnd S (94 + 2 * i) f = o := ⟨(qEnd S (94 + 2 * i) f).toNat, by omega⟩
    have zb := wv.1 i hi2
    have o0 : (o : Int) < S 0 := by
      rcases qEnd_cases ho (by omega) with ⟨e1, e2⟩ | ⟨e1, e2⟩ <;> omega
    have rX : RepS (hput u (54 + 7 * r + 6) X) 30 t S := rs.fr (ext.put u _ X) (fun a _ _ => agr.put (by omega)) (fun a _ _ => agr.put (by omega))
    obtain ⟨Y1, y1, y2⟩ := x_tell (u := hput u (54 + 7 * r + 6) X) hs rX tz ws wv hp hi2 hf ho hg f8 (by omega) g8 Y
    rw [put_comm (show 54 + 7 * r + 6 ≠ 7 by omega) u, put_comm (show 54 + 7 * r + 6 ≠ 7 by omega) u] at y1
    have nr : nrX (hput u (54 + 7 * r + 6) X) t f o g = nrT (hV u (t + 17)) f o g := by
      unfold nrX nrT
      rw [hV_put_n (show t + 17 ≠ 54 + 7 * r + 6 by omega)]
    rw [nr] at y2
    have hs7 : shp (hput u 7 Y1) := hs
    have ru7 : RuA (hput u 7 Y1) (54 + 7 * r) := (rul_at hs7 hr).1
    have e1 : hV (hput u 7 Y1) (54 + 7 * r + 1) = cd := by rw [hV_put_n (by omega), x1]
    have e2 : hV (hput u 7 Y1) (54 + 7 * r + 2) = op := by rw [hV_put_n (by omega), x2]
    obtain ⟨X1, z1⟩ := x_valL hs7 ru7 (by omega) hM (by rw [e1, e2]; exact oo) (C := C) (a := a) (b := b) (e := e) (by rw [hV_put_n (by omega)]; exact x3) hC (fun c hc => by
      rw [e1, hV_put_n (show 54 + 7 * r + 3 ≠ 7 by omega), hV_put_n (show 54 + 7 * r + 4 ≠ 7 by omega), hV_put_n (show 54 + 7 * r + 5 ≠ 7 by omega)]
      exact ⟨cl c hc, x4 c hc⟩) C 1000000000 0 X (by omega) (by omega)
    rw [e1, e2, hV_put_s, vlS_W oo cl y2 C 0 (by omega)] at z1
    have vb : vlS cd op (wds S p i (nrT (hV u (t + 17)) f o g)) a b e C 0 = valB cd op C a b e (hV u (t + 17)) S p i := by
      unfold valB
      rw [hf, ho, hg, Int.toNat_natCast, Int.toNat_natCast, Int.toNat_natCast]
    rw [vb] at z1
    have z1' : m_X3_valueFor (54 + 7 * r) 7 (hput (hput u 7 Y1) (54 + 7 * r + 6) X) = some (valB cd op C a b e (hV u (t + 17)) S p i, hput (hput u 7 Y1) (54 + 7 * r + 6) X1) := by
      simp only [m_X3_valueFor, hlet_p]
      exact z1
    have lc := (lcmp_0 (valB cd op C a b e (hV u (t + 17)) S p i) m).2.2.2.2.1
    have cb : canB S p i = true := canB_iff.mpr hc
    by_cases vm : m < valB cd op C a b e (hV u (t + 17)) S p i
    · obtain ⟨X', Y', q⟩ := ih n (i + 1) i (valB cd op C a b e (hV u (t + 17)) S p i) X1 Y1 (by omega) (by omega)
      refine ⟨X', Y', ?_⟩
      rw [if_pos ⟨cb, vm⟩, ← q]
      simp only [m_X9_obey_L18, m_X9_obey_L90, hif_p, hlet_p, hgR_k, hgI_k, hcallV_b, hbind_p, okk_put, nP, fP, kk_1 hs, kk_30 hs, rf_1_3 hs, rf_1_13 hs, rs.to, TwA.k0 ht, TwA.k1 ht, TwA.k2 ht, TwA.k3 ht, TwA.k4 ht, TwA.k5 ht, TwA.k6 ht, TwA.k7 ht, TwA.k8 ht, TwA.k9 ht, TwA.k10 ht, TwA.k11 ht, TwA.k12 ht, TwA.k13 ht, TwA.k14 ht, TwA.k15 ht, TwA.k16 ht, TwA.k17 ht, TwA.n2 ht, TwA.n3 ht, TwA.n4 ht, TwA.n6 ht, TwA.n7 ht, TwA.n8 ht, TwA.n9 ht, TwA.n10 ht, TwA.n11 ht, TwA.n12 ht, TwA.n13 ht, TwA.n14 ht, TwA.n15 ht, TwA.n16 ht, TwA.n17 ht, TwA.f2 ht, TwA.f3 ht, TwA.f5 ht, TwA.f6 ht, TwA.f8 ht, TwA.f9 ht, TwA.f11 ht, TwA.f12 ht, TwA.f13 ht, TwA.f14 ht, TwA.f15 ht, TwA.b0 ht, TwA.b1 ht, TwA.b2 ht, TwA.g0 ht, TwA.g1 ht, TwA.g2 ht, r0.v2, cc.1 hc, y1, RuA.k0 ru, z1', ix_s (show i < 1000000 by omega)]
      rw [if_neg (by omega), if_neg (by decide), if_neg (fun z => by have := lc.mp z; omega)]
    · obtain ⟨X', Y', q⟩ := ih n (i + 1) bs m X1 Y1 (by omega) (by omega)
      refine ⟨X', Y', ?_⟩
      rw [if_neg (fun z => vm z.2), ← q]
      simp only [m_X9_obey_L18, m_X9_obey_L90, hif_p, hlet_p, hgR_k, hgI_k, hcallV_b, hbind_p, okk_put, nP, fP, kk_1 hs, kk_30 hs, rf_1_3 hs, rf_1_13 hs, rs.to, TwA.k0 ht, TwA.k1 ht, TwA.k2 ht, TwA.k3 ht, TwA.k4 ht, TwA.k5 ht, TwA.k6 ht, TwA.k7 ht, TwA.k8 ht, TwA.k9 ht, TwA.k10 ht, TwA.k11 ht, TwA.k12 ht, TwA.k13 ht, TwA.k14 ht, TwA.k15 ht, TwA.k16 ht, TwA.k17 ht, TwA.n2 ht, TwA.n3 ht, TwA.n4 ht, TwA.n6 ht, TwA.n7 ht, TwA.n8 ht, TwA.n9 ht, TwA.n10 ht, TwA.n11 ht, TwA.n12 ht, TwA.n13 ht, TwA.n14 ht, TwA.n15 ht, TwA.n16 ht, TwA.n17 ht, TwA.f2 ht, TwA.f3 ht, TwA.f5 ht, TwA.f6 ht, TwA.f8 ht, TwA.f9 ht, TwA.f11 ht, TwA.f12 ht, TwA.f13 ht, TwA.f14 ht, TwA.f15 ht, TwA.b0 ht, TwA.b1 ht, TwA.b2 ht, TwA.g0 ht, TwA.g1 ht, TwA.g2 ht, r0.v2, cc.1 hc, y1, RuA.k0 ru, z1', ix_s (show i < 1000000 by omega)]
      rw [if_neg (by omega), if_neg (by decide), if_pos (lc.mpr (by omega))]
/-- a row after one person has obeyed -/
def obS (cd op : Nat → Int) (C : Nat) (a b e : Nat → Nat) (T S : Nat → Int) (p : Nat) : Nat → Int :=
  if (obB (canB S p) (valB cd op C a b e T S p) (S 2).toNat 0 (-1) 0).1 < 0 then S else qCross S p (obB (canB S p) (valB cd op C a b e T S p) (S 2).toNat 0 (-1) 0).1.toNat
def runF (q : Nat) (u v : hS) : Prop := ext u v ∧ shp v ∧ ∀ a, (a < 30 ∨ 34 < a) → a ≠ 7 → a ≠ q + 6 → agr u v a
theorem runF.tr {q : Nat} {u v w : hS} (h : runF q u v) (k : runF q v w) : runF q u w := ⟨h.1.tr k.1, k.2.1, fun a h1 h2 h3 => (h.2.2 a h1 h2 h3).tr (k.2.2 a h1 h2 h3)⟩
theorem runF.rf {q : Nat} {u : hS} (hs : shp u) : runF q u u := ⟨ext.rf u, hs, fun _ _ _ _ _ => ⟨rfl, rfl⟩⟩
theorem runF.put {q : Nat} {u : hS} (hs : shp u) (X Y : Nat → Int) : runF q u (hput (hput u 7 Y) (q + 6) X) := ⟨(ext.put _ _ _).tr (ext.put _ _ _), hs, fun _ _ h1 h2 => (agr.put h1).tr (agr.put h2)⟩
theorem obS_ok {cd op : Nat → Int} {C : Nat} {a b e : Nat → Nat} {T S : Nat → Int} {p : Nat} (ws : WS S) (wv : WV S) (hp : (p : Int) < S 4) : twn (obS cd op C a b e T S p) = twn S ∧ WS (obS cd op C a b e T S p) ∧ WV (obS cd op C a b e T S p) ∧ ∀ j, j < 10 ∨ 94 ≤ j → obS cd op C a b e T S p j = S j := by
  have w2 := ws.2.2.1
  have w4 := ws.2.2.2.2.1
  unfold obS
  rcases obB_in (c := canB S p) (V := valB cd op C a b e T S p) (S 2).toNat 0 (-1) 0 (Or.inl rfl) with h | ⟨n, h1, h2, h3⟩
  · rw [h, if_pos (by decide)]
    exact ⟨rfl, ws, wv, fun _ _ => rfl⟩
  · rw [h1, if_neg (by omega), Int.toNat_natCast]
    have q := qCross_ok ws wv hp (b := n) (by omega) (canB_iff.mp h3)
    refine ⟨q.1, q.2.1, q.2.2.1, fun j hj => ?_⟩
    unfold qCross
    rw [sup_n (by omega), sup_n (by omega), sup_n (by omega)]
theorem RepF.nx {u v : hS} {t : Nat} {S S' : Nat → Int} (h : RepF u 30 t S) (r : RepS v 30 t S') (g : ∀ a, t ≤ a → a ≤ t + 17 → agr u v a) (q : twn S' = twn S ∧ WS S' ∧ WV S') : RepF v 30 t S' :=
  ⟨r, h.2.1, by rw [q.1]; exact h.2.2.1.fr g, q.2.1, q.2.2⟩
theorem x_obey {u : hS} (hs : shp u) {t r M C p : Nat} {S cd op : Nat → Int} {a b e : Nat → Nat} (rf : RepF u 30 t S) (hr : r < 6) (rc : rlC cd op M C a b e) (rx : rxC u (54 + 7 * r) cd op C a b e) (hp : (p : Int) < S 4) : ∃ v, m_X9_obey 1 (54 + 7 * r) p u = some (0, v) ∧ RepF v 30 t (obS cd op C a b e (hV u (t + 17)) S p) ∧ runF (54 + 7 * r) u v := by
  obtain ⟨rs, tz, rw0, ws, wv⟩ := id rf
  have w2 := ws.2.2.1
  obtain ⟨X, Y, L⟩ := x_obL hs rf hr rc rx hp (S 2).toNat 1000000000 0 (-1) 0 (hV u (54 + 7 * r + 6)) (hV u 7) (by omega) (by omega)
  rw [hput_self, hput_self] at L
  have L0 : m_X9_obey 1 (54 + 7 * r) p u = m_X9_obey_L18 1000000000 1 (54 + 7 * r) p (-1) 0 (qWant S p) ((0 : Nat) : Int) u := by
    simp only [m_X9_obey, hlet_p, hgR_k, hcallV_b, hbind_p, kk_1 hs, kk_30 hs, rf_1_3 hs, x_nextWant rs ws]
    rfl
  have hsv : shp (hput (hput u 7 Y) (54 + 7 * r + 6) X) := hs
  have rv : RepS (hput (hput u 7 Y) (54 + 7 * r + 6) X) 30 t S := (rs.fr (ext.put u 7 Y) (fun a _ _ => agr.put (by omega)) (fun a _ _ => agr.put (by omega))).fr (ext.put _ _ X) (fun a _ _ => agr.put (by omega)) (fun a _ _ => agr.put (by omega))
  have ht := rv.ht
  have fr := runF.put (q := 54 + 7 * r) hs X Y
  have ok := obS_ok (cd := cd) (op := op) (C := C) (a := a) (b := b) (e := e) (T := hV u (t + 17)) ws wv hp
  rw [L0, L]
  show ∃ v, m_X9_obey_L18 (0 + 1) 1 (54 + 7 * r) p (obB (canB S p) (valB cd op C a b e (hV u (t + 17)) S p) (S 2).toNat 0 (-1) 0).1 (obB (canB S p) (valB cd op C a b e (hV u (t + 17)) S p) (S 2).toNat 0 (-1) 0).2 (qWant S p) (S 2) (hput (hput u 7 Y) (54 + 7 * r + 6) X) = some (0, v) ∧ _
  simp only [m_X9_obey_L18, m_X9_obey_L110, hif_p, hlet_p, hret_p, hgR_k, hgI_k, hcallV_b, okk_put, nP, fP, kk_1 hs, kk_30 hs, rf_1_3 hs, rs.to, TwA.k0 ht, TwA.k1 ht, TwA.k2 ht, TwA.k3 ht, TwA.k4 ht, TwA.k5 ht, TwA.k6 ht, TwA.k7 ht, TwA.k8 ht, TwA.k9 ht, TwA.k10 ht, TwA.k11 ht, TwA.k12 ht, TwA.k13 ht, TwA.k14 ht, TwA.k15 ht, TwA.k16 ht, TwA.k17 ht, TwA.n2 ht, TwA.n3 ht, TwA.n4 ht, TwA.n6 ht, TwA.n7 ht, TwA.n8 ht, TwA.n9 ht, TwA.n10 ht, TwA.n11 ht, TwA.n12 ht, TwA.n13 ht, TwA.n14 ht, TwA.n15 ht, TwA.n16 ht, TwA.n17 ht, TwA.f2 ht, TwA.f3 ht, TwA.f5 ht, TwA.f6 ht, TwA.f8 ht, TwA.f9 ht, TwA.f11 ht, TwA.f12 ht, TwA.f13 ht, TwA.f14 ht, TwA.f15 ht, TwA.b0 ht, TwA.b1 ht, TwA.b2 ht, TwA.g0 ht, TwA.g1 ht, TwA.g2 ht, rv.v2]
  rw [if_pos (Int.le_refl _)]
  rcases obB_in (c := canB S p) (V := valB cd op C a b e (hV u (t + 17)) S p) (S 2).toNat 0 (-1) 0 (Or.inl rfl) with h | ⟨n, h1, h2, h3⟩
  · have es : obS cd op C a b e (hV u (t + 17)) S p = S := by
      unfold obS
      rw [h, if_pos (by decide)]
    rw [es, h, if_pos rfl]
    exact ⟨_, rfl, rf.nx rv (fun a _ _ => fr.2.2 a (by omega) (by omega) (by omega)) ⟨rfl, ws, wv⟩, fr⟩
  · have es : obS cd op C a b e (hV u (t + 17)) S p = qCross S p n := by
      unfold obS
      rw [h1, if_neg (by omega), Int.toNat_natCast]
    rw [es] at ok ⊢
    rw [h1, if_neg (by omega)]
    obtain ⟨v, g1, g2, g3, g4, g5⟩ := x_goOver rv ws (by omega) hp (b := n) (by omega)
    rw [g1]
    have fv : runF (54 + 7 * r) (hput (hput u 7 Y) (54 + 7 * r + 6) X) v := ⟨g3, g4 hsv, fun a h _ _ => g5 a h⟩
    have ff := fr.tr fv
    refine ⟨v, rfl, rf.nx g2 (fun a _ _ => ff.2.2 a (by omega) (by omega) (by omega)) ⟨ok.1, ok.2.1, ok.2.2.1⟩, ff⟩
