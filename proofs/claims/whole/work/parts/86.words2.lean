/-! the words a rule may say: the reference; ways over all bridges -/
theorem wlk_twn {S : Nat → Int} (w2 : S 2 ≤ 9) : ∀ (k : Nat) (q r : Int), wlk (twn S) k q r ↔ wlk S k q r := by
  have t2 : twn S 2 = S 2 := if_pos (by omega)
  have tq : ∀ (b : Nat) (q : Int), (b : Int) < S 2 → qEnd (twn S) (94 + 2 * b) q = qEnd S (94 + 2 * b) q := fun b q hb => by
    unfold qEnd
    rw [show twn S (94 + 2 * b) = S (94 + 2 * b) from if_pos (by omega), show twn S (94 + 2 * b + 1) = S (94 + 2 * b + 1) from if_pos (by omega)]
  intro k
  induction k with
  | zero =>
    intro q r
    exact Iff.rfl
  | succ k ih =>
    intro q r
    constructor
    · intro h
      obtain ⟨b, hb, h0, hw⟩ := h
      rw [t2] at hb
      rw [tq b q hb] at h0 hw
      exact ⟨b, hb, h0, (ih _ _).mp hw⟩
    · intro h
      obtain ⟨b, hb, h0, hw⟩ := h
      refine ⟨b, by rw [t2]; exact hb, ?_, ?_⟩
      · rw [tq b q hb]
        exact h0
      · rw [tq b q hb]
        exact (ih _ _).mpr hw
theorem wlk_wkO {S : Nat → Int} (wv : WV S) {g : Int} : ∀ (k : Nat) (x : Int), 0 ≤ x → (wlk S k x g ↔ wkO S (fun _ => true) g k x) := by
  intro k
  induction k with
  | zero =>
    intro x _
    exact Iff.rfl
  | succ k ih =>
    intro x hx
    constructor
    · intro h
      obtain ⟨b, hb, h0, hw⟩ := h
      exact ⟨b, qEnd S (94 + 2 * b) x, hb, rfl, (ih _ h0).mp hw, qEnd_back rfl h0, hx⟩
    · intro h
      obtain ⟨b, m, hb, _, hm, he, h0⟩ := h
      have e := qEnd_back he h0
      have z := wv.1 b hb
      have m0 : 0 ≤ m := by
        rcases qEnd_cases he h0 with ⟨e1, e2⟩ | ⟨e1, e2⟩ <;> omega
      refine ⟨b, hb, by rw [e]; exact m0, ?_⟩
      rw [e]
      exact (ih m m0).mpr hm
theorem dist_row {S : Nat → Int} (ws : WS S) (wv : WV S) {x g : Nat} {d : Int} {D : Nat → Int} (h : isDist (twn S) x g d) (hx : (x : Int) < S 0) (r : isRow S (fun _ => true) g D) : D x = d := by
  have w0 := ws.1
  have w2 := ws.2.2.1
  have t0 : twn S 0 = S 0 := if_pos (by omega)
  have b := r.2.1 x hx
  rcases h with ⟨rfl, no⟩ | ⟨k, rfl, k0, hw, ml⟩
  · by_cases z : D x < 99
    · have y := (wlk_wkO wv _ _ (by omega)).mpr (b.2 z)
      exact absurd ((wlk_twn w2.2 _ _ _).mpr y) (no _)
    · omega
  · rw [t0] at k0
    have y := (wlk_wkO wv k x (by omega)).mp ((wlk_twn w2.2 _ _ _).mp hw)
    have le := row_le r k x y
    rw [Int.toNat_natCast] at le
    have y2 := (wlk_wkO wv _ _ (by omega)).mpr (b.2 (by omega))
    by_cases z : (D x).toNat < k
    · exact absurd ((wlk_twn w2.2 _ _ _).mpr y2) (ml _ z)
    · omega
def nrY (D : Nat → Int) (f o : Nat) : Int := if D f = 99 then 99 else if D o ≠ 99 then w32 (D f - D o) else 99
/-- both ways of telling what is nearer -/
theorem nr_eq {u : hS} {t : Nat} {S : Nat → Int} (ws : WS S) (wv : WV S) (rw0 : RepW0 u t (twn S)) {b f o g : Nat} (hb : (b : Int) < S 2) (f0 : (f : Int) < S 0) (o0 : (o : Int) < S 0) (g0 : (g : Int) < S 0) (ho : qEnd S (94 + 2 * b) f = (o : Int)) {D : Nat → Int} (r : isRow S (fun _ => true) g D) : nrX u t f o g = nrY D f o := by
  have t0 : twn S 0 = S 0 := if_pos (by omega)
  have df := dist_row ws wv (rw0.2.1 f g (by rw [t0]; exact f0) (by rw [t0]; exact g0)) f0 r
  have dO := dist_row ws wv (rw0.2.1 o g (by rw [t0]; exact o0) (by rw [t0]; exact g0)) o0 r
  unfold nrX nrY
  rw [← df, ← dO]
  by_cases z : D f = 99
  · rw [if_pos z, if_pos z]
  · have w0 := ws.1
    have bf := (r.2.1 f f0).1
    have lt := row_lt w0.1 wv g0 r f f0 (by omega)
    have c := r.2.2 b hb rfl
    have on : D o ≠ 99 := by
      rcases qEnd_cases ho (by omega) with ⟨e1, e2⟩ | ⟨e1, e2⟩
      · rw [e1, e2, Int.toNat_natCast, Int.toNat_natCast] at c
        omega
      · rw [e1, e2, Int.toNat_natCast, Int.toNat_natCast] at c
        omega
    rw [if_neg z, if_neg z, if_pos on]
theorem y_wdL {u : hS} (hs : shp u) (ws : WS (hV u 230)) {p b : Nat} (f o w g : Int) (K : Nat → hM) (hK : ∀ n : Nat, True) : ∀ (k n i : Nat) (a : Int), k < n → hV u 230 4 = ((i + k : Nat) : Int) → 0 ≤ a → a + k ≤ 100 → m_X10_words_L35 n 220 p b f o w g a i u = m_X10_words_L35 1 220 p b f o w g (a + sumU (fun x => if x ≠ p ∧ hV u 230 (10 + 3 * x) = f then 1 else 0) k i) (hV u 230 4) u := by
  have w4 := ws.2.2.2.2.1
  intro k
  induction k with
  | zero =>
    intro n i a hn hv h0 h1
    obtain ⟨n, rfl⟩ : ∃ k, n = k + 1 := ⟨n - 1, by omega⟩
    show _ = m_X10_words_L35 (0 + 1) 220 p b f o w g (a + 0) (hV u 230 4) u
    rw [Int.add_zero]
    simp only [m_X10_words_L35, hif_p, hgR_k, haI_4, kk_220 hs, kk_230 hs, rf_220_20 hs, ln_230 hs, lt_c 4 160 rfl]
    rw [if_pos (by omega), if_pos (by omega)]
  | succ k ih =>
    intro n i a hn hv h0 h1
    obtain ⟨n, rfl⟩ : ∃ k, n = k + 1 := ⟨n - 1, by omega⟩
    have i4 : i < 4 := by omega
    have w1 : w32 (a + 1) = a + 1 := w32_id ⟨by omega, by omega⟩
    have w0 : w32 (a + 0) = a := by
      rw [Int.add_zero]
      exact w32_id ⟨by omega, by omega⟩
    have j1 := ih n (i + 1) a (by omega) (by omega) h0 (by omega)
    have j2 := ih n (i + 1) (a + 1) (by omega) (by omega) (by omega) (by omega)
    rw [sumU_s]
    have E : m_X10_words_L35 (n + 1) 220 p b f o w g a i u = if i ≠ p ∧ hV u 230 (10 + 3 * i) = f then m_X10_words_L35 n 220 p b f o w g (a + 1) ((i + 1 : Nat) : Int) u else m_X10_words_L35 n 220 p b f o w g a ((i + 1 : Nat) : Int) u := by
      rw [show m_X10_words_L35 (n + 1) 220 p b f o w g a i u = hgR 10 220 20 (fun v1 => haI 20 v1 4 fun v2 => hif ((i : Int) ≥ v2) (hcallV 10 220 (m_X10_fillsWays 220 (-1) g) fun _ => hgR 10 220 19 fun v3 => hsI 21 v3 0 p <| hgR 10 220 19 fun v4 => hsI 21 v4 1 b <| hgR 10 220 19 fun v5 => hsI 21 v5 2 f <| hgR 10 220 19 fun v6 => hsI 21 v6 3 o <| hgR 10 220 19 fun v7 => hcallV 10 220 (m_X10_personOf 220 p 1) fun v8 => hsI 21 v7 4 v8 <| hgR 10 220 19 fun v9 => hcallV 10 220 (m_X10_leftOf 220 p b) fun v10 => hsI 21 v9 5 v10 <| hgR 10 220 19 fun v11 => hgR 10 220 20 fun v12 => haI 20 v12 6 fun v13 => hsI 21 v11 6 v13 <| hgR 10 220 19 fun v14 => hsI 21 v14 7 g <| hgR 10 220 19 fun v15 => hif (w ≥ 0) (hgR 10 220 20 fun v16 => haI 20 v16 (w32 (w32 (128 + w32 (4 * w)) + 3)) fun v17 => m_X10_words_L201 220 f o w a v15 8 v17) (m_X10_words_L201 220 f o w a v15 8 0)) (hif ((i : Int) = p) (m_X10_words_L69 (m_X10_words_L35 n) 220 p b f o w g i a) (hcallV 10 220 (m_X10_personOf 220 i 0) fun v18 => hif (v18 ≠ f) (m_X10_words_L69 (m_X10_words_L35 n) 220 p b f o w g i a) (m_X10_words_L70 (m_X10_words_L35 n) 220 p b f o w g i a 1)))) u from rfl]
      simp only [m_X10_words_L69, m_X10_words_L70, hif_p, hlet_p, hgR_k, haI_4, hcallV_b, hbind_p, kk_220 hs, kk_230 hs, rf_220_20 hs, ln_230 hs, lt_c 4 160 rfl, y_personOf0 hs i4, w0, w1, ix_s (show i < 1000000 by omega)]
      rw [if_neg (by omega)]
      by_cases e : i = p
      · rw [if_pos (by omega), if_neg (fun z => z.1 e)]
      · rw [if_neg (by omega)]
        by_cases z : hV u 230 (10 + 3 * i) = f
        · rw [if_neg (fun y => y z), if_pos ⟨e, z⟩]
        · rw [if_pos z, if_neg (fun y => z y.2)]
    rw [E]
    by_cases z : i ≠ p ∧ hV u 230 (10 + 3 * i) = f
    · rw [if_pos z, if_pos z, j2, Int.add_assoc]
    · rw [if_neg z, if_neg z, j1, Int.zero_add]
theorem y_words {u : hS} (hs : shp u) (ws : WS (hV u 230)) (wv : WV (hV u 230)) (ex : ∀ c, c < 9 → hV u 231 c = 0) {p b f o g : Nat} (hp : (p : Int) < hV u 230 4) (hb : (b : Int) < hV u 230 2) (hf : hV u 230 (10 + 3 * p) = (f : Int)) (ho : qEnd (hV u 230) (94 + 2 * b) f = (o : Int)) (hg : qGoal (hV u 230) p = (g : Int)) (f8 : f < 8) (o8 : o < 8) (g0 : (g : Int) < hV u 230 0) : ∃ D Y', m_X10_words 220 p b u = some (0, hput (hput u 232 D) 229 Y') ∧ isRow (hV u 230) (fun _ => true) g D ∧ ∀ j, j < 12 → Y' j = wds (hV u 230) p b (nrY D f o) j := by
  have w0 := ws.1
  have w2 := ws.2.2.1
  have w4 := ws.2.2.2.2.1
  have w5 := ws.2.2.2.2.2.1
  have w6 := ws.2.2.2.2.2.2.1
  have p4 : p < 4 := by omega
  have b9 : b < 9 := by omega
  have g8 : g < 8 := by omega
  obtain ⟨D, d1, d2⟩ := y_fillsWays hs ws wv (O := fun _ => true) (a := g) g0 (p := -1) (Or.inl ⟨by decide, fun _ => rfl⟩)
  have o1 := oth_1 ws hp
  have cn := y_wdL hs ws (p := p) (b := b) (f : Int) (o : Int) (qWant (hV u 230) p) (g : Int) (fun _ => m_X10_isTown 220) (fun _ => trivial) (hV u 230 4).toNat 1000000000 0 0 (by omega) (by omega) (by omega) (by omega)
  rw [Int.zero_add, ← hf] at cn
  have co : sumU (fun x => if x ≠ p ∧ hV u 230 (10 + 3 * x) = hV u 230 (10 + 3 * p) then 1 else 0) (hV u 230 4).toNat 0 = oth (hV u 230) p := rfl
  rw [co, hf] at cn
  have hd : m_X10_words 220 p b u = m_X10_words_L35 (0 + 1) 220 p b f o (qWant (hV u 230) p) g (oth (hV u 230) p) (hV u 230 4) u := by
    refine Eq.trans ?_ cn
    simp only [m_X10_words, hlet_p, hcallV_b, hbind_p, kk_220 hs, y_personOf0 hs p4, y_over hs b9, y_nextWant hs ws, y_goalOf hs ws p4, hf, ho, hg]
    rfl
  obtain ⟨v, hve⟩ : ∃ v, v = hput u 232 D := ⟨_, rfl⟩
  have hv : shp v := by
    rw [hve]
    exact hs
  have q230 : hV v 230 = hV u 230 := by
    rw [hve]
    exact hV_put_n (by decide)
  have q231 : hV v 231 = hV u 231 := by
    rw [hve]
    exact hV_put_n (by decide)
  have q232 : hV v 232 = D := by
    rw [hve]
    exact hV_put_s _ _ _
  rw [← hve] at d1
  have s0 : ∀ (x : Int) (K : hM) (Y : Nat → Int), hsI 21 229 0 x K (hput v 229 Y) = K (hput v 229 (sup Y 0 x)) := fun x K Y => by
    rw [← setV_put]
    exact hsI_k (i := 0) (kk_229 (show shp (hput v 229 Y) from hv)) (by decide) (by rw [nP, ln_229 hv]; decide)
  have s1 : ∀ (x : Int) (K : hM) (Y : Nat → Int), hsI 21 229 1 x K (hput v 229 Y) = K (hput v 229 (sup Y 1 x)) := fun x K Y => by
    rw [← setV_put]
    exact hsI_k (i := 1) (kk_229 (show shp (hput v 229 Y) from hv)) (by decide) (by rw [nP, ln_229 hv]; decide)
  have s2 : ∀ (x : Int) (K : hM) (Y : Nat → Int), hsI 21 229 2 x K (hput v 229 Y) = K (hput v 229 (sup Y 2 x)) := fun x K Y => by
    rw [← setV_put]
    exact hsI_k (i := 2) (kk_229 (show shp (hput v 229 Y) from hv)) (by decide) (by rw [nP, ln_229 hv]; decide)
  have s3 : ∀ (x : Int) (K : hM) (Y : Nat → Int), hsI 21 229 3 x K (hput v 229 Y) = K (hput v 229 (sup Y 3 x)) := fun x K Y => by
    rw [← setV_put]
    exact hsI_k (i := 3) (kk_229 (show shp (hput v 229 Y) from hv)) (by decide) (by rw [nP, ln_229 hv]; decide)
  have s4 : ∀ (x : Int) (K : hM) (Y : Nat → Int), hsI 21 229 4 x K (hput v 229 Y) = K (hput v 229 (sup Y 4 x)) := fun x K Y => by
    rw [← setV_put]
    exact hsI_k (i := 4) (kk_229 (show shp (hput v 229 Y) from hv)) (by decide) (by rw [nP, ln_229 hv]; decide)
  have s5 : ∀ (x : Int) (K : hM) (Y : Nat → Int), hsI 21 229 5 x K (hput v 229 Y) = K (hput v 229 (sup Y 5 x)) := fun x K Y => by
    rw [← setV_put]
    exact hsI_k (i := 5) (kk_229 (show shp (hput v 229 Y) from hv)) (by decide) (by rw [nP, ln_229 hv]; decide)
  have s6 : ∀ (x : Int) (K : hM) (Y : Nat → Int), hsI 21 229 6 x K (hput v 229 Y) = K (hput v 229 (sup Y 6 x)) := fun x K Y => by
    rw [← setV_put]
    exact hsI_k (i := 6) (kk_229 (show shp (hput v 229 Y) from hv)) (by decide) (by rw [nP, ln_229 hv]; decide)
  have s7 : ∀ (x : Int) (K : hM) (Y : Nat → Int), hsI 21 229 7 x K (hput v 229 Y) = K (hput v 229 (sup Y 7 x)) := fun x K Y => by
    rw [← setV_put]
    exact hsI_k (i := 7) (kk_229 (show shp (hput v 229 Y) from hv)) (by decide) (by rw [nP, ln_229 hv]; decide)
  have s8 : ∀ (x : Int) (K : hM) (Y : Nat → Int), hsI 21 229 8 x K (hput v 229 Y) = K (hput v 229 (sup Y 8 x)) := fun x K Y => by
    rw [← setV_put]
    exact hsI_k (i := 8) (kk_229 (show shp (hput v 229 Y) from hv)) (by decide) (by rw [nP, ln_229 hv]; decide)
  have s9 : ∀ (x : Int) (K : hM) (Y : Nat → Int), hsI 21 229 9 x K (hput v 229 Y) = K (hput v 229 (sup Y 9 x)) := fun x K Y => by
    rw [← setV_put]
    exact hsI_k (i := 9) (kk_229 (show shp (hput v 229 Y) from hv)) (by decide) (by rw [nP, ln_229 hv]; decide)
  have s10 : ∀ (x : Int) (K : hM) (Y : Nat → Int), hsI 21 229 10 x K (hput v 229 Y) = K (hput v 229 (sup Y 10 x)) := fun x K Y => by
    rw [← setV_put]
    exact hsI_k (i := 10) (kk_229 (show shp (hput v 229 Y) from hv)) (by decide) (by rw [nP, ln_229 hv]; decide)
  have s11 : ∀ (x : Int) (K : hM) (Y : Nat → Int), hsI 21 229 11 x K (hput v 229 Y) = K (hput v 229 (sup Y 11 x)) := fun x K Y => by
    rw [← setV_put]
    exact hsI_k (i := 11) (kk_229 (show shp (hput v 229 Y) from hv)) (by decide) (by rw [nP, ln_229 hv]; decide)
  have kY : ∀ Y, shp (hput v 229 Y) := fun Y => hv
  have p1 : ∀ Y, m_X10_personOf 220 p 1 (hput v 229 Y) = some (hV u 230 (11 + 3 * p), hput v 229 Y) := fun Y => by
    have z := y_personOf1 (kY Y) p4
    rw [hV_put_n (by decide), q230] at z
    exact z
  have lf : ∀ Y, m_X10_leftOf 220 p b (hput v 229 Y) = some (qLeft (hV u 230) p b, hput v 229 Y) := fun Y => by
    have z := y_leftOf (kY Y) (fun c hc => by rw [hV_put_n (by decide), q231]; exact ex c hc) p4 b9
    rw [hV_put_n (by decide), q230] at z
    exact z
  have k230 : ∀ Y, hV (hput v 229 Y) 230 = hV u 230 := fun Y => by rw [hV_put_n (by decide), q230]
  have k232 : ∀ Y, hV (hput v 229 Y) 232 = D := fun Y => by rw [hV_put_n (by decide), q232]
  have bf := (d2.2.1 f (by have z := (wv.2.2.1 p hp).1; omega)).1
  have L241 : ∀ (Y : Nat → Int) (s2 : Int), m_X10_words_L241 220 f o (oth (hV u 230) p) 229 9 s2 (hput v 229 Y) = some (0, hput v 229 (sup (sup (sup Y 9 s2) 10 (nrY D f o)) 11 (oth (hV u 230) p))) := fun Y s2 => by
    unfold nrY
    simp only [m_X10_words_L241, m_X10_words_L292, m_X10_words_L271, hlet_p, hret_p, hif_p, hgR_k, haI_n, okk_put, nP, fP, kk_220 hv, rf_220_19 hv, rf_220_23 hv, kk_232 hv, ln_232 hv, f8, o8, k232, s9, s10, s11]
    by_cases z : D f = 99
    · rw [if_pos z, if_pos z]
    · rw [if_neg z, if_neg z]
      by_cases y : D o = 99
      · rw [if_neg (fun x => x y), if_neg (fun x => x y)]
      · rw [if_pos y, if_pos y]
  have E : m_X10_words_L35 (0 + 1) 220 p b f o (qWant (hV u 230) p) g (oth (hV u 230) p) (hV u 230 4) u = (if qWant (hV u 230) p ≥ 0 then (hgR 10 220 20 fun v16 => haI 20 v16 (w32 (w32 (128 + w32 (4 * qWant (hV u 230) p)) + 3)) fun v17 => m_X10_words_L201 220 f o (qWant (hV u 230) p) (oth (hV u 230) p) 229 8 v17) (hput v 229 (sup (sup (sup (sup (sup (sup (sup (sup (hV v 229) 0 (p : Int)) 1 (b : Int)) 2 (f : Int)) 3 (o : Int)) 4 (hV u 230 (11 + 3 * p))) 5 (qLeft (hV u 230) p b)) 6 (hV u 230 6)) 7 (g : Int))) else m_X10_words_L201 220 f o (qWant (hV u 230) p) (oth (hV u 230) p) 229 8 0 (hput v 229 (sup (sup (sup (sup (sup (sup (sup (sup (hV v 229) 0 (p : Int)) 1 (b : Int)) 2 (f : Int)) 3 (o : Int)) 4 (hV u 230 (11 + 3 * p))) 5 (qLeft (hV u 230) p b)) 6 (hV u 230 6)) 7 (g : Int)))) := by
    have vs : v = hput v 229 (hV v 229) := (hput_self v 229).symm
    have f0 : hcallV 10 220 (m_X10_fillsWays 220 (-1) g) = hcallV 10 220 (m_X10_fillsWays 220 (-1) g) := rfl
    have d1' : m_X10_fillsWays 220 (-1) g u = some (0, hput v 229 (hV v 229)) := by
      rw [← vs]
      exact d1
    simp only [m_X10_words_L35, hlet_p, hret_p, hif_p, hgR_k, hgI_k, haI_4, haI_6, hcallV_b, hbind_p, okk_put, nP, fP, kk_220 hs, kk_230 hs, rf_220_20 hs, ln_230 hs, lt_c 4 160 rfl, d1', kk_220 hv, rf_220_19 hv, rf_220_20 hv, kk_230 hv, ln_230 hv, lt_c 6 160 rfl, p1, lf, k230, s0, s1, s2, s3, s4, s5, s6, s7]
    rw [if_pos (Int.le_refl _)]
  rcases qWant_in ws p with hw | ⟨hw, hw5⟩
  · refine ⟨D, sup (sup (sup (sup (sup (sup (sup (sup (sup (sup (sup (sup (hV v 229) 0 (p : Int)) 1 (b : Int)) 2 (f : Int)) 3 (o : Int)) 4 (hV u 230 (11 + 3 * p))) 5 (qLeft (hV u 230) p b)) 6 (hV u 230 6)) 7 (g : Int)) 8 0) 9 0) 10 (nrY D f o)) 11 (oth (hV u 230) p), ?_, d2, fun j hj => ?_⟩
    · rw [← hve, hd, E, if_neg (by omega)]
      simp only [m_X10_words_L201, hif_p, hgR_k, okk_put, nP, fP, kk_220 hv, rf_220_19 hv, s8]
      rw [if_neg (by omega)]
      exact L241 _ _
    · rw [w12 (hV v 229) _ _ _ _ _ _ _ _ _ _ _ _ j hj]
      unfold wds
      rw [hf, ho, hg, if_neg (show ¬ 0 ≤ qWant (hV u 230) p by omega), if_neg (show ¬ 0 ≤ qWant (hV u 230) p by omega)]
  · obtain ⟨c, hc⟩ : ∃ c : Nat, qWant (hV u 230) p = c := ⟨(qWant (hV u 230) p).toNat, by omega⟩
    have c8 : c < 8 := by omega
    have c3 : 128 + 4 * c < 1000000 := by omega
    have i2 : 130 + 4 * c < 160 := by omega
    have i3 : 131 + 4 * c < 160 := by omega
    have e2 : 128 + 4 * c + 2 = 130 + 4 * c := by omega
    have e3 : 128 + 4 * c + 3 = 131 + 4 * c := by omega
    refine ⟨D, sup (sup (sup (sup (sup (sup (sup (sup (sup (sup (sup (sup (hV v 229) 0 (p : Int)) 1 (b : Int)) 2 (f : Int)) 3 (o : Int)) 4 (hV u 230 (11 + 3 * p))) 5 (qLeft (hV u 230) p b)) 6 (hV u 230 6)) 7 (g : Int)) 8 (hV u 230 (131 + 4 * c))) 9 (w32 (hV u 230 (130 + 4 * c) - hV u 230 6))) 10 (nrY D f o)) 11 (oth (hV u 230) p), ?_, d2, fun j hj => ?_⟩
    · have ge : (c : Int) ≥ 0 := by omega
      rw [← hve, hd, E, hc, if_pos ge]
      simp only [m_X10_words_L201, hif_p, hgR_k, haI_n, haI_6, okk_put, nP, fP, kk_220 hv, rf_220_19 hv, rf_220_20 hv, kk_230 hv, ln_230 hv, ix_128 c8, ix_2 c3, ix_3 c3, i2, i3, lt_c 6 160 rfl, k230, e2, e3, s8]
      rw [if_pos ge]
      exact L241 _ _
    · rw [w12 (hV v 229) _ _ _ _ _ _ _ _ _ _ _ _ j hj]
      unfold wds
      rw [hf, ho, hg, if_pos hw, if_pos hw, hc, Int.toNat_natCast]
