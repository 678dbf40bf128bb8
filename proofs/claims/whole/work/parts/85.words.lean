/-! the words a rule may say -/
def oth (S : Nat → Int) (p : Nat) : Int := sumU (fun o => if o ≠ p ∧ S (10 + 3 * o) = S (10 + 3 * p) then 1 else 0) (S 4).toNat 0
def wds (S : Nat → Int) (p b : Nat) (nr : Int) : Nat → Int := fun j =>
  if j = 0 then (p : Int) else if j = 1 then (b : Int) else if j = 2 then S (10 + 3 * p) else if j = 3 then qEnd S (94 + 2 * b) (S (10 + 3 * p)) else if j = 4 then S (11 + 3 * p) else if j = 5 then qLeft S p b else if j = 6 then S 6 else if j = 7 then qGoal S p else if j = 8 then (if 0 ≤ qWant S p then S (131 + 4 * (qWant S p).toNat) else 0) else if j = 9 then (if 0 ≤ qWant S p then w32 (S (130 + 4 * (qWant S p).toNat) - S 6) else 0) else if j = 10 then nr else oth S p
theorem w12 (Y : Nat → Int) (v0 v1 v2 v3 v4 v5 v6 v7 v8 v9 v10 v11 : Int) : ∀ j, j < 12 → sup (sup (sup (sup (sup (sup (sup (sup (sup (sup (sup (sup Y 0 v0) 1 v1) 2 v2) 3 v3) 4 v4) 5 v5) 6 v6) 7 v7) 8 v8) 9 v9) 10 v10) 11 v11 j = if j = 0 then v0 else if j = 1 then v1 else if j = 2 then v2 else if j = 3 then v3 else if j = 4 then v4 else if j = 5 then v5 else if j = 6 then v6 else if j = 7 then v7 else if j = 8 then v8 else if j = 9 then v9 else if j = 10 then v10 else v11 := by
  intro j hj
  have c : j = 0 ∨ j = 1 ∨ j = 2 ∨ j = 3 ∨ j = 4 ∨ j = 5 ∨ j = 6 ∨ j = 7 ∨ j = 8 ∨ j = 9 ∨ j = 10 ∨ j = 11 := by omega
  rcases c with rfl | rfl | rfl | rfl | rfl | rfl | rfl | rfl | rfl | rfl | rfl | rfl <;> simp [sup]
theorem x_othL {u : hS} {s t : Nat} {S : Nat → Int} (r : RepS u s t S) (ws : WS S) (f : Int) : ∀ (k n i : Nat) (a : Int), k < n → S 4 = ((i + k : Nat) : Int) → 0 ≤ a → a + k ≤ 100 → m_X4_othersIn_L4 n s f a i u = some (a + sumU (fun o => if S (10 + 3 * o) = f then 1 else 0) k i, u) := by
  have w4 := ws.2.2.2.2.1
  have ht := r.ht
  have ha := r.ha
  intro k
  induction k with
  | zero =>
    intro n i a hn hv h0 h1
    obtain ⟨n, rfl⟩ : ∃ k, n = k + 1 := ⟨n - 1, by omega⟩
    simp only [m_X4_othersIn_L4, hgI_k, hgR_k, hpI_k, hpR_k, hpZ_k, haI_k, haR_k, hsI_k, hsZ_k, hlen_k, hlet_p, hret_p, hretZ_0, hretZ_1, hif_p, okk_setV, okk_setF, nV, nF, fV, vF, StA.k0 ha, StA.k1 ha, StA.k2 ha, StA.k3 ha, StA.k4 ha, StA.n1 ha, StA.n2 ha, StA.n3 ha, StA.n4 ha, StA.f2 ha, StA.f3 ha, StA.f4 ha, StA.f5 ha, r.to, TwA.k0 ht, TwA.k1 ht, TwA.k2 ht, TwA.k3 ht, TwA.k4 ht, TwA.k5 ht, TwA.k6 ht, TwA.k7 ht, TwA.k8 ht, TwA.k9 ht, TwA.k10 ht, TwA.k11 ht, TwA.k12 ht, TwA.k13 ht, TwA.k14 ht, TwA.k15 ht, TwA.k16 ht, TwA.k17 ht, TwA.n2 ht, TwA.n3 ht, TwA.n4 ht, TwA.n6 ht, TwA.n7 ht, TwA.n8 ht, TwA.n9 ht, TwA.n10 ht, TwA.n11 ht, TwA.n12 ht, TwA.n13 ht, TwA.n14 ht, TwA.n15 ht, TwA.n16 ht, TwA.n17 ht, TwA.f2 ht, TwA.f3 ht, TwA.f5 ht, TwA.f6 ht, TwA.f8 ht, TwA.f9 ht, TwA.f11 ht, TwA.f12 ht, TwA.f13 ht, TwA.f14 ht, TwA.f15 ht, TwA.b0 ht, TwA.b1 ht, TwA.b2 ht, TwA.g0 ht, TwA.g1 ht, TwA.g2 ht, r.v4]
    rw [if_pos (by omega)]
    show _ = some (a + 0, u)
    rw [Int.add_zero]
  | succ k ih =>
    intro n i a hn hv h0 h1
    obtain ⟨n, rfl⟩ : ∃ k, n = k + 1 := ⟨n - 1, by omega⟩
    have hi : (i : Int) < S 4 := by omega
    have i4 : i < 4 := by omega
    have w1 : w32 (a + 1) = a + 1 := w32_id ⟨by omega, by omega⟩
    simp only [m_X4_othersIn_L4, m_X4_othersIn_L28, hgI_k, hgR_k, hpI_k, hpR_k, hpZ_k, haI_k, haR_k, hsI_k, hsZ_k, hlen_k, hlet_p, hret_p, hretZ_0, hretZ_1, hif_p, okk_setV, okk_setF, nV, nF, fV, vF, haI_n, StA.k0 ha, StA.k1 ha, StA.k2 ha, StA.k3 ha, StA.k4 ha, StA.n1 ha, StA.n2 ha, StA.n3 ha, StA.n4 ha, StA.f2 ha, StA.f3 ha, StA.f4 ha, StA.f5 ha, r.to, TwA.k0 ht, TwA.k1 ht, TwA.k2 ht, TwA.k3 ht, TwA.k4 ht, TwA.k5 ht, TwA.k6 ht, TwA.k7 ht, TwA.k8 ht, TwA.k9 ht, TwA.k10 ht, TwA.k11 ht, TwA.k12 ht, TwA.k13 ht, TwA.k14 ht, TwA.k15 ht, TwA.k16 ht, TwA.k17 ht, TwA.n2 ht, TwA.n3 ht, TwA.n4 ht, TwA.n6 ht, TwA.n7 ht, TwA.n8 ht, TwA.n9 ht, TwA.n10 ht, TwA.n11 ht, TwA.n12 ht, TwA.n13 ht, TwA.n14 ht, TwA.n15 ht, TwA.n16 ht, TwA.n17 ht, TwA.f2 ht, TwA.f3 ht, TwA.f5 ht, TwA.f6 ht, TwA.f8 ht, TwA.f9 ht, TwA.f11 ht, TwA.f12 ht, TwA.f13 ht, TwA.f14 ht, TwA.f15 ht, TwA.b0 ht, TwA.b1 ht, TwA.b2 ht, TwA.g0 ht, TwA.g1 ht, TwA.g2 ht, r.v4, i4, r.at i hi, w1, ix_s (show i < 1000000 by omega)]
    rw [if_neg (by omega), ih n (i + 1) _ (by omega) (by omega) h0 (by omega), ih n (i + 1) _ (by omega) (by omega) (by omega) (by omega), sumU_s]
    by_cases h : S (10 + 3 * i) = f
    · rw [if_neg (fun z => z h), if_pos h, Int.add_assoc]
    · rw [if_pos h, if_neg h, Int.zero_add]
theorem oth_1 {S : Nat → Int} (ws : WS S) {p : Nat} (hp : (p : Int) < S 4) : sumU (fun o => if S (10 + 3 * o) = S (10 + 3 * p) then 1 else 0) (S 4).toNat 0 = oth S p + 1 ∧ 0 ≤ oth S p ∧ oth S p ≤ 4 := by
  have w4 := ws.2.2.2.2.1
  have a := sumU_add (fun o => if o ≠ p ∧ S (10 + 3 * o) = S (10 + 3 * p) then 1 else 0) (fun o => if (p : Int) = (o : Int) ∧ True then 1 else 0) (S 4).toNat 0
  have b : sumU (fun o => if (p : Int) = (o : Int) ∧ True then 1 else 0) (S 4).toNat 0 = 1 := by
    have b := sumU_one (p : Int) 1 (fun _ : Nat => True) (S 4).toNat 0
    rw [if_pos ⟨⟨by omega, by omega⟩, trivial⟩] at b
    exact b
  have c := sumU_cg (fun o => (if o ≠ p ∧ S (10 + 3 * o) = S (10 + 3 * p) then (1 : Int) else 0) + (if (p : Int) = (o : Int) ∧ True then (1 : Int) else 0)) (fun o => if S (10 + 3 * o) = S (10 + 3 * p) then 1 else 0) (S 4).toNat 0 (fun o _ _ => by
    show (if o ≠ p ∧ S (10 + 3 * o) = S (10 + 3 * p) then (1 : Int) else 0) + (if (p : Int) = (o : Int) ∧ True then (1 : Int) else 0) = (if S (10 + 3 * o) = S (10 + 3 * p) then (1 : Int) else 0)
    by_cases e : o = p
    · subst e
      rw [if_neg (fun z => z.1 rfl), if_pos ⟨rfl, trivial⟩, if_pos rfl]
      rfl
    · rw [if_neg (show ¬ ((p : Int) = (o : Int) ∧ True) by omega), Int.add_zero]
      by_cases z : S (10 + 3 * o) = S (10 + 3 * p)
      · rw [if_pos ⟨e, z⟩, if_pos z]
      · rw [if_neg (fun y => z y.2), if_neg z])
  have lo := sumU_mono (fun _ => 0) (fun o => if o ≠ p ∧ S (10 + 3 * o) = S (10 + 3 * p) then 1 else 0) (S 4).toNat 0 (fun o _ _ => by
    show (0 : Int) ≤ (if o ≠ p ∧ S (10 + 3 * o) = S (10 + 3 * p) then (1 : Int) else 0)
    split <;> omega)
  have hi := sumU_mono (fun o => if o ≠ p ∧ S (10 + 3 * o) = S (10 + 3 * p) then 1 else 0) (fun _ => 1) (S 4).toNat 0 (fun o _ _ => by
    show (if o ≠ p ∧ S (10 + 3 * o) = S (10 + 3 * p) then (1 : Int) else 0) ≤ 1
    split <;> omega)
  rw [sumU_0] at lo
  rw [sumU_1] at hi
  unfold oth
  refine ⟨by omega, lo, by omega⟩
theorem ix_f8 {f g : Nat} (hf : f < 8) (hg : g < 8) : w32 (w32 ((f : Int) * 8) + (g : Int)) = ((8 * f + g : Nat) : Int) := by
  rw [w32_id (x := (f : Int) * 8) ⟨by omega, by omega⟩, w32_id ⟨by omega, by omega⟩]
  omega
def nrX (u : hS) (t f o g : Nat) : Int := if hV u (t + 17) (8 * f + g) = 99 then 99 else w32 (hV u (t + 17) (8 * f + g) - hV u (t + 17) (8 * o + g))
theorem x_tell {u : hS} (hs : shp u) {t : Nat} {S : Nat → Int} (r : RepS u 30 t S) (tz : t = 12 ∨ 243 ≤ t) (ws : WS S) (wv : WV S) {p b f o g : Nat} (hp : (p : Int) < S 4) (hb : (b : Int) < S 2) (hf : S (10 + 3 * p) = (f : Int)) (ho : qEnd S (94 + 2 * b) f = (o : Int)) (hg : qGoal S p = (g : Int)) (f8 : f < 8) (o8 : o < 8) (g8 : g < 8) (Y : Nat → Int) : ∃ Y', m_X4_tellWords 30 p b (qWant S p) 7 (hput u 7 Y) = some (0, hput u 7 Y') ∧ ∀ j, j < 12 → Y' j = wds S p b (nrX u t f o g) j := by
  have w2 := ws.2.2.1
  have w4 := ws.2.2.2.2.1
  have w5 := ws.2.2.2.2.2.1
  have w6 := ws.2.2.2.2.2.2.1
  have ht := r.ht
  have ha := r.ha
  have p4 : p < 4 := by omega
  have rY : ∀ Y, RepS (hput u 7 Y) 30 t S := fun Y => r.fr (ext.put u 7 Y) (fun a _ _ => agr.put (by omega)) (fun a _ _ => agr.put (by omega))
  have lf : ∀ Y, m_X4_leftTo 30 p b (hput u 7 Y) = some (qLeft S p b, hput u 7 Y) := fun Y => x_leftTo (rY Y) ws hp hb
  have ov : ∀ Y, m_X1_across (t + 1) b f (hput u 7 Y) = some ((o : Int), hput u 7 Y) := fun Y => by
    rw [← ho]
    exact x_over (rY Y) ws hb f
  have o1 := oth_1 ws hp
  have wo : w32 (oth S p + 1 - 1) = oth S p := by
    rw [w32_id ⟨by omega, by omega⟩]
    omega
  have ot : ∀ Y, m_X4_othersIn 30 f (hput u 7 Y) = some (oth S p + 1, hput u 7 Y) := fun Y => by
    have l := x_othL (rY Y) ws f (S 4).toNat 1000000000 0 0 (by omega) (by omega) (by omega) (by omega)
    rw [Int.zero_add, ← hf, o1.1] at l
    rw [← hf]
    simp only [m_X4_othersIn, hlet_p]
    exact l
  have a1 : ∀ Y, hV (hput u 7 Y) (30 + 1) p = (f : Int) := fun Y => by rw [(rY Y).at p hp, hf]
  have a2 : ∀ Y, hV (hput u 7 Y) (t + 11) p = S (11 + 3 * p) := fun Y => (rY Y).home p hp
  have a3 : ∀ Y, hV (hput u 7 Y) 30 1 = S 6 := fun Y => (rY Y).v6
  have e17 : ∀ Y, hV (hput u 7 Y) (t + 17) = hV u (t + 17) := fun Y => hV_put_n (by omega)
  have f64 : 8 * f + g < 64 := by omega
  have o64 : 8 * o + g < 64 := by omega
  have wf := ix_f8 f8 g8
  have wo2 := ix_f8 o8 g8
  have ne : ∀ Y, m_X7_nearer t f o g (hput u 7 Y) = some (nrX u t f o g, hput u 7 Y) := fun Y => by
    unfold nrX
    simp only [m_X7_nearer_L39, m_X7_nearer, hgI_k, hgR_k, hpI_k, hpR_k, hpZ_k, haI_k, haR_k, hsI_k, hsZ_k, hlen_k, hlet_p, hret_p, hretZ_0, hretZ_1, hif_p, okk_setV, okk_setF, nV, nF, fV, vF, okk_put, nP, fP, haI_n, TwA.k0 ht, TwA.k1 ht, TwA.k2 ht, TwA.k3 ht, TwA.k4 ht, TwA.k5 ht, TwA.k6 ht, TwA.k7 ht, TwA.k8 ht, TwA.k9 ht, TwA.k10 ht, TwA.k11 ht, TwA.k12 ht, TwA.k13 ht, TwA.k14 ht, TwA.k15 ht, TwA.k16 ht, TwA.k17 ht, TwA.n2 ht, TwA.n3 ht, TwA.n4 ht, TwA.n6 ht, TwA.n7 ht, TwA.n8 ht, TwA.n9 ht, TwA.n10 ht, TwA.n11 ht, TwA.n12 ht, TwA.n13 ht, TwA.n14 ht, TwA.n15 ht, TwA.n16 ht, TwA.n17 ht, TwA.f2 ht, TwA.f3 ht, TwA.f5 ht, TwA.f6 ht, TwA.f8 ht, TwA.f9 ht, TwA.f11 ht, TwA.f12 ht, TwA.f13 ht, TwA.f14 ht, TwA.f15 ht, TwA.b0 ht, TwA.b1 ht, TwA.b2 ht, TwA.g0 ht, TwA.g1 ht, TwA.g2 ht, wf, wo2, f64, o64, e17]
    by_cases z : hV u (t + 17) (8 * f + g) = 99
    · rw [if_neg (fun y => y z), if_pos z]
    · rw [if_pos z, if_neg z]
  have to0 : ∀ Y, hF (hput u 7 Y) 30 0 = t := fun Y => (rY Y).to
  have k12 : ¬ ((12 : Nat) : Int) < 12 := by decide
  have on : (o : Int) ≠ -1 := by omega
  have i0 : (0 : Nat) < 12 := by decide
  have tn : ∀ n : Nat, ((n : Nat) : Int).toNat = n := fun n => Int.toNat_natCast n
  have t0 : (0 : Int).toNat = 0 := rfl
  have t1 : (1 : Int).toNat = 1 := rfl
  have t2 : (2 : Int).toNat = 2 := rfl
  have t3 : (3 : Int).toNat = 3 := rfl
  have t4 : (4 : Int).toNat = 4 := rfl
  have t5 : (5 : Int).toNat = 5 := rfl
  have t6 : (6 : Int).toNat = 6 := rfl
  have t7 : (7 : Int).toNat = 7 := rfl
  have t8 : (8 : Int).toNat = 8 := rfl
  have t9 : (9 : Int).toNat = 9 := rfl
  have t10 : (10 : Int).toNat = 10 := rfl
  have t11 : (11 : Int).toNat = 11 := rfl
  have gp : ∀ n : Nat, n < 12 → (0 : Int) ≤ (n : Int) ∧ (n : Int) < ((12 : Nat) : Int) := fun n h => by omega
  have s0 : ∀ (x : Int) (K : hM) (Y : Nat → Int), hsI 21 7 0 x K (hput u 7 Y) = K (hput u 7 (sup Y 0 x)) := fun x K Y => by
    rw [← setV_put]
    exact hsI_k (i := 0) (kk_7 (show shp (hput u 7 Y) from hs)) (by decide) (by rw [nP, ln_7 hs]; decide)
  have s1 : ∀ (x : Int) (K : hM) (Y : Nat → Int), hsI 21 7 1 x K (hput u 7 Y) = K (hput u 7 (sup Y 1 x)) := fun x K Y => by
    rw [← setV_put]
    exact hsI_k (i := 1) (kk_7 (show shp (hput u 7 Y) from hs)) (by decide) (by rw [nP, ln_7 hs]; decide)
  have s2 : ∀ (x : Int) (K : hM) (Y : Nat → Int), hsI 21 7 2 x K (hput u 7 Y) = K (hput u 7 (sup Y 2 x)) := fun x K Y => by
    rw [← setV_put]
    exact hsI_k (i := 2) (kk_7 (show shp (hput u 7 Y) from hs)) (by decide) (by rw [nP, ln_7 hs]; decide)
  have s3 : ∀ (x : Int) (K : hM) (Y : Nat → Int), hsI 21 7 3 x K (hput u 7 Y) = K (hput u 7 (sup Y 3 x)) := fun x K Y => by
    rw [← setV_put]
    exact hsI_k (i := 3) (kk_7 (show shp (hput u 7 Y) from hs)) (by decide) (by rw [nP, ln_7 hs]; decide)
  have s4 : ∀ (x : Int) (K : hM) (Y : Nat → Int), hsI 21 7 4 x K (hput u 7 Y) = K (hput u 7 (sup Y 4 x)) := fun x K Y => by
    rw [← setV_put]
    exact hsI_k (i := 4) (kk_7 (show shp (hput u 7 Y) from hs)) (by decide) (by rw [nP, ln_7 hs]; decide)
  have s5 : ∀ (x : Int) (K : hM) (Y : Nat → Int), hsI 21 7 5 x K (hput u 7 Y) = K (hput u 7 (sup Y 5 x)) := fun x K Y => by
    rw [← setV_put]
    exact hsI_k (i := 5) (kk_7 (show shp (hput u 7 Y) from hs)) (by decide) (by rw [nP, ln_7 hs]; decide)
  have s6 : ∀ (x : Int) (K : hM) (Y : Nat → Int), hsI 21 7 6 x K (hput u 7 Y) = K (hput u 7 (sup Y 6 x)) := fun x K Y => by
    rw [← setV_put]
    exact hsI_k (i := 6) (kk_7 (show shp (hput u 7 Y) from hs)) (by decide) (by rw [nP, ln_7 hs]; decide)
  have s7 : ∀ (x : Int) (K : hM) (Y : Nat → Int), hsI 21 7 7 x K (hput u 7 Y) = K (hput u 7 (sup Y 7 x)) := fun x K Y => by
    rw [← setV_put]
    exact hsI_k (i := 7) (kk_7 (show shp (hput u 7 Y) from hs)) (by decide) (by rw [nP, ln_7 hs]; decide)
  have s8 : ∀ (x : Int) (K : hM) (Y : Nat → Int), hsI 21 7 8 x K (hput u 7 Y) = K (hput u 7 (sup Y 8 x)) := fun x K Y => by
    rw [← setV_put]
    exact hsI_k (i := 8) (kk_7 (show shp (hput u 7 Y) from hs)) (by decide) (by rw [nP, ln_7 hs]; decide)
  have s9 : ∀ (x : Int) (K : hM) (Y : Nat → Int), hsI 21 7 9 x K (hput u 7 Y) = K (hput u 7 (sup Y 9 x)) := fun x K Y => by
    rw [← setV_put]
    exact hsI_k (i := 9) (kk_7 (show shp (hput u 7 Y) from hs)) (by decide) (by rw [nP, ln_7 hs]; decide)
  have s10 : ∀ (x : Int) (K : hM) (Y : Nat → Int), hsI 21 7 10 x K (hput u 7 Y) = K (hput u 7 (sup Y 10 x)) := fun x K Y => by
    rw [← setV_put]
    exact hsI_k (i := 10) (kk_7 (show shp (hput u 7 Y) from hs)) (by decide) (by rw [nP, ln_7 hs]; decide)
  have s11 : ∀ (x : Int) (K : hM) (Y : Nat → Int), hsI 21 7 11 x K (hput u 7 Y) = K (hput u 7 (sup Y 11 x)) := fun x K Y => by
    rw [← setV_put]
    exact hsI_k (i := 11) (kk_7 (show shp (hput u 7 Y) from hs)) (by decide) (by rw [nP, ln_7 hs]; decide)
  rcases qWant_in ws p with hw | ⟨hw, hw5⟩
  · have hg' : S (11 + 3 * p) = (g : Int) := by
      unfold qGoal at hg
      rw [if_neg (by omega)] at hg
      exact hg
    refine ⟨sup (sup (sup (sup (sup (sup (sup (sup (sup (sup (sup (sup Y 0 (p : Int)) 1 (b : Int)) 2 (f : Int)) 3 (o : Int)) 4 (S (11 + 3 * p))) 5 (qLeft S p b)) 6 (S 6)) 7 (g : Int)) 8 0) 9 0) 10 (nrX u t f o g)) 11 (oth S p), ?_, fun j hj => ?_⟩
    · have nw : ¬ (-1 : Int) ≠ -1 := by decide
      simp only [m_X4_tellWords_L65, m_X4_tellWords_L187, m_X4_tellWords_L158, m_X4_tellWords_L49, m_X4_tellWords, hlet_p, hret_p, hif_p, hgR_k, hgI_k, hlen_k, okk_put, nP, fP, hcallV_b, hbind_p, haI_n, StA.k0 ha, StA.k1 ha, StA.k2 ha, StA.k3 ha, StA.k4 ha, StA.n1 ha, StA.n2 ha, StA.n3 ha, StA.n4 ha, StA.f2 ha, StA.f3 ha, StA.f4 ha, StA.f5 ha, r.to, TwA.k0 ht, TwA.k1 ht, TwA.k2 ht, TwA.k3 ht, TwA.k4 ht, TwA.k5 ht, TwA.k6 ht, TwA.k7 ht, TwA.k8 ht, TwA.k9 ht, TwA.k10 ht, TwA.k11 ht, TwA.k12 ht, TwA.k13 ht, TwA.k14 ht, TwA.k15 ht, TwA.k16 ht, TwA.k17 ht, TwA.n2 ht, TwA.n3 ht, TwA.n4 ht, TwA.n6 ht, TwA.n7 ht, TwA.n8 ht, TwA.n9 ht, TwA.n10 ht, TwA.n11 ht, TwA.n12 ht, TwA.n13 ht, TwA.n14 ht, TwA.n15 ht, TwA.n16 ht, TwA.n17 ht, TwA.f2 ht, TwA.f3 ht, TwA.f5 ht, TwA.f6 ht, TwA.f8 ht, TwA.f9 ht, TwA.f11 ht, TwA.f12 ht, TwA.f13 ht, TwA.f14 ht, TwA.f15 ht, TwA.b0 ht, TwA.b1 ht, TwA.b2 ht, TwA.g0 ht, TwA.g1 ht, TwA.g2 ht, kk_7 hs, ln_7 hs, p4, a1, a2, a3, ov, hw, if_neg nw, hg', if_neg k12, if_pos on, lf, ne, ot, wo, s0, s1, s2, s3, s4, s5, s6, s7, s8, s9, s10, s11]
    · rw [w12 Y _ _ _ _ _ _ _ _ _ _ _ _ j hj]
      unfold wds
      rw [hf, ho, hg, if_neg (show ¬ 0 ≤ qWant S p by omega), if_neg (show ¬ 0 ≤ qWant S p by omega)]
  · obtain ⟨c, hc⟩ : ∃ c : Nat, qWant S p = c := ⟨(qWant S p).toNat, by omega⟩
    have c5 : (c : Int) < S 5 := by omega
    have c8 : c < 8 := by omega
    have hg' : S (129 + 4 * c) = (g : Int) := by
      unfold qGoal at hg
      rw [if_pos hw, hc, Int.toNat_natCast] at hg
      exact hg
    have wa1 : ∀ Y, hV (hput u 7 Y) (t + 14) c = (g : Int) := fun Y => by rw [(rY Y).wa1 c c5, hg']
    have wa2 : ∀ Y, hV (hput u 7 Y) (t + 15) c = S (130 + 4 * c) := fun Y => (rY Y).wa2 c c5
    have wa3 : ∀ Y, hV (hput u 7 Y) (t + 16) c = S (131 + 4 * c) := fun Y => (rY Y).wa3 c c5
    refine ⟨sup (sup (sup (sup (sup (sup (sup (sup (sup (sup (sup (sup Y 0 (p : Int)) 1 (b : Int)) 2 (f : Int)) 3 (o : Int)) 4 (S (11 + 3 * p))) 5 (qLeft S p b)) 6 (S 6)) 7 (g : Int)) 8 (S (131 + 4 * c))) 9 (w32 (S (130 + 4 * c) - S 6))) 10 (nrX u t f o g)) 11 (oth S p), ?_, fun j hj => ?_⟩
    · have nw : (c : Int) ≠ -1 := by omega
      simp only [m_X4_tellWords_L65, m_X4_tellWords_L187, m_X4_tellWords_L158, m_X4_tellWords_L49, m_X4_tellWords, hlet_p, hret_p, hif_p, hgR_k, hgI_k, hlen_k, okk_put, nP, fP, hcallV_b, hbind_p, haI_n, StA.k0 ha, StA.k1 ha, StA.k2 ha, StA.k3 ha, StA.k4 ha, StA.n1 ha, StA.n2 ha, StA.n3 ha, StA.n4 ha, StA.f2 ha, StA.f3 ha, StA.f4 ha, StA.f5 ha, r.to, TwA.k0 ht, TwA.k1 ht, TwA.k2 ht, TwA.k3 ht, TwA.k4 ht, TwA.k5 ht, TwA.k6 ht, TwA.k7 ht, TwA.k8 ht, TwA.k9 ht, TwA.k10 ht, TwA.k11 ht, TwA.k12 ht, TwA.k13 ht, TwA.k14 ht, TwA.k15 ht, TwA.k16 ht, TwA.k17 ht, TwA.n2 ht, TwA.n3 ht, TwA.n4 ht, TwA.n6 ht, TwA.n7 ht, TwA.n8 ht, TwA.n9 ht, TwA.n10 ht, TwA.n11 ht, TwA.n12 ht, TwA.n13 ht, TwA.n14 ht, TwA.n15 ht, TwA.n16 ht, TwA.n17 ht, TwA.f2 ht, TwA.f3 ht, TwA.f5 ht, TwA.f6 ht, TwA.f8 ht, TwA.f9 ht, TwA.f11 ht, TwA.f12 ht, TwA.f13 ht, TwA.f14 ht, TwA.f15 ht, TwA.b0 ht, TwA.b1 ht, TwA.b2 ht, TwA.g0 ht, TwA.g1 ht, TwA.g2 ht, kk_7 hs, ln_7 hs, p4, c8, a1, a2, a3, wa1, wa2, wa3, ov, hc, if_pos nw, if_neg k12, if_pos on, lf, ne, ot, wo, s0, s1, s2, s3, s4, s5, s6, s7, s8, s9, s10, s11]
    · rw [w12 Y _ _ _ _ _ _ _ _ _ _ _ _ j hj]
      unfold wds
      rw [hf, ho, hg, if_pos hw, if_pos hw, hc, Int.toNat_natCast]
