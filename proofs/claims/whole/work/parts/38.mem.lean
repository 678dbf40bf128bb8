/-! frames -/
def sup (S : Nat → Int) (k : Nat) (x : Int) : Nat → Int := fun j => if j = k then x else S j
theorem sup_n {S : Nat → Int} {k : Nat} {x : Int} {j : Nat} (h : j ≠ k) : sup S k x j = S j := if_neg h
theorem sup_s {S : Nat → Int} {k : Nat} {x : Int} : sup S k x k = x := if_pos rfl
theorem hV_sup (u : hS) (a k : Nat) (x : Int) : hV (hsetV u a k x) a = sup (hV u a) k x := by
  funext j
  by_cases h : j = k
  · rw [h, hV_setV_s, sup_s]
  · rw [hV_setV_i h, sup_n h]
theorem hV_ne {u : hS} {a b k : Nat} {x : Int} (h : b ≠ a) : hV (hsetV u a k x) b = hV u b := by
  funext j
  exact hV_setV_a h
def agr (u v : hS) (a : Nat) : Prop := ∀ i, hV v a i = hV u a i ∧ hF v a i = hF u a i
def ext (u v : hS) : Prop := hB u ≤ hB v ∧ ∀ a, a < hB u → hK v a = hK u a ∧ hN v a = hN u a
theorem ext.rf (u : hS) : ext u u := ⟨Nat.le_refl _, fun _ _ => ⟨rfl, rfl⟩⟩
theorem ext.tr {u v w : hS} (h : ext u v) (k : ext v w) : ext u w := ⟨Nat.le_trans h.1 k.1, fun a q => by
  have h1 := h.2 a q
  have h2 := k.2 a (Nat.lt_of_lt_of_le q h.1)
  exact ⟨h2.1.trans h1.1, h2.2.trans h1.2⟩⟩
theorem ext.setV (u : hS) (a i : Nat) (x : Int) : ext u (hsetV u a i x) := ⟨Nat.le_refl _, fun _ _ => ⟨rfl, rfl⟩⟩
theorem ext.setF (u : hS) (a i x : Nat) : ext u (hsetF u a i x) := ⟨Nat.le_refl _, fun _ _ => ⟨rfl, rfl⟩⟩
theorem ext.copy (u : hS) (a p b q n : Nat) : ext u (hcopy u a p b q n) := ⟨Nat.le_refl _, fun _ _ => ⟨rfl, rfl⟩⟩
theorem ext.ok {u v : hS} (h : ext u v) {a k : Nat} (h1 : okk u a k) : okk v a k := ⟨h1.1, Nat.lt_of_lt_of_le h1.2.1 h.1, by rw [(h.2 a h1.2.1).1]; exact h1.2.2⟩
theorem ext.n {u v : hS} (h : ext u v) {a k : Nat} (h1 : okk u a k) : hN v a = hN u a := (h.2 a h1.2.1).2
theorem agr.setV {u : hS} {a i : Nat} {x : Int} {b : Nat} (h : b ≠ a) : agr u (hsetV u a i x) b := fun _ => ⟨hV_setV_a h, rfl⟩
theorem agr.tr {u v w : hS} {a : Nat} (h : agr u v a) (k : agr v w a) : agr u w a := fun i => ⟨(k i).1.trans (h i).1, (k i).2.trans (h i).2⟩
theorem StA.fr {u v : hS} {s : Nat} (h : StA u s) (e : ext u v) (g : ∀ a, s ≤ a → a ≤ s + 4 → agr u v a) : StA v s := ⟨e.ok h.k0, e.ok h.k1, e.ok h.k2, e.ok h.k3, e.ok h.k4, (e.n h.k1).trans h.n1, (e.n h.k2).trans h.n2, (e.n h.k3).trans h.n3, (e.n h.k4).trans h.n4, (g s (by omega) (by omega) 2).2.trans h.f2, (g s (by omega) (by omega) 3).2.trans h.f3, (g s (by omega) (by omega) 4).2.trans h.f4, (g s (by omega) (by omega) 5).2.trans h.f5⟩
theorem TwA.fr {u v : hS} {t : Nat} (h : TwA u t) (e : ext u v) (g : ∀ a, t ≤ a → a ≤ t + 17 → agr u v a) : TwA v t := ⟨e.ok h.k0, e.ok h.k1, e.ok h.k2, e.ok h.k3, e.ok h.k4, e.ok h.k5, e.ok h.k6, e.ok h.k7, e.ok h.k8, e.ok h.k9, e.ok h.k10, e.ok h.k11, e.ok h.k12, e.ok h.k13, e.ok h.k14, e.ok h.k15, e.ok h.k16, e.ok h.k17, (e.n h.k2).trans h.n2, (e.n h.k3).trans h.n3, (e.n h.k4).trans h.n4, (e.n h.k6).trans h.n6, (e.n h.k7).trans h.n7, (e.n h.k8).trans h.n8, (e.n h.k9).trans h.n9, (e.n h.k10).trans h.n10, (e.n h.k11).trans h.n11, (e.n h.k12).trans h.n12, (e.n h.k13).trans h.n13, (e.n h.k14).trans h.n14, (e.n h.k15).trans h.n15, (e.n h.k16).trans h.n16, (e.n h.k17).trans h.n17, (g t (by omega) (by omega) 2).2.trans h.f2, (g t (by omega) (by omega) 3).2.trans h.f3, (g t (by omega) (by omega) 5).2.trans h.f5, (g t (by omega) (by omega) 6).2.trans h.f6, (g t (by omega) (by omega) 8).2.trans h.f8, (g t (by omega) (by omega) 9).2.trans h.f9, (g t (by omega) (by omega) 11).2.trans h.f11, (g t (by omega) (by omega) 12).2.trans h.f12, (g t (by omega) (by omega) 13).2.trans h.f13, (g t (by omega) (by omega) 14).2.trans h.f14, (g t (by omega) (by omega) 15).2.trans h.f15, (g (t + 1) (by omega) (by omega) 0).2.trans h.b0, (g (t + 1) (by omega) (by omega) 1).2.trans h.b1, (g (t + 1) (by omega) (by omega) 2).2.trans h.b2, (g (t + 5) (by omega) (by omega) 0).2.trans h.g0, (g (t + 5) (by omega) (by omega) 1).2.trans h.g1, (g (t + 5) (by omega) (by omega) 2).2.trans h.g2⟩
theorem RepS.fr {u v : hS} {s t : Nat} {S : Nat → Int} (h : RepS u s t S) (e : ext u v) (gs : ∀ a, s ≤ a → a ≤ s + 4 → agr u v a) (gt : ∀ a, t ≤ a → a ≤ t + 17 → agr u v a) : RepS v s t S := ⟨h.ha.fr e gs, h.ht.fr e gt, (gs s (by omega) (by omega) 0).2.trans h.to, (gt t (by omega) (by omega) 0).1.trans h.v0, (gt t (by omega) (by omega) 1).1.trans h.v1, (gt (t + 1) (by omega) (by omega) 3).1.trans h.v2, (gt (t + 5) (by omega) (by omega) 3).1.trans h.v3, (gt t (by omega) (by omega) 7).1.trans h.v4, (gt t (by omega) (by omega) 10).1.trans h.v5, (gs s (by omega) (by omega) 1).1.trans h.v6, (gt t (by omega) (by omega) 4).1.trans h.v7, fun i k => (gs (s + 1) (by omega) (by omega) i).1.trans (h.at i k), fun i k => (gt (t + 11) (by omega) (by omega) i).1.trans (h.home i k), fun i k => (gs (s + 2) (by omega) (by omega) i).1.trans (h.paid i k), fun i j k l => (gs (s + 3) (by omega) (by omega) (9 * i + j)).1.trans (h.cro i j k l), fun i j k l => (gs (s + 4) (by omega) (by omega) (9 * i + j)).1.trans (h.sin i j k l), fun i k => (gt (t + 2) (by omega) (by omega) i).1.trans (h.br0 i k), fun i k => (gt (t + 3) (by omega) (by omega) i).1.trans (h.br1 i k), fun i k => (gt (t + 6) (by omega) (by omega) i).1.trans (h.fe0 i k), fun i k => (gt (t + 7) (by omega) (by omega) i).1.trans (h.fe1 i k), fun i k => (gt (t + 9) (by omega) (by omega) i).1.trans (h.fr0 i k), fun i k => (gt (t + 10) (by omega) (by omega) i).1.trans (h.fr1 i k), fun i k => (gt (t + 13) (by omega) (by omega) i).1.trans (h.wa0 i k), fun i k => (gt (t + 14) (by omega) (by omega) i).1.trans (h.wa1 i k), fun i k => (gt (t + 15) (by omega) (by omega) i).1.trans (h.wa2 i k), fun i k => (gt (t + 16) (by omega) (by omega) i).1.trans (h.wa3 i k)⟩
theorem RepS.setAt {u : hS} {s t : Nat} {S : Nat → Int} (h : RepS u s t S) (d : s + 5 ≤ t ∨ t + 18 ≤ s) {p : Nat} (hp : p < 4) (w2 : S 2 ≤ 9) (w4 : S 4 ≤ 4) (x : Int) : RepS (hsetV u (s + 1) p x) s t (sup S (10 + 3 * p) x) := by
  refine ⟨h.ha, h.ht, h.to, ?_, ?_, ?_, ?_, ?_, ?_, ?_, ?_, ?_, ?_, ?_, ?_, ?_, ?_, ?_, ?_, ?_, ?_, ?_, ?_, ?_, ?_, ?_⟩
  · rw [hV_setV_a (by omega), sup_n (by omega)]; exact h.v0
  · rw [hV_setV_a (by omega), sup_n (by omega)]; exact h.v1
  · rw [hV_setV_a (by omega), sup_n (by omega)]; exact h.v2
  · rw [hV_setV_a (by omega), sup_n (by omega)]; exact h.v3
  · rw [hV_setV_a (by omega), sup_n (by omega)]; exact h.v4
  · rw [hV_setV_a (by omega), sup_n (by omega)]; exact h.v5
  · rw [hV_setV_a (by omega), sup_n (by omega)]; exact h.v6
  · rw [hV_setV_a (by omega), sup_n (by omega)]; exact h.v7
  · intro i k; rw [sup_n (by omega)] at k
    by_cases z : i = p
    · subst z; rw [hV_setV_s, sup_s]
    · rw [hV_setV_i z, sup_n (by omega)]; exact h.at i k
  · intro i k; rw [sup_n (by omega)] at k
    rw [hV_setV_a (by omega), sup_n (by omega)]; exact h.home i k
  · intro i k; rw [sup_n (by omega)] at k
    rw [hV_setV_a (by omega), sup_n (by omega)]; exact h.paid i k
  · intro i j k l; rw [sup_n (by omega)] at k l
    rw [hV_setV_a (by omega), sup_n (by omega)]; exact h.cro i j k l
  · intro i j k l; rw [sup_n (by omega)] at k l
    rw [hV_setV_a (by omega), sup_n (by omega)]; exact h.sin i j k l
  · intro i k; rw [sup_n (by omega)] at k
    rw [hV_setV_a (by omega), sup_n (by omega)]; exact h.br0 i k
  · intro i k; rw [sup_n (by omega)] at k
    rw [hV_setV_a (by omega), sup_n (by omega)]; exact h.br1 i k
  · intro i k; rw [sup_n (by omega)] at k
    rw [hV_setV_a (by omega), sup_n (by omega)]; exact h.fe0 i k
  · intro i k; rw [sup_n (by omega)] at k
    rw [hV_setV_a (by omega), sup_n (by omega)]; exact h.fe1 i k
  · intro i k; rw [sup_n (by omega)] at k
    rw [hV_setV_a (by omega), sup_n (by omega)]; exact h.fr0 i k
  · intro i k; rw [sup_n (by omega)] at k
    rw [hV_setV_a (by omega), sup_n (by omega)]; exact h.fr1 i k
  · intro i k; rw [sup_n (by omega)] at k
    rw [hV_setV_a (by omega), sup_n (by omega)]; exact h.wa0 i k
  · intro i k; rw [sup_n (by omega)] at k
    rw [hV_setV_a (by omega), sup_n (by omega)]; exact h.wa1 i k
  · intro i k; rw [sup_n (by omega)] at k
    rw [hV_setV_a (by omega), sup_n (by omega)]; exact h.wa2 i k
  · intro i k; rw [sup_n (by omega)] at k
    rw [hV_setV_a (by omega), sup_n (by omega)]; exact h.wa3 i k
theorem RepS.setPaid {u : hS} {s t : Nat} {S : Nat → Int} (h : RepS u s t S) (d : s + 5 ≤ t ∨ t + 18 ≤ s) {p : Nat} (hp : p < 4) (w2 : S 2 ≤ 9) (w4 : S 4 ≤ 4) (x : Int) : RepS (hsetV u (s + 2) p x) s t (sup S (12 + 3 * p) x) := by
  refine ⟨h.ha, h.ht, h.to, ?_, ?_, ?_, ?_, ?_, ?_, ?_, ?_, ?_, ?_, ?_, ?_, ?_, ?_, ?_, ?_, ?_, ?_, ?_, ?_, ?_, ?_, ?_⟩
  · rw [hV_setV_a (by omega), sup_n (by omega)]; exact h.v0
  · rw [hV_setV_a (by omega), sup_n (by omega)]; exact h.v1
  · rw [hV_setV_a (by omega), sup_n (by omega)]; exact h.v2
  · rw [hV_setV_a (by omega), sup_n (by omega)]; exact h.v3
  · rw [hV_setV_a (by omega), sup_n (by omega)]; exact h.v4
  · rw [hV_setV_a (by omega), sup_n (by omega)]; exact h.v5
  · rw [hV_setV_a (by omega), sup_n (by omega)]; exact h.v6
  · rw [hV_setV_a (by omega), sup_n (by omega)]; exact h.v7
  · intro i k; rw [sup_n (by omega)] at k
    rw [hV_setV_a (by omega), sup_n (by omega)]; exact h.at i k
  · intro i k; rw [sup_n (by omega)] at k
    rw [hV_setV_a (by omega), sup_n (by omega)]; exact h.home i k
  · intro i k; rw [sup_n (by omega)] at k
    by_cases z : i = p
    · subst z; rw [hV_setV_s, sup_s]
    · rw [hV_setV_i z, sup_n (by omega)]; exact h.paid i k
  · intro i j k l; rw [sup_n (by omega)] at k l
    rw [hV_setV_a (by omega), sup_n (by omega)]; exact h.cro i j k l
  · intro i j k l; rw [sup_n (by omega)] at k l
    rw [hV_setV_a (by omega), sup_n (by omega)]; exact h.sin i j k l
  · intro i k; rw [sup_n (by omega)] at k
    rw [hV_setV_a (by omega), sup_n (by omega)]; exact h.br0 i k
  · intro i k; rw [sup_n (by omega)] at k
    rw [hV_setV_a (by omega), sup_n (by omega)]; exact h.br1 i k
  · intro i k; rw [sup_n (by omega)] at k
    rw [hV_setV_a (by omega), sup_n (by omega)]; exact h.fe0 i k
  · intro i k; rw [sup_n (by omega)] at k
    rw [hV_setV_a (by omega), sup_n (by omega)]; exact h.fe1 i k
  · intro i k; rw [sup_n (by omega)] at k
    rw [hV_setV_a (by omega), sup_n (by omega)]; exact h.fr0 i k
  · intro i k; rw [sup_n (by omega)] at k
    rw [hV_setV_a (by omega), sup_n (by omega)]; exact h.fr1 i k
  · intro i k; rw [sup_n (by omega)] at k
    rw [hV_setV_a (by omega), sup_n (by omega)]; exact h.wa0 i k
  · intro i k; rw [sup_n (by omega)] at k
    rw [hV_setV_a (by omega), sup_n (by omega)]; exact h.wa1 i k
  · intro i k; rw [sup_n (by omega)] at k
    rw [hV_setV_a (by omega), sup_n (by omega)]; exact h.wa2 i k
  · intro i k; rw [sup_n (by omega)] at k
    rw [hV_setV_a (by omega), sup_n (by omega)]; exact h.wa3 i k
theorem RepS.setCro {u : hS} {s t : Nat} {S : Nat → Int} (h : RepS u s t S) (d : s + 5 ≤ t ∨ t + 18 ≤ s) {p b : Nat} (hp : p < 4) (hb : b < 9) (w2 : S 2 ≤ 9) (w4 : S 4 ≤ 4) (x : Int) : RepS (hsetV u (s + 3) (9 * p + b) x) s t (sup S (22 + 9 * p + b) x) := by
  refine ⟨h.ha, h.ht, h.to, ?_, ?_, ?_, ?_, ?_, ?_, ?_, ?_, ?_, ?_, ?_, ?_, ?_, ?_, ?_, ?_, ?_, ?_, ?_, ?_, ?_, ?_, ?_⟩
  · rw [hV_setV_a (by omega), sup_n (by omega)]; exact h.v0
  · rw [hV_setV_a (by omega), sup_n (by omega)]; exact h.v1
  · rw [hV_setV_a (by omega), sup_n (by omega)]; exact h.v2
  · rw [hV_setV_a (by omega), sup_n (by omega)]; exact h.v3
  · rw [hV_setV_a (by omega), sup_n (by omega)]; exact h.v4
  · rw [hV_setV_a (by omega), sup_n (by omega)]; exact h.v5
  · rw [hV_setV_a (by omega), sup_n (by omega)]; exact h.v6
  · rw [hV_setV_a (by omega), sup_n (by omega)]; exact h.v7
  · intro i k; rw [sup_n (by omega)] at k
    rw [hV_setV_a (by omega), sup_n (by omega)]; exact h.at i k
  · intro i k; rw [sup_n (by omega)] at k
    rw [hV_setV_a (by omega), sup_n (by omega)]; exact h.home i k
  · intro i k; rw [sup_n (by omega)] at k
    rw [hV_setV_a (by omega), sup_n (by omega)]; exact h.paid i k
  · intro i j k l; rw [sup_n (by omega)] at k l
    by_cases z : 9 * i + j = (9 * p + b)
    · rw [z, hV_setV_s, show 22 + 9 * i + j = 22 + 9 * p + b by omega, sup_s]
    · rw [hV_setV_i z, sup_n (by omega)]; exact h.cro i j k l
  · intro i j k l; rw [sup_n (by omega)] at k l
    rw [hV_setV_a (by omega), sup_n (by omega)]; exact h.sin i j k l
  · intro i k; rw [sup_n (by omega)] at k
    rw [hV_setV_a (by omega), sup_n (by omega)]; exact h.br0 i k
  · intro i k; rw [sup_n (by omega)] at k
    rw [hV_setV_a (by omega), sup_n (by omega)]; exact h.br1 i k
  · intro i k; rw [sup_n (by omega)] at k
    rw [hV_setV_a (by omega), sup_n (by omega)]; exact h.fe0 i k
  · intro i k; rw [sup_n (by omega)] at k
    rw [hV_setV_a (by omega), sup_n (by omega)]; exact h.fe1 i k
  · intro i k; rw [sup_n (by omega)] at k
    rw [hV_setV_a (by omega), sup_n (by omega)]; exact h.fr0 i k
  · intro i k; rw [sup_n (by omega)] at k
    rw [hV_setV_a (by omega), sup_n (by omega)]; exact h.fr1 i k
  · intro i k; rw [sup_n (by omega)] at k
    rw [hV_setV_a (by omega), sup_n (by omega)]; exact h.wa0 i k
  · intro i k; rw [sup_n (by omega)] at k
    rw [hV_setV_a (by omega), sup_n (by omega)]; exact h.wa1 i k
  · intro i k; rw [sup_n (by omega)] at k
    rw [hV_setV_a (by omega), sup_n (by omega)]; exact h.wa2 i k
  · intro i k; rw [sup_n (by omega)] at k
    rw [hV_setV_a (by omega), sup_n (by omega)]; exact h.wa3 i k
theorem RepS.setSin {u : hS} {s t : Nat} {S : Nat → Int} (h : RepS u s t S) (d : s + 5 ≤ t ∨ t + 18 ≤ s) {p b : Nat} (hp : p < 4) (hb : b < 9) (w2 : S 2 ≤ 9) (w4 : S 4 ≤ 4) (x : Int) : RepS (hsetV u (s + 4) (9 * p + b) x) s t (sup S (58 + 9 * p + b) x) := by
  refine ⟨h.ha, h.ht, h.to, ?_, ?_, ?_, ?_, ?_, ?_, ?_, ?_, ?_, ?_, ?_, ?_, ?_, ?_, ?_, ?_, ?_, ?_, ?_, ?_, ?_, ?_, ?_⟩
  · rw [hV_setV_a (by omega), sup_n (by omega)]; exact h.v0
  · rw [hV_setV_a (by omega), sup_n (by omega)]; exact h.v1
  · rw [hV_setV_a (by omega), sup_n (by omega)]; exact h.v2
  · rw [hV_setV_a (by omega), sup_n (by omega)]; exact h.v3
  · rw [hV_setV_a (by omega), sup_n (by omega)]; exact h.v4
  · rw [hV_setV_a (by omega), sup_n (by omega)]; exact h.v5
  · rw [hV_setV_a (by omega), sup_n (by omega)]; exact h.v6
  · rw [hV_setV_a (by omega), sup_n (by omega)]; exact h.v7
  · intro i k; rw [sup_n (by omega)] at k
    rw [hV_setV_a (by omega), sup_n (by omega)]; exact h.at i k
  · intro i k; rw [sup_n (by omega)] at k
    rw [hV_setV_a (by omega), sup_n (by omega)]; exact h.home i k
  · intro i k; rw [sup_n (by omega)] at k
    rw [hV_setV_a (by omega), sup_n (by omega)]; exact h.paid i k
  · intro i j k l; rw [sup_n (by omega)] at k l
    rw [hV_setV_a (by omega), sup_n (by omega)]; exact h.cro i j k l
  · intro i j k l; rw [sup_n (by omega)] at k l
    by_cases z : 9 * i + j = (9 * p + b)
    · rw [z, hV_setV_s, show 58 + 9 * i + j = 58 + 9 * p + b by omega, sup_s]
    · rw [hV_setV_i z, sup_n (by omega)]; exact h.sin i j k l
  · intro i k; rw [sup_n (by omega)] at k
    rw [hV_setV_a (by omega), sup_n (by omega)]; exact h.br0 i k
  · intro i k; rw [sup_n (by omega)] at k
    rw [hV_setV_a (by omega), sup_n (by omega)]; exact h.br1 i k
  · intro i k; rw [sup_n (by omega)] at k
    rw [hV_setV_a (by omega), sup_n (by omega)]; exact h.fe0 i k
  · intro i k; rw [sup_n (by omega)] at k
    rw [hV_setV_a (by omega), sup_n (by omega)]; exact h.fe1 i k
  · intro i k; rw [sup_n (by omega)] at k
    rw [hV_setV_a (by omega), sup_n (by omega)]; exact h.fr0 i k
  · intro i k; rw [sup_n (by omega)] at k
    rw [hV_setV_a (by omega), sup_n (by omega)]; exact h.fr1 i k
  · intro i k; rw [sup_n (by omega)] at k
    rw [hV_setV_a (by omega), sup_n (by omega)]; exact h.wa0 i k
  · intro i k; rw [sup_n (by omega)] at k
    rw [hV_setV_a (by omega), sup_n (by omega)]; exact h.wa1 i k
  · intro i k; rw [sup_n (by omega)] at k
    rw [hV_setV_a (by omega), sup_n (by omega)]; exact h.wa2 i k
  · intro i k; rw [sup_n (by omega)] at k
    rw [hV_setV_a (by omega), sup_n (by omega)]; exact h.wa3 i k
theorem RepS.setDay {u : hS} {s t : Nat} {S : Nat → Int} (h : RepS u s t S) (d : s + 5 ≤ t ∨ t + 18 ≤ s) (w2 : S 2 ≤ 9) (w4 : S 4 ≤ 4) (x : Int) : RepS (hsetV u s 1 x) s t (sup S (6) x) := by
  refine ⟨h.ha, h.ht, h.to, ?_, ?_, ?_, ?_, ?_, ?_, ?_, ?_, ?_, ?_, ?_, ?_, ?_, ?_, ?_, ?_, ?_, ?_, ?_, ?_, ?_, ?_, ?_⟩
  · rw [hV_setV_a (by omega), sup_n (by omega)]; exact h.v0
  · rw [hV_setV_a (by omega), sup_n (by omega)]; exact h.v1
  · rw [hV_setV_a (by omega), sup_n (by omega)]; exact h.v2
  · rw [hV_setV_a (by omega), sup_n (by omega)]; exact h.v3
  · rw [hV_setV_a (by omega), sup_n (by omega)]; exact h.v4
  · rw [hV_setV_a (by omega), sup_n (by omega)]; exact h.v5
  · rw [hV_setV_s, sup_s]
  · rw [hV_setV_a (by omega), sup_n (by omega)]; exact h.v7
  · intro i k; rw [sup_n (by omega)] at k
    rw [hV_setV_a (by omega), sup_n (by omega)]; exact h.at i k
  · intro i k; rw [sup_n (by omega)] at k
    rw [hV_setV_a (by omega), sup_n (by omega)]; exact h.home i k
  · intro i k; rw [sup_n (by omega)] at k
    rw [hV_setV_a (by omega), sup_n (by omega)]; exact h.paid i k
  · intro i j k l; rw [sup_n (by omega)] at k l
    rw [hV_setV_a (by omega), sup_n (by omega)]; exact h.cro i j k l
  · intro i j k l; rw [sup_n (by omega)] at k l
    rw [hV_setV_a (by omega), sup_n (by omega)]; exact h.sin i j k l
  · intro i k; rw [sup_n (by omega)] at k
    rw [hV_setV_a (by omega), sup_n (by omega)]; exact h.br0 i k
  · intro i k; rw [sup_n (by omega)] at k
    rw [hV_setV_a (by omega), sup_n (by omega)]; exact h.br1 i k
  · intro i k; rw [sup_n (by omega)] at k
    rw [hV_setV_a (by omega), sup_n (by omega)]; exact h.fe0 i k
  · intro i k; rw [sup_n (by omega)] at k
    rw [hV_setV_a (by omega), sup_n (by omega)]; exact h.fe1 i k
  · intro i k; rw [sup_n (by omega)] at k
    rw [hV_setV_a (by omega), sup_n (by omega)]; exact h.fr0 i k
  · intro i k; rw [sup_n (by omega)] at k
    rw [hV_setV_a (by omega), sup_n (by omega)]; exact h.fr1 i k
  · intro i k; rw [sup_n (by omega)] at k
    rw [hV_setV_a (by omega), sup_n (by omega)]; exact h.wa0 i k
  · intro i k; rw [sup_n (by omega)] at k
    rw [hV_setV_a (by omega), sup_n (by omega)]; exact h.wa1 i k
  · intro i k; rw [sup_n (by omega)] at k
    rw [hV_setV_a (by omega), sup_n (by omega)]; exact h.wa2 i k
  · intro i k; rw [sup_n (by omega)] at k
    rw [hV_setV_a (by omega), sup_n (by omega)]; exact h.wa3 i k
