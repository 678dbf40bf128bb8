/-! places of a standing and of a town; what they hold -/
def StA (u : hS) (s : Nat) : Prop := okk u s 4 ∧ okk u (s + 1) 20 ∧ okk u (s + 2) 20 ∧ okk u (s + 3) 20 ∧ okk u (s + 4) 20 ∧ hN u (s + 1) = 4 ∧ hN u (s + 2) = 4 ∧ hN u (s + 3) = 36 ∧ hN u (s + 4) = 36 ∧ hF u s 2 = s + 1 ∧ hF u s 3 = s + 2 ∧ hF u s 4 = s + 3 ∧ hF u s 5 = s + 4
theorem StA.k0 {u : hS} {s : Nat} (h : StA u s) : okk u s 4 := h.1
theorem StA.k1 {u : hS} {s : Nat} (h : StA u s) : okk u (s + 1) 20 := h.2.1
theorem StA.k2 {u : hS} {s : Nat} (h : StA u s) : okk u (s + 2) 20 := h.2.2.1
theorem StA.k3 {u : hS} {s : Nat} (h : StA u s) : okk u (s + 3) 20 := h.2.2.2.1
theorem StA.k4 {u : hS} {s : Nat} (h : StA u s) : okk u (s + 4) 20 := h.2.2.2.2.1
theorem StA.n1 {u : hS} {s : Nat} (h : StA u s) : hN u (s + 1) = 4 := h.2.2.2.2.2.1
theorem StA.n2 {u : hS} {s : Nat} (h : StA u s) : hN u (s + 2) = 4 := h.2.2.2.2.2.2.1
theorem StA.n3 {u : hS} {s : Nat} (h : StA u s) : hN u (s + 3) = 36 := h.2.2.2.2.2.2.2.1
theorem StA.n4 {u : hS} {s : Nat} (h : StA u s) : hN u (s + 4) = 36 := h.2.2.2.2.2.2.2.2.1
theorem StA.f2 {u : hS} {s : Nat} (h : StA u s) : hF u s 2 = s + 1 := h.2.2.2.2.2.2.2.2.2.1
theorem StA.f3 {u : hS} {s : Nat} (h : StA u s) : hF u s 3 = s + 2 := h.2.2.2.2.2.2.2.2.2.2.1
theorem StA.f4 {u : hS} {s : Nat} (h : StA u s) : hF u s 4 = s + 3 := h.2.2.2.2.2.2.2.2.2.2.2.1
theorem StA.f5 {u : hS} {s : Nat} (h : StA u s) : hF u s 5 = s + 4 := h.2.2.2.2.2.2.2.2.2.2.2.2
def TwA (u : hS) (t : Nat) : Prop := okk u t 7 ∧ okk u (t + 1) 1 ∧ okk u (t + 2) 20 ∧ okk u (t + 3) 20 ∧ okk u (t + 4) 20 ∧ okk u (t + 5) 1 ∧ okk u (t + 6) 20 ∧ okk u (t + 7) 20 ∧ okk u (t + 8) 20 ∧ okk u (t + 9) 20 ∧ okk u (t + 10) 20 ∧ okk u (t + 11) 20 ∧ okk u (t + 12) 20 ∧ okk u (t + 13) 20 ∧ okk u (t + 14) 20 ∧ okk u (t + 15) 20 ∧ okk u (t + 16) 20 ∧ okk u (t + 17) 20 ∧ hN u (t + 2) = 9 ∧ hN u (t + 3) = 9 ∧ hN u (t + 4) = 9 ∧ hN u (t + 6) = 4 ∧ hN u (t + 7) = 4 ∧ hN u (t + 8) = 4 ∧ hN u (t + 9) = 4 ∧ hN u (t + 10) = 4 ∧ hN u (t + 11) = 4 ∧ hN u (t + 12) = 36 ∧ hN u (t + 13) = 8 ∧ hN u (t + 14) = 8 ∧ hN u (t + 15) = 8 ∧ hN u (t + 16) = 8 ∧ hN u (t + 17) = 64 ∧ hF u t 2 = t + 1 ∧ hF u t 3 = t + 5 ∧ hF u t 5 = t + 9 ∧ hF u t 6 = t + 10 ∧ hF u t 8 = t + 11 ∧ hF u t 9 = t + 12 ∧ hF u t 11 = t + 13 ∧ hF u t 12 = t + 14 ∧ hF u t 13 = t + 15 ∧ hF u t 14 = t + 16 ∧ hF u t 15 = t + 17 ∧ hF u (t + 1) 0 = t + 2 ∧ hF u (t + 1) 1 = t + 3 ∧ hF u (t + 1) 2 = t + 4 ∧ hF u (t + 5) 0 = t + 6 ∧ hF u (t + 5) 1 = t + 7 ∧ hF u (t + 5) 2 = t + 8
theorem TwA.k0 {u : hS} {t : Nat} (h : TwA u t) : okk u t 7 := h.1
theorem TwA.k1 {u : hS} {t : Nat} (h : TwA u t) : okk u (t + 1) 1 := h.2.1
theorem TwA.k2 {u : hS} {t : Nat} (h : TwA u t) : okk u (t + 2) 20 := h.2.2.1
theorem TwA.k3 {u : hS} {t : Nat} (h : TwA u t) : okk u (t + 3) 20 := h.2.2.2.1
theorem TwA.k4 {u : hS} {t : Nat} (h : TwA u t) : okk u (t + 4) 20 := h.2.2.2.2.1
theorem TwA.k5 {u : hS} {t : Nat} (h : TwA u t) : okk u (t + 5) 1 := h.2.2.2.2.2.1
theorem TwA.k6 {u : hS} {t : Nat} (h : TwA u t) : okk u (t + 6) 20 := h.2.2.2.2.2.2.1
theorem TwA.k7 {u : hS} {t : Nat} (h : TwA u t) : okk u (t + 7) 20 := h.2.2.2.2.2.2.2.1
theorem TwA.k8 {u : hS} {t : Nat} (h : TwA u t) : okk u (t + 8) 20 := h.2.2.2.2.2.2.2.2.1
theorem TwA.k9 {u : hS} {t : Nat} (h : TwA u t) : okk u (t + 9) 20 := h.2.2.2.2.2.2.2.2.2.1
theorem TwA.k10 {u : hS} {t : Nat} (h : TwA u t) : okk u (t + 10) 20 := h.2.2.2.2.2.2.2.2.2.2.1
theorem TwA.k11 {u : hS} {t : Nat} (h : TwA u t) : okk u (t + 11) 20 := h.2.2.2.2.2.2.2.2.2.2.2.1
theorem TwA.k12 {u : hS} {t : Nat} (h : TwA u t) : okk u (t + 12) 20 := h.2.2.2.2.2.2.2.2.2.2.2.2.1
theorem TwA.k13 {u : hS} {t : Nat} (h : TwA u t) : okk u (t + 13) 20 := h.2.2.2.2.2.2.2.2.2.2.2.2.2.1
theorem TwA.k14 {u : hS} {t : Nat} (h : TwA u t) : okk u (t + 14) 20 := h.2.2.2.2.2.2.2.2.2.2.2.2.2.2.1
theorem TwA.k15 {u : hS} {t : Nat} (h : TwA u t) : okk u (t + 15) 20 := h.2.2.2.2.2.2.2.2.2.2.2.2.2.2.2.1
theorem TwA.k16 {u : hS} {t : Nat} (h : TwA u t) : okk u (t + 16) 20 := h.2.2.2.2.2.2.2.2.2.2.2.2.2.2.2.2.1
theorem TwA.k17 {u : hS} {t : Nat} (h : TwA u t) : okk u (t + 17) 20 := h.2.2.2.2.2.2.2.2.2.2.2.2.2.2.2.2.2.1
theorem TwA.n2 {u : hS} {t : Nat} (h : TwA u t) : hN u (t + 2) = 9 := h.2.2.2.2.2.2.2.2.2.2.2.2.2.2.2.2.2.2.1
theorem TwA.n3 {u : hS} {t : Nat} (h : TwA u t) : hN u (t + 3) = 9 := h.2.2.2.2.2.2.2.2.2.2.2.2.2.2.2.2.2.2.2.1
theorem TwA.n4 {u : hS} {t : Nat} (h : TwA u t) : hN u (t + 4) = 9 := h.2.2.2.2.2.2.2.2.2.2.2.2.2.2.2.2.2.2.2.2.1
theorem TwA.n6 {u : hS} {t : Nat} (h : TwA u t) : hN u (t + 6) = 4 := h.2.2.2.2.2.2.2.2.2.2.2.2.2.2.2.2.2.2.2.2.2.1
theorem TwA.n7 {u : hS} {t : Nat} (h : TwA u t) : hN u (t + 7) = 4 := h.2.2.2.2.2.2.2.2.2.2.2.2.2.2.2.2.2.2.2.2.2.2.1
theorem TwA.n8 {u : hS} {t : Nat} (h : TwA u t) : hN u (t + 8) = 4 := h.2.2.2.2.2.2.2.2.2.2.2.2.2.2.2.2.2.2.2.2.2.2.2.1
theorem TwA.n9 {u : hS} {t : Nat} (h : TwA u t) : hN u (t + 9) = 4 := h.2.2.2.2.2.2.2.2.2.2.2.2.2.2.2.2.2.2.2.2.2.2.2.2.1
theorem TwA.n10 {u : hS} {t : Nat} (h : TwA u t) : hN u (t + 10) = 4 := h.2.2.2.2.2.2.2.2.2.2.2.2.2.2.2.2.2.2.2.2.2.2.2.2.2.1
theorem TwA.n11 {u : hS} {t : Nat} (h : TwA u t) : hN u (t + 11) = 4 := h.2.2.2.2.2.2.2.2.2.2.2.2.2.2.2.2.2.2.2.2.2.2.2.2.2.2.1
theorem TwA.n12 {u : hS} {t : Nat} (h : TwA u t) : hN u (t + 12) = 36 := h.2.2.2.2.2.2.2.2.2.2.2.2.2.2.2.2.2.2.2.2.2.2.2.2.2.2.2.1
theorem TwA.n13 {u : hS} {t : Nat} (h : TwA u t) : hN u (t + 13) = 8 := h.2.2.2.2.2.2.2.2.2.2.2.2.2.2.2.2.2.2.2.2.2.2.2.2.2.2.2.2.1
theorem TwA.n14 {u : hS} {t : Nat} (h : TwA u t) : hN u (t + 14) = 8 := h.2.2.2.2.2.2.2.2.2.2.2.2.2.2.2.2.2.2.2.2.2.2.2.2.2.2.2.2.2.1
theorem TwA.n15 {u : hS} {t : Nat} (h : TwA u t) : hN u (t + 15) = 8 := h.2.2.2.2.2.2.2.2.2.2.2.2.2.2.2.2.2.2.2.2.2.2.2.2.2.2.2.2.2.2.1
theorem TwA.n16 {u : hS} {t : Nat} (h : TwA u t) : hN u (t + 16) = 8 := h.2.2.2.2.2.2.2.2.2.2.2.2.2.2.2.2.2.2.2.2.2.2.2.2.2.2.2.2.2.2.2.1
theorem TwA.n17 {u : hS} {t : Nat} (h : TwA u t) : hN u (t + 17) = 64 := h.2.2.2.2.2.2.2.2.2.2.2.2.2.2.2.2.2.2.2.2.2.2.2.2.2.2.2.2.2.2.2.2.1
theorem TwA.f2 {u : hS} {t : Nat} (h : TwA u t) : hF u t 2 = t + 1 := h.2.2.2.2.2.2.2.2.2.2.2.2.2.2.2.2.2.2.2.2.2.2.2.2.2.2.2.2.2.2.2.2.2.1
theorem TwA.f3 {u : hS} {t : Nat} (h : TwA u t) : hF u t 3 = t + 5 := h.2.2.2.2.2.2.2.2.2.2.2.2.2.2.2.2.2.2.2.2.2.2.2.2.2.2.2.2.2.2.2.2.2.2.1
theorem TwA.f5 {u : hS} {t : Nat} (h : TwA u t) : hF u t 5 = t + 9 := h.2.2.2.2.2.2.2.2.2.2.2.2.2.2.2.2.2.2.2.2.2.2.2.2.2.2.2.2.2.2.2.2.2.2.2.1
theorem TwA.f6 {u : hS} {t : Nat} (h : TwA u t) : hF u t 6 = t + 10 := h.2.2.2.2.2.2.2.2.2.2.2.2.2.2.2.2.2.2.2.2.2.2.2.2.2.2.2.2.2.2.2.2.2.2.2.2.1
theorem TwA.f8 {u : hS} {t : Nat} (h : TwA u t) : hF u t 8 = t + 11 := h.2.2.2.2.2.2.2.2.2.2.2.2.2.2.2.2.2.2.2.2.2.2.2.2.2.2.2.2.2.2.2.2.2.2.2.2.2.1
theorem TwA.f9 {u : hS} {t : Nat} (h : TwA u t) : hF u t 9 = t + 12 := h.2.2.2.2.2.2.2.2.2.2.2.2.2.2.2.2.2.2.2.2.2.2.2.2.2.2.2.2.2.2.2.2.2.2.2.2.2.2.1
theorem TwA.f11 {u : hS} {t : Nat} (h : TwA u t) : hF u t 11 = t + 13 := h.2.2.2.2.2.2.2.2.2.2.2.2.2.2.2.2.2.2.2.2.2.2.2.2.2.2.2.2.2.2.2.2.2.2.2.2.2.2.2.1
theorem TwA.f12 {u : hS} {t : Nat} (h : TwA u t) : hF u t 12 = t + 14 := h.2.2.2.2.2.2.2.2.2.2.2.2.2.2.2.2.2.2.2.2.2.2.2.2.2.2.2.2.2.2.2.2.2.2.2.2.2.2.2.2.1
theorem TwA.f13 {u : hS} {t : Nat} (h : TwA u t) : hF u t 13 = t + 15 := h.2.2.2.2.2.2.2.2.2.2.2.2.2.2.2.2.2.2.2.2.2.2.2.2.2.2.2.2.2.2.2.2.2.2.2.2.2.2.2.2.2.1
theorem TwA.f14 {u : hS} {t : Nat} (h : TwA u t) : hF u t 14 = t + 16 := h.2.2.2.2.2.2.2.2.2.2.2.2.2.2.2.2.2.2.2.2.2.2.2.2.2.2.2.2.2.2.2.2.2.2.2.2.2.2.2.2.2.2.1
theorem TwA.f15 {u : hS} {t : Nat} (h : TwA u t) : hF u t 15 = t + 17 := h.2.2.2.2.2.2.2.2.2.2.2.2.2.2.2.2.2.2.2.2.2.2.2.2.2.2.2.2.2.2.2.2.2.2.2.2.2.2.2.2.2.2.2.1
theorem TwA.b0 {u : hS} {t : Nat} (h : TwA u t) : hF u (t + 1) 0 = t + 2 := h.2.2.2.2.2.2.2.2.2.2.2.2.2.2.2.2.2.2.2.2.2.2.2.2.2.2.2.2.2.2.2.2.2.2.2.2.2.2.2.2.2.2.2.2.1
theorem TwA.b1 {u : hS} {t : Nat} (h : TwA u t) : hF u (t + 1) 1 = t + 3 := h.2.2.2.2.2.2.2.2.2.2.2.2.2.2.2.2.2.2.2.2.2.2.2.2.2.2.2.2.2.2.2.2.2.2.2.2.2.2.2.2.2.2.2.2.2.1
theorem TwA.b2 {u : hS} {t : Nat} (h : TwA u t) : hF u (t + 1) 2 = t + 4 := h.2.2.2.2.2.2.2.2.2.2.2.2.2.2.2.2.2.2.2.2.2.2.2.2.2.2.2.2.2.2.2.2.2.2.2.2.2.2.2.2.2.2.2.2.2.2.1
theorem TwA.g0 {u : hS} {t : Nat} (h : TwA u t) : hF u (t + 5) 0 = t + 6 := h.2.2.2.2.2.2.2.2.2.2.2.2.2.2.2.2.2.2.2.2.2.2.2.2.2.2.2.2.2.2.2.2.2.2.2.2.2.2.2.2.2.2.2.2.2.2.2.1
theorem TwA.g1 {u : hS} {t : Nat} (h : TwA u t) : hF u (t + 5) 1 = t + 7 := h.2.2.2.2.2.2.2.2.2.2.2.2.2.2.2.2.2.2.2.2.2.2.2.2.2.2.2.2.2.2.2.2.2.2.2.2.2.2.2.2.2.2.2.2.2.2.2.2.1
theorem TwA.g2 {u : hS} {t : Nat} (h : TwA u t) : hF u (t + 5) 2 = t + 8 := h.2.2.2.2.2.2.2.2.2.2.2.2.2.2.2.2.2.2.2.2.2.2.2.2.2.2.2.2.2.2.2.2.2.2.2.2.2.2.2.2.2.2.2.2.2.2.2.2.2
def RepS (u : hS) (s t : Nat) (S : Nat → Int) : Prop := StA u s ∧ TwA u t ∧ hF u s 0 = t ∧ hV u t 0 = S 0 ∧ hV u t 1 = S 1 ∧ hV u (t + 1) 3 = S 2 ∧ hV u (t + 5) 3 = S 3 ∧ hV u t 7 = S 4 ∧ hV u t 10 = S 5 ∧ hV u s 1 = S 6 ∧ hV u t 4 = S 7 ∧ (∀ p : Nat, (p : Int) < S 4 → hV u (s + 1) p = S (10 + 3 * p)) ∧ (∀ p : Nat, (p : Int) < S 4 → hV u (t + 11) p = S (11 + 3 * p)) ∧ (∀ p : Nat, (p : Int) < S 4 → hV u (s + 2) p = S (12 + 3 * p)) ∧ (∀ p b : Nat, (p : Int) < S 4 → (b : Int) < S 2 → hV u (s + 3) (9 * p + b) = S (22 + 9 * p + b)) ∧ (∀ p b : Nat, (p : Int) < S 4 → (b : Int) < S 2 → hV u (s + 4) (9 * p + b) = S (58 + 9 * p + b)) ∧ (∀ b : Nat, (b : Int) < S 2 → hV u (t + 2) b = S (94 + 2 * b)) ∧ (∀ b : Nat, (b : Int) < S 2 → hV u (t + 3) b = S (94 + 2 * b + 1)) ∧ (∀ b : Nat, (b : Int) < S 3 → hV u (t + 6) b = S (112 + 2 * b)) ∧ (∀ b : Nat, (b : Int) < S 3 → hV u (t + 7) b = S (112 + 2 * b + 1)) ∧ (∀ b : Nat, (b : Int) < S 7 → hV u (t + 9) b = S (120 + 2 * b)) ∧ (∀ b : Nat, (b : Int) < S 7 → hV u (t + 10) b = S (121 + 2 * b)) ∧ (∀ w : Nat, (w : Int) < S 5 → hV u (t + 13) w = S (128 + 4 * w)) ∧ (∀ w : Nat, (w : Int) < S 5 → hV u (t + 14) w = S (129 + 4 * w)) ∧ (∀ w : Nat, (w : Int) < S 5 → hV u (t + 15) w = S (130 + 4 * w)) ∧ (∀ w : Nat, (w : Int) < S 5 → hV u (t + 16) w = S (131 + 4 * w))
theorem RepS.ha {u : hS} {s t : Nat} {S : Nat → Int} (h : RepS u s t S) : StA u s := h.1
theorem RepS.ht {u : hS} {s t : Nat} {S : Nat → Int} (h : RepS u s t S) : TwA u t := h.2.1
theorem RepS.to {u : hS} {s t : Nat} {S : Nat → Int} (h : RepS u s t S) : hF u s 0 = t := h.2.2.1
theorem RepS.v0 {u : hS} {s t : Nat} {S : Nat → Int} (h : RepS u s t S) : hV u t 0 = S 0 := h.2.2.2.1
theorem RepS.v1 {u : hS} {s t : Nat} {S : Nat → Int} (h : RepS u s t S) : hV u t 1 = S 1 := h.2.2.2.2.1
theorem RepS.v2 {u : hS} {s t : Nat} {S : Nat → Int} (h : RepS u s t S) : hV u (t + 1) 3 = S 2 := h.2.2.2.2.2.1
theorem RepS.v3 {u : hS} {s t : Nat} {S : Nat → Int} (h : RepS u s t S) : hV u (t + 5) 3 = S 3 := h.2.2.2.2.2.2.1
theorem RepS.v4 {u : hS} {s t : Nat} {S : Nat → Int} (h : RepS u s t S) : hV u t 7 = S 4 := h.2.2.2.2.2.2.2.1
theorem RepS.v5 {u : hS} {s t : Nat} {S : Nat → Int} (h : RepS u s t S) : hV u t 10 = S 5 := h.2.2.2.2.2.2.2.2.1
theorem RepS.v6 {u : hS} {s t : Nat} {S : Nat → Int} (h : RepS u s t S) : hV u s 1 = S 6 := h.2.2.2.2.2.2.2.2.2.1
theorem RepS.v7 {u : hS} {s t : Nat} {S : Nat → Int} (h : RepS u s t S) : hV u t 4 = S 7 := h.2.2.2.2.2.2.2.2.2.2.1
theorem RepS.at {u : hS} {s t : Nat} {S : Nat → Int} (h : RepS u s t S) : (∀ p : Nat, (p : Int) < S 4 → hV u (s + 1) p = S (10 + 3 * p)) := h.2.2.2.2.2.2.2.2.2.2.2.1
theorem RepS.home {u : hS} {s t : Nat} {S : Nat → Int} (h : RepS u s t S) : (∀ p : Nat, (p : Int) < S 4 → hV u (t + 11) p = S (11 + 3 * p)) := h.2.2.2.2.2.2.2.2.2.2.2.2.1
theorem RepS.paid {u : hS} {s t : Nat} {S : Nat → Int} (h : RepS u s t S) : (∀ p : Nat, (p : Int) < S 4 → hV u (s + 2) p = S (12 + 3 * p)) := h.2.2.2.2.2.2.2.2.2.2.2.2.2.1
theorem RepS.cro {u : hS} {s t : Nat} {S : Nat → Int} (h : RepS u s t S) : (∀ p b : Nat, (p : Int) < S 4 → (b : Int) < S 2 → hV u (s + 3) (9 * p + b) = S (22 + 9 * p + b)) := h.2.2.2.2.2.2.2.2.2.2.2.2.2.2.1
theorem RepS.sin {u : hS} {s t : Nat} {S : Nat → Int} (h : RepS u s t S) : (∀ p b : Nat, (p : Int) < S 4 → (b : Int) < S 2 → hV u (s + 4) (9 * p + b) = S (58 + 9 * p + b)) := h.2.2.2.2.2.2.2.2.2.2.2.2.2.2.2.1
theorem RepS.br0 {u : hS} {s t : Nat} {S : Nat → Int} (h : RepS u s t S) : (∀ b : Nat, (b : Int) < S 2 → hV u (t + 2) b = S (94 + 2 * b)) := h.2.2.2.2.2.2.2.2.2.2.2.2.2.2.2.2.1
theorem RepS.br1 {u : hS} {s t : Nat} {S : Nat → Int} (h : RepS u s t S) : (∀ b : Nat, (b : Int) < S 2 → hV u (t + 3) b = S (94 + 2 * b + 1)) := h.2.2.2.2.2.2.2.2.2.2.2.2.2.2.2.2.2.1
theorem RepS.fe0 {u : hS} {s t : Nat} {S : Nat → Int} (h : RepS u s t S) : (∀ b : Nat, (b : Int) < S 3 → hV u (t + 6) b = S (112 + 2 * b)) := h.2.2.2.2.2.2.2.2.2.2.2.2.2.2.2.2.2.2.1
theorem RepS.fe1 {u : hS} {s t : Nat} {S : Nat → Int} (h : RepS u s t S) : (∀ b : Nat, (b : Int) < S 3 → hV u (t + 7) b = S (112 + 2 * b + 1)) := h.2.2.2.2.2.2.2.2.2.2.2.2.2.2.2.2.2.2.2.1
theorem RepS.fr0 {u : hS} {s t : Nat} {S : Nat → Int} (h : RepS u s t S) : (∀ b : Nat, (b : Int) < S 7 → hV u (t + 9) b = S (120 + 2 * b)) := h.2.2.2.2.2.2.2.2.2.2.2.2.2.2.2.2.2.2.2.2.1
theorem RepS.fr1 {u : hS} {s t : Nat} {S : Nat → Int} (h : RepS u s t S) : (∀ b : Nat, (b : Int) < S 7 → hV u (t + 10) b = S (121 + 2 * b)) := h.2.2.2.2.2.2.2.2.2.2.2.2.2.2.2.2.2.2.2.2.2.1
theorem RepS.wa0 {u : hS} {s t : Nat} {S : Nat → Int} (h : RepS u s t S) : (∀ w : Nat, (w : Int) < S 5 → hV u (t + 13) w = S (128 + 4 * w)) := h.2.2.2.2.2.2.2.2.2.2.2.2.2.2.2.2.2.2.2.2.2.2.1
theorem RepS.wa1 {u : hS} {s t : Nat} {S : Nat → Int} (h : RepS u s t S) : (∀ w : Nat, (w : Int) < S 5 → hV u (t + 14) w = S (129 + 4 * w)) := h.2.2.2.2.2.2.2.2.2.2.2.2.2.2.2.2.2.2.2.2.2.2.2.1
theorem RepS.wa2 {u : hS} {s t : Nat} {S : Nat → Int} (h : RepS u s t S) : (∀ w : Nat, (w : Int) < S 5 → hV u (t + 15) w = S (130 + 4 * w)) := h.2.2.2.2.2.2.2.2.2.2.2.2.2.2.2.2.2.2.2.2.2.2.2.2.1
theorem RepS.wa3 {u : hS} {s t : Nat} {S : Nat → Int} (h : RepS u s t S) : (∀ w : Nat, (w : Int) < S 5 → hV u (t + 16) w = S (131 + 4 * w)) := h.2.2.2.2.2.2.2.2.2.2.2.2.2.2.2.2.2.2.2.2.2.2.2.2.2
