/-! a link more -/
theorem set_same (u : hS) (a i : Nat) (x y : Int) : hsetV (hsetV u a i x) a i y = hsetV u a i y := by
  obtain ⟨K, N, V, F, B⟩ := u
  unfold hsetV
  simp only [Prod.mk.injEq, and_true, true_and]
  funext b j
  by_cases h : b = a ∧ j = i
  · rw [if_pos h, if_pos h]
  · rw [if_neg h, if_neg h, if_neg h]
def ltw (u : hS) (l : Nat) (a b : Int) : Nat → Int → Int := fun c acc => if (if hV u (l + 1) c = a then hV u (l + 2) c else if hV u (l + 2) c = a then hV u (l + 1) c else -1) = b then iorZ acc (ishlZ 1 c) else acc
def lkM (u : hS) (l k : Nat) (a b : Int) : hS := hsetV (hsetV (hsetV (hsetV u (l + 1) k a) (l + 2) k b) (l + 3) k (accN (ltw u l a b) k 0 0)) l 3 ((k + 1 : Nat) : Int)
/-- what a set of links is -/
def LkA (u : hS) (l N : Nat) : Prop := okk u l 1 ∧ okk u (l + 1) 20 ∧ okk u (l + 2) 20 ∧ okk u (l + 3) 20 ∧ hF u l 0 = l + 1 ∧ hF u l 1 = l + 2 ∧ hF u l 2 = l + 3 ∧ hN u (l + 1) = N ∧ hN u (l + 2) = N ∧ hN u (l + 3) = N
theorem x_addL {u : hS} {l N k : Nat} (lk : LkA u l N) (kN : k < N) (N9 : N ≤ 9) (hk : hV u l 3 = (k : Int)) (a b : Int) : ∀ (d m i : Nat) (acc : Int), d < m → i + d = k → m_X1_add_L40 m l a b (i : Int) (hsetV (hsetV (hsetV u (l + 1) k a) (l + 2) k b) (l + 3) k acc) = some (0, hsetV (hsetV (hsetV (hsetV u (l + 1) k a) (l + 2) k b) (l + 3) k (accN (ltw u l a b) d i acc)) l 3 ((k + 1 : Nat) : Int)) := by
  obtain ⟨k0, k1, k2, k3, f0, f1, f2, n1, n2, n3⟩ := id lk
  intro d
  induction d with
  | zero =>
    intro m i acc hm hi
    obtain ⟨m, rfl⟩ : ∃ j, m = j + 1 := ⟨m - 1, by omega⟩
    have k6 : k < 1000000 := by omega
    simp only [m_X1_add_L40, hgI_k, hgR_k, hpI_k, hpR_k, hpZ_k, haI_k, haR_k, hsI_k, hsZ_k, hlen_k, hlet_e, hret_e, hretZ_0, hretZ_1, hif_e, okk_setV, okk_setF, nV, nF, fV, vF, k0, hV_ne (show l ≠ l + 1 by omega), hV_ne (show l ≠ l + 2 by omega), hV_ne (show l ≠ l + 3 by omega), hk, ix_s k6]
    rw [if_pos (by omega)]
    rfl
  | succ d ih =>
    intro m i acc hm hi
    obtain ⟨m, rfl⟩ : ∃ j, m = j + 1 := ⟨m - 1, by omega⟩
    have k6 : k < 1000000 := by omega
    have i6 : i < 1000000 := by omega
    have A := x_across (u := hsetV (hsetV (hsetV u (l + 1) k a) (l + 2) k b) (l + 3) k acc) (l := l) (a := l + 1) (b := l + 2) (i := i) k0 k1 k2 f0 f1 (by show i < hN u (l + 1); omega) (by show i < hN u (l + 2); omega) a
    rw [hV_setV_a (show l + 1 ≠ l + 3 by omega), hV_setV_a (show l + 1 ≠ l + 2 by omega), hV_setV_i (show i ≠ k by omega), hV_setV_a (show l + 2 ≠ l + 3 by omega), hV_setV_i (show i ≠ k by omega), hV_setV_a (show l + 2 ≠ l + 1 by omega)] at A
    simp only [m_X1_add_L40, m_X1_add_L73, hgI_k, hgR_k, hpI_k, hpR_k, hpZ_k, haI_k, haR_k, hsI_k, hsZ_k, hlen_k, hlet_e, hret_e, hretZ_0, hretZ_1, hif_e, okk_setV, okk_setF, nV, nF, fV, vF, haI_n, hsI_n, hcallV_b, hbind_s, k0, k1, k2, k3, f0, f1, f2, n1, n2, n3, kN, hV_ne (show l ≠ l + 1 by omega), hV_ne (show l ≠ l + 2 by omega), hV_ne (show l ≠ l + 3 by omega), hk, ix_s k6, ix_s i6, A, hV_setV_s, set_same]
    rw [if_neg (by omega), accN_s]
    have I := fun acc => ih m (i + 1) acc (by omega) (by omega)
    unfold ltw
    by_cases h : (if hV u (l + 1) i = a then hV u (l + 2) i else if hV u (l + 2) i = a then hV u (l + 1) i else -1) = b
    · rw [if_pos h, if_neg (fun z => z h)]
      exact I _
    · rw [if_neg h, if_pos h]
      exact I _
theorem x_isFullL {u : hS} {l N k : Nat} (lk : LkA u l N) (hk : hV u l 3 = (k : Int)) : m_X1_isFull l u = some (if k < N then 0 else 1, u) := by
  obtain ⟨k0, k1, k2, k3, f0, f1, f2, n1, n2, n3⟩ := id lk
  simp only [m_X1_isFull, m_X1_isFull_L17, hgI_k, hgR_k, hpI_k, hpR_k, hpZ_k, haI_k, haR_k, hsI_k, hsZ_k, hlen_k, hlet_e, hret_e, hretZ_0, hretZ_1, hif_e, okk_setV, okk_setF, nV, nF, fV, vF, k0, k1, f0, n1, hk]
  by_cases h : k < N
  · rw [if_pos (by omega), if_pos h]
  · rw [if_neg (by omega), if_neg h]
theorem x_add {u : hS} {l N k : Nat} (lk : LkA u l N) (kN : k < N) (N9 : N ≤ 9) (hk : hV u l 3 = (k : Int)) (a b : Int) : m_X1_add l a b u = some (0, lkM u l k a b) := by
  obtain ⟨k0, k1, k2, k3, f0, f1, f2, n1, n2, n3⟩ := id lk
  have F := x_isFullL lk hk
  rw [if_pos kN] at F
  have L := x_addL lk kN N9 hk a b k 1000000000 0 0 (by omega) (by omega)
  simp only [m_X1_add, hgI_k, hgR_k, hpI_k, hpR_k, hpZ_k, haI_k, haR_k, hsI_k, hsZ_k, hlen_k, hlet_p, hret_p, hretZ_0, hretZ_1, hif_p, okk_setV, okk_setF, nV, nF, fV, vF, hsI_n, hcallV_b, hbind_p, k0, k1, k2, k3, f0, f1, f2, n1, n2, n3, kN, F, hV_ne (show l ≠ l + 1 by omega), hV_ne (show l ≠ l + 2 by omega), hk]
  rw [if_pos (by trivial)]
  exact L
theorem lk_br {u : hS} {t : Nat} (ht : TwA u t) : LkA u (t + 1) 9 := ⟨ht.k1, ht.k2, ht.k3, ht.k4, ht.b0, ht.b1, ht.b2, ht.n2, ht.n3, ht.n4⟩
theorem lk_fe {u : hS} {t : Nat} (ht : TwA u t) : LkA u (t + 5) 4 := ⟨ht.k5, ht.k6, ht.k7, ht.k8, ht.g0, ht.g1, ht.g2, ht.n6, ht.n7, ht.n8⟩
theorem LkA.tS {u : hS} {l N : Nat} (h : LkA u l N) (p s f : Int) : LkA (tS u p s f) l N := by
  unfold LkA
  rw [tS_k, tS_k, tS_k, tS_k, tS_F, tS_N]
  exact h
theorem tS_lkM {u : hS} {l k : Nat} {a b p s f : Int} (l3 : 243 ≤ l) : lkM (tS u p s f) l k a b = tS (lkM u l k a b) p s f := by
  have e : ltw (tS u p s f) l a b = ltw u l a b := by
    unfold ltw
    rw [tS_o (show l + 1 ≠ 2 by omega), tS_o (show l + 2 ≠ 2 by omega)]
  unfold lkM
  rw [e, tS_set (by omega), tS_set (by omega), tS_set (by omega), tS_set (by omega)]
theorem c_link {n : Nat} {B : Nat → Int} {u : hS} (h : cTp n B u) {t : Nat} (ht : TwA u t) (t3 : 243 ≤ t) (s : Int) {l N k p : Nat} {q : Int} (lk : LkA u l N) (l3 : 243 ≤ l) (N9 : N ≤ 9) (hq : hV u t 0 = q) (q0 : 0 ≤ q) (q8 : q ≤ 8) (hk : hV u l 3 = (k : Int)) (kN : k < N) (hp : p ≤ n) : ∃ p' s' : Nat, m_X7_readLink t 2 l (tS u (p : Int) s 0) = some (0, tS (if kLink B n p q = 0 then lkM u l k (nv B n p) (nv B n (np B n p)) else u) (p' : Int) (s' : Int) ((kLink B n p q : Nat) : Int)) ∧ p' ≤ n ∧ (kLink B n p q = 0 → p' = np B n (np B n p)) := by
  have hs := h.1
  have p1 := np_le B hp
  have p2 := np_le B p1
  have E1 := c_num h s 0 (q - 1) hp
  have E2 := c_num h ((sk B n p : Nat) : Int) 0 (q - 1) p1
  have wa : True → w32 (q - 1) = q - 1 := fun _ => w32_id ⟨by omega, by omega⟩
  unfold kLink
  by_cases f1 : nf B n p 0 (q - 1) = 0
  · rw [f1] at E1
    have E1 : m_X6_number 2 0 (q - 1) (tS u (p : Int) s 0) = some (nv B n p, tS u ((np B n p : Nat) : Int) ((sk B n p : Nat) : Int) 0) := E1
    rw [sq_0 f1]
    refine ⟨np B n (np B n p), sk B n (np B n p), ?_, p2, fun _ => rfl⟩
    by_cases f2 : nf B n (np B n p) 0 (q - 1) = 0
    · rw [f2] at E2
      have E2 : m_X6_number 2 0 (q - 1) (tS u ((np B n p : Nat) : Int) ((sk B n p : Nat) : Int) 0) = some (nv B n (np B n p), tS u ((np B n (np B n p) : Nat) : Int) ((sk B n (np B n p) : Nat) : Int) 0) := E2
      rw [sq_0 f2]
      simp only [m_X7_readLink, m_X7_readLink_L47, m_X7_readLink_L61, hgI_k, hgR_k, hpI_k, hpR_k, hpZ_k, haI_k, haR_k, hsI_k, hsZ_k, hlen_k, hlet_p, hret_p, hretZ_0, hretZ_1, hif_p, okk_setV, okk_setF, nV, nF, fV, vF, hcallV_b, hbind_p, tS_k, tS_4, tS_3, tS_o (show t ≠ 2 by omega), kk_2 hs, TwA.k0 ht, TwA.k1 ht, TwA.k2 ht, TwA.k3 ht, TwA.k4 ht, TwA.k5 ht, TwA.k6 ht, TwA.k7 ht, TwA.k8 ht, TwA.k9 ht, TwA.k10 ht, TwA.k11 ht, TwA.k12 ht, TwA.k13 ht, TwA.k14 ht, TwA.k15 ht, TwA.k16 ht, TwA.k17 ht, TwA.n2 ht, TwA.n3 ht, TwA.n4 ht, TwA.n6 ht, TwA.n7 ht, TwA.n8 ht, TwA.n9 ht, TwA.n10 ht, TwA.n11 ht, TwA.n12 ht, TwA.n13 ht, TwA.n14 ht, TwA.n15 ht, TwA.n16 ht, TwA.n17 ht, TwA.f2 ht, TwA.f3 ht, TwA.f5 ht, TwA.f6 ht, TwA.f8 ht, TwA.f9 ht, TwA.f11 ht, TwA.f12 ht, TwA.f13 ht, TwA.f14 ht, TwA.f15 ht, TwA.b0 ht, TwA.b1 ht, TwA.b2 ht, TwA.g0 ht, TwA.g1 ht, TwA.g2 ht, E1, E2, hq, wa trivial]
      rw [if_neg (fun z => z rfl)]
      by_cases e : nv B n p = nv B n (np B n p)
      · have b2 := (sk_le B p1).2
        have F := x_fail hs ((np B n (np B n p) : Nat) : Int) ((sk B n (np B n p) : Nat) : Int) 0 (w := sk B n (np B n p)) (by have := h.2.2.2; omega) (k := 1) (by decide)
        rw [if_pos rfl] at F
        rw [if_neg (fun z => z e), if_pos e, if_neg (by omega)]
        show hbind (m_X6_fail 2 _ ((1 : Nat) : Int) _) _ = _
        rw [F]
        simp only [hgI_k, hgR_k, hpI_k, hpR_k, hpZ_k, haI_k, haR_k, hsI_k, hsZ_k, hlen_k, hlet_p, hret_p, hretZ_0, hretZ_1, hif_p, okk_setV, okk_setF, nV, nF, fV, vF, hbind_p, tS_k, tS_4, kk_2 hs]
        rw [if_pos (by omega)]
      · have A := x_add (lk.tS ((np B n (np B n p) : Nat) : Int) ((sk B n (np B n p) : Nat) : Int) 0) kN N9 (by rw [tS_o (by omega)]; exact hk) (nv B n p) (nv B n (np B n p))
        rw [if_pos e, if_neg (fun z => z rfl), if_neg e, if_pos rfl, hcallV_b (by rw [tS_k]; exact lk.1), A, tS_lkM l3]
        rfl
    · rw [sq_n f2, if_neg f2]
      simp only [m_X7_readLink, m_X7_readLink_L47, m_X7_readLink_L61, hgI_k, hgR_k, hpI_k, hpR_k, hpZ_k, haI_k, haR_k, hsI_k, hsZ_k, hlen_k, hlet_p, hret_p, hretZ_0, hretZ_1, hif_p, okk_setV, okk_setF, nV, nF, fV, vF, hcallV_b, hbind_p, tS_k, tS_4, tS_3, tS_o (show t ≠ 2 by omega), kk_2 hs, TwA.k0 ht, TwA.k1 ht, TwA.k2 ht, TwA.k3 ht, TwA.k4 ht, TwA.k5 ht, TwA.k6 ht, TwA.k7 ht, TwA.k8 ht, TwA.k9 ht, TwA.k10 ht, TwA.k11 ht, TwA.k12 ht, TwA.k13 ht, TwA.k14 ht, TwA.k15 ht, TwA.k16 ht, TwA.k17 ht, TwA.n2 ht, TwA.n3 ht, TwA.n4 ht, TwA.n6 ht, TwA.n7 ht, TwA.n8 ht, TwA.n9 ht, TwA.n10 ht, TwA.n11 ht, TwA.n12 ht, TwA.n13 ht, TwA.n14 ht, TwA.n15 ht, TwA.n16 ht, TwA.n17 ht, TwA.f2 ht, TwA.f3 ht, TwA.f5 ht, TwA.f6 ht, TwA.f8 ht, TwA.f9 ht, TwA.f11 ht, TwA.f12 ht, TwA.f13 ht, TwA.f14 ht, TwA.f15 ht, TwA.b0 ht, TwA.b1 ht, TwA.b2 ht, TwA.g0 ht, TwA.g1 ht, TwA.g2 ht, E1, E2, hq, wa trivial]
      rw [if_pos (nz f2), if_pos (nz f2)]
  · rw [sq_n f1, if_neg f1]
    refine ⟨np B n p, sk B n p, ?_, p1, fun z => absurd z f1⟩
    simp only [m_X7_readLink, m_X7_readLink_L47, m_X7_readLink_L61, hgI_k, hgR_k, hpI_k, hpR_k, hpZ_k, haI_k, haR_k, hsI_k, hsZ_k, hlen_k, hlet_p, hret_p, hretZ_0, hretZ_1, hif_p, okk_setV, okk_setF, nV, nF, fV, vF, hcallV_b, hbind_p, tS_k, tS_4, tS_3, tS_o (show t ≠ 2 by omega), kk_2 hs, TwA.k0 ht, TwA.k1 ht, TwA.k2 ht, TwA.k3 ht, TwA.k4 ht, TwA.k5 ht, TwA.k6 ht, TwA.k7 ht, TwA.k8 ht, TwA.k9 ht, TwA.k10 ht, TwA.k11 ht, TwA.k12 ht, TwA.k13 ht, TwA.k14 ht, TwA.k15 ht, TwA.k16 ht, TwA.k17 ht, TwA.n2 ht, TwA.n3 ht, TwA.n4 ht, TwA.n6 ht, TwA.n7 ht, TwA.n8 ht, TwA.n9 ht, TwA.n10 ht, TwA.n11 ht, TwA.n12 ht, TwA.n13 ht, TwA.n14 ht, TwA.n15 ht, TwA.n16 ht, TwA.n17 ht, TwA.f2 ht, TwA.f3 ht, TwA.f5 ht, TwA.f6 ht, TwA.f8 ht, TwA.f9 ht, TwA.f11 ht, TwA.f12 ht, TwA.f13 ht, TwA.f14 ht, TwA.f15 ht, TwA.b0 ht, TwA.b1 ht, TwA.b2 ht, TwA.g0 ht, TwA.g1 ht, TwA.g2 ht, E1, hq, wa trivial, x_numberF hs _ _ _ _ (nz f1)]
    rw [if_pos (nz f1), if_pos (nz f1)]
