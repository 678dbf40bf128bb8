/-! a town's clauses, as the class reads them -/
def nv (B : Nat → Int) (n p : Nat) : Int := dv B n (sk B n p)
def np (B : Nat → Int) (n p : Nat) : Nat := sk B n p + dl B n (sk B n p)
def nf (B : Nat → Int) (n p : Nat) (lo hi : Int) : Nat := fN B n (sk B n p) lo hi
theorem np_le (B : Nat → Int) {n p : Nat} (h : p ≤ n) : np B n p ≤ n := dl_b B (sk_le B h).2
theorem nf_0 {B : Nat → Int} {n p : Nat} {lo hi : Int} (h : nf B n p lo hi = 0) : lo ≤ nv B n p ∧ nv B n p ≤ hi := (fN_0 h).2.2
theorem c_num {n : Nat} {B : Nat → Int} {u : hS} (h : cTp n B u) (s lo hi : Int) {p : Nat} (hp : p ≤ n) : m_X6_number 2 lo hi (tS u (p : Int) s 0) = some (nv B n p, tS u ((np B n p : Nat) : Int) ((sk B n p : Nat) : Int) ((nf B n p lo hi : Nat) : Int)) := c_number h s lo hi hp
def sq (f g : Nat) : Nat := if f ≠ 0 then f else g
theorem sq_n {f g : Nat} (h : f ≠ 0) : sq f g = f := if_pos h
theorem sq_0 {f g : Nat} (h : f = 0) : sq f g = g := if_neg (fun z => z h)
theorem sq_z {f g : Nat} (h : sq f g = 0) : f = 0 ∧ g = 0 := by
  by_cases z : f = 0
  · exact ⟨z, by rwa [sq_0 z] at h⟩
  · rw [sq_n z] at h
    exact absurd h z
def kTown (B : Nat → Int) (n p : Nat) : Nat := sq (nf B n p 2 8) (nf B n (np B n p) 1 5)
def kLink (B : Nat → Int) (n p : Nat) (q : Int) : Nat := sq (nf B n p 0 (q - 1)) (sq (nf B n (np B n p) 0 (q - 1)) (if nv B n p = nv B n (np B n p) then 1 + 8 * sk B n (np B n p) + 1 else 0))
def kFrost (B : Nat → Int) (n p : Nat) : Nat := sq (nf B n p 0 99) (nf B n (np B n p) (nv B n p) 99)
def kPerson (B : Nat → Int) (n p : Nat) (q : Int) : Nat := nf B n p 0 (q - 1)
def kCrossed (B : Nat → Int) (n p : Nat) (a b c : Int) : Nat := sq (nf B n p 0 (a - 1)) (sq (nf B n (np B n p) 0 (b - 1)) (nf B n (np B n (np B n p)) 0 c))
def kWant (B : Nat → Int) (n p : Nat) (a q : Int) : Nat := sq (nf B n p 0 (a - 1)) (sq (nf B n (np B n p) 0 (q - 1)) (sq (nf B n (np B n (np B n p)) 0 99) (nf B n (np B n (np B n (np B n p))) 1 50)))
def frostM (u : hS) (t k : Nat) (a b : Int) : hS := hsetV (hsetV (hsetV u (t + 9) k a) (t + 10) k b) t 4 ((k + 1 : Nat) : Int)
def personM (u : hS) (t k : Nat) (a : Int) : hS := hsetV (hsetV u (t + 11) k a) t 7 ((k + 1 : Nat) : Int)
def wantM (u : hS) (t k : Nat) (a b c d : Int) : hS := hsetV (hsetV (hsetV (hsetV (hsetV u (t + 13) k a) (t + 14) k b) (t + 15) k c) (t + 16) k d) t 10 ((k + 1 : Nat) : Int)
theorem nz {f : Nat} (h : f ≠ 0) : ((f : Nat) : Int) ≠ 0 := by omega
theorem c_frost {n : Nat} {B : Nat → Int} {u : hS} (h : cTp n B u) {t : Nat} (ht : TwA u t) (t3 : 243 ≤ t) (s : Int) {k p : Nat} (hk : hV u t 4 = (k : Int)) (k4 : k < 4) (hp : p ≤ n) : ∃ p' s' : Nat, m_X7_readFrost t 2 (tS u (p : Int) s 0) = some (0, tS (if kFrost B n p = 0 then frostM u t k (nv B n p) (nv B n (np B n p)) else u) (p' : Int) (s' : Int) ((kFrost B n p : Nat) : Int)) ∧ p' ≤ n ∧ (kFrost B n p = 0 → p' = np B n (np B n p)) := by
  have hs := h.1
  have p1 := np_le B hp
  have p2 := np_le B p1
  have E1 := c_num h s 0 99 hp
  have E2 := c_num h ((sk B n p : Nat) : Int) (nv B n p) 99 p1
  unfold kFrost
  by_cases f1 : nf B n p 0 99 = 0
  · rw [f1] at E1
    have E1 : m_X6_number 2 0 99 (tS u (p : Int) s 0) = some (nv B n p, tS u ((np B n p : Nat) : Int) ((sk B n p : Nat) : Int) 0) := E1
    rw [sq_0 f1]
    by_cases f2 : nf B n (np B n p) (nv B n p) 99 = 0
    · rw [f2] at E2
      have E2 : m_X6_number 2 (nv B n p) 99 (tS u ((np B n p : Nat) : Int) ((sk B n p : Nat) : Int) 0) = some (nv B n (np B n p), tS u ((np B n (np B n p) : Nat) : Int) ((sk B n (np B n p) : Nat) : Int) 0) := E2
      refine ⟨np B n (np B n p), sk B n (np B n p), ?_, p2, fun _ => rfl⟩
      rw [if_pos f2, f2]
      have k6 : k < 1000000 := by omega
      simp only [m_X7_readFrost, m_X7_readFrost_L53, hgI_k, hgR_k, hpI_k, hpR_k, hpZ_k, haI_k, haR_k, hsI_k, hsZ_k, hlen_k, hlet_p, hret_p, hretZ_0, hretZ_1, hif_p, okk_setV, okk_setF, nV, nF, fV, vF, hsI_n, hcallV_b, hbind_p, tS_k, tS_N, tS_F, tS_4, tS_o (show t ≠ 2 by omega), tS_set (show t ≠ 2 by omega), tS_set (show t + 9 ≠ 2 by omega), tS_set (show t + 10 ≠ 2 by omega), hV_ne (show t ≠ t + 9 by omega), hV_ne (show t ≠ t + 10 by omega), kk_2 hs, TwA.k0 ht, TwA.k1 ht, TwA.k2 ht, TwA.k3 ht, TwA.k4 ht, TwA.k5 ht, TwA.k6 ht, TwA.k7 ht, TwA.k8 ht, TwA.k9 ht, TwA.k10 ht, TwA.k11 ht, TwA.k12 ht, TwA.k13 ht, TwA.k14 ht, TwA.k15 ht, TwA.k16 ht, TwA.k17 ht, TwA.n2 ht, TwA.n3 ht, TwA.n4 ht, TwA.n6 ht, TwA.n7 ht, TwA.n8 ht, TwA.n9 ht, TwA.n10 ht, TwA.n11 ht, TwA.n12 ht, TwA.n13 ht, TwA.n14 ht, TwA.n15 ht, TwA.n16 ht, TwA.n17 ht, TwA.f2 ht, TwA.f3 ht, TwA.f5 ht, TwA.f6 ht, TwA.f8 ht, TwA.f9 ht, TwA.f11 ht, TwA.f12 ht, TwA.f13 ht, TwA.f14 ht, TwA.f15 ht, TwA.b0 ht, TwA.b1 ht, TwA.b2 ht, TwA.g0 ht, TwA.g1 ht, TwA.g2 ht, E1, E2, hk, k4, ix_s k6]
      rw [if_neg (fun z => z rfl)]
      rfl
    · refine ⟨np B n (np B n p), sk B n (np B n p), ?_, p2, fun z => absurd z f2⟩
      rw [if_neg f2]
      simp only [m_X7_readFrost, m_X7_readFrost_L53, hgI_k, hgR_k, hpI_k, hpR_k, hpZ_k, haI_k, haR_k, hsI_k, hsZ_k, hlen_k, hlet_p, hret_p, hretZ_0, hretZ_1, hif_p, okk_setV, okk_setF, nV, nF, fV, vF, hcallV_b, hbind_p, tS_k, tS_4, kk_2 hs, E1, E2]
      rw [if_pos (nz f2)]
  · rw [sq_n f1, if_neg f1]
    refine ⟨np B n p, sk B n p, ?_, p1, fun z => absurd z f1⟩
    simp only [m_X7_readFrost, m_X7_readFrost_L53, hgI_k, hgR_k, hpI_k, hpR_k, hpZ_k, haI_k, haR_k, hsI_k, hsZ_k, hlen_k, hlet_p, hret_p, hretZ_0, hretZ_1, hif_p, okk_setV, okk_setF, nV, nF, fV, vF, hcallV_b, hbind_p, tS_k, tS_4, kk_2 hs, E1, x_numberF hs _ _ _ _ (nz f1)]
    rw [if_pos (nz f1)]
theorem c_person {n : Nat} {B : Nat → Int} {u : hS} (h : cTp n B u) {t : Nat} (ht : TwA u t) (t3 : 243 ≤ t) (s : Int) {k p : Nat} {q : Int} (hq : hV u t 0 = q) (q0 : 0 ≤ q) (q8 : q ≤ 8) (hk : hV u t 7 = (k : Int)) (k4 : k < 4) (hp : p ≤ n) : ∃ p' s' : Nat, m_X7_readPerson t 2 (tS u (p : Int) s 0) = some (0, tS (if kPerson B n p q = 0 then personM u t k (nv B n p) else u) (p' : Int) (s' : Int) ((kPerson B n p q : Nat) : Int)) ∧ p' ≤ n ∧ (kPerson B n p q = 0 → p' = np B n p) := by
  have hs := h.1
  have p1 := np_le B hp
  have E1 := c_num h s 0 (q - 1) hp
  have w : w32 (q - 1) = q - 1 := w32_id ⟨by omega, by omega⟩
  unfold kPerson
  refine ⟨np B n p, sk B n p, ?_, p1, fun _ => rfl⟩
  by_cases f1 : nf B n p 0 (q - 1) = 0
  · rw [f1] at E1 ⊢
    have E1 : m_X6_number 2 0 (q - 1) (tS u (p : Int) s 0) = some (nv B n p, tS u ((np B n p : Nat) : Int) ((sk B n p : Nat) : Int) 0) := E1
    have k6 : k < 1000000 := by omega
    simp only [m_X7_readPerson, m_X7_readPerson_L39, hgI_k, hgR_k, hpI_k, hpR_k, hpZ_k, haI_k, haR_k, hsI_k, hsZ_k, hlen_k, hlet_p, hret_p, hretZ_0, hretZ_1, hif_p, okk_setV, okk_setF, nV, nF, fV, vF, hsI_n, hcallV_b, hbind_p, tS_k, tS_N, tS_F, tS_4, tS_o (show t ≠ 2 by omega), tS_set (show t ≠ 2 by omega), tS_set (show t + 11 ≠ 2 by omega), hV_ne (show t ≠ t + 11 by omega), kk_2 hs, TwA.k0 ht, TwA.k1 ht, TwA.k2 ht, TwA.k3 ht, TwA.k4 ht, TwA.k5 ht, TwA.k6 ht, TwA.k7 ht, TwA.k8 ht, TwA.k9 ht, TwA.k10 ht, TwA.k11 ht, TwA.k12 ht, TwA.k13 ht, TwA.k14 ht, TwA.k15 ht, TwA.k16 ht, TwA.k17 ht, TwA.n2 ht, TwA.n3 ht, TwA.n4 ht, TwA.n6 ht, TwA.n7 ht, TwA.n8 ht, TwA.n9 ht, TwA.n10 ht, TwA.n11 ht, TwA.n12 ht, TwA.n13 ht, TwA.n14 ht, TwA.n15 ht, TwA.n16 ht, TwA.n17 ht, TwA.f2 ht, TwA.f3 ht, TwA.f5 ht, TwA.f6 ht, TwA.f8 ht, TwA.f9 ht, TwA.f11 ht, TwA.f12 ht, TwA.f13 ht, TwA.f14 ht, TwA.f15 ht, TwA.b0 ht, TwA.b1 ht, TwA.b2 ht, TwA.g0 ht, TwA.g1 ht, TwA.g2 ht, E1, hq, hk, k4, ix_s k6, w]
    rw [if_neg (fun z => z rfl), if_pos trivial]
    rfl
  · rw [if_neg f1]
    simp only [m_X7_readPerson, m_X7_readPerson_L39, hgI_k, hgR_k, hpI_k, hpR_k, hpZ_k, haI_k, haR_k, hsI_k, hsZ_k, hlen_k, hlet_p, hret_p, hretZ_0, hretZ_1, hif_p, okk_setV, okk_setF, nV, nF, fV, vF, hcallV_b, hbind_p, tS_k, tS_4, tS_o (show t ≠ 2 by omega), kk_2 hs, TwA.k0 ht, TwA.k1 ht, TwA.k2 ht, TwA.k3 ht, TwA.k4 ht, TwA.k5 ht, TwA.k6 ht, TwA.k7 ht, TwA.k8 ht, TwA.k9 ht, TwA.k10 ht, TwA.k11 ht, TwA.k12 ht, TwA.k13 ht, TwA.k14 ht, TwA.k15 ht, TwA.k16 ht, TwA.k17 ht, TwA.n2 ht, TwA.n3 ht, TwA.n4 ht, TwA.n6 ht, TwA.n7 ht, TwA.n8 ht, TwA.n9 ht, TwA.n10 ht, TwA.n11 ht, TwA.n12 ht, TwA.n13 ht, TwA.n14 ht, TwA.n15 ht, TwA.n16 ht, TwA.n17 ht, TwA.f2 ht, TwA.f3 ht, TwA.f5 ht, TwA.f6 ht, TwA.f8 ht, TwA.f9 ht, TwA.f11 ht, TwA.f12 ht, TwA.f13 ht, TwA.f14 ht, TwA.f15 ht, TwA.b0 ht, TwA.b1 ht, TwA.b2 ht, TwA.g0 ht, TwA.g1 ht, TwA.g2 ht, E1, hq, w]
    rw [if_pos (nz f1)]
theorem c_town {n : Nat} {B : Nat → Int} {u : hS} (h : cTp n B u) {t : Nat} (ht : TwA u t) (t3 : 243 ≤ t) (s : Int) {p : Nat} (hp : p ≤ n) : ∃ (p' s' : Nat) (u' : hS), hbind (m_X6_number 2 2 8 (tS u (p : Int) s 0)) (fun v2 => hpI 7 t 0 v2 <| hcallV 6 2 (m_X6_number 2 1 5) fun v3 => hpI 7 t 1 v3 <| m_X7_readClause_L177) = some (0, tS u' (p' : Int) (s' : Int) ((kTown B n p : Nat) : Int)) ∧ (∃ a b, u' = hsetV (hsetV u t 0 a) t 1 b) ∧ p' ≤ n ∧ (kTown B n p = 0 → p' = np B n (np B n p) ∧ u' = hsetV (hsetV u t 0 (nv B n p)) t 1 (nv B n (np B n p))) := by
  have hs := h.1
  have p1 := np_le B hp
  have p2 := np_le B p1
  have E1 := c_num h s 2 8 hp
  have hs' : shp (hsetV u t 0 (nv B n p)) := h.1
  have h' : cTp n B (hsetV u t 0 (nv B n p)) := h.set (by omega) (by omega)
  have E2 := c_num h' ((sk B n p : Nat) : Int) 1 5 p1
  unfold kTown
  by_cases f1 : nf B n p 2 8 = 0
  · rw [f1] at E1
    have E1 : m_X6_number 2 2 8 (tS u (p : Int) s 0) = some (nv B n p, tS u ((np B n p : Nat) : Int) ((sk B n p : Nat) : Int) 0) := E1
    rw [sq_0 f1]
    refine ⟨np B n (np B n p), sk B n (np B n p), hsetV (hsetV u t 0 (nv B n p)) t 1 (nv B n (np B n p)), ?_, ⟨_, _, rfl⟩, p2, fun _ => ⟨rfl, rfl⟩⟩
    simp only [m_X7_readClause_L177, E1, hgI_k, hgR_k, hpI_k, hpR_k, hpZ_k, haI_k, haR_k, hsI_k, hsZ_k, hlen_k, hlet_p, hret_p, hretZ_0, hretZ_1, hif_p, okk_setV, okk_setF, nV, nF, fV, vF, hcallV_b, hbind_p, tS_k, tS_set (show t ≠ 2 by omega), kk_2 hs, TwA.k0 ht, TwA.k1 ht, TwA.k2 ht, TwA.k3 ht, TwA.k4 ht, TwA.k5 ht, TwA.k6 ht, TwA.k7 ht, TwA.k8 ht, TwA.k9 ht, TwA.k10 ht, TwA.k11 ht, TwA.k12 ht, TwA.k13 ht, TwA.k14 ht, TwA.k15 ht, TwA.k16 ht, TwA.k17 ht, TwA.n2 ht, TwA.n3 ht, TwA.n4 ht, TwA.n6 ht, TwA.n7 ht, TwA.n8 ht, TwA.n9 ht, TwA.n10 ht, TwA.n11 ht, TwA.n12 ht, TwA.n13 ht, TwA.n14 ht, TwA.n15 ht, TwA.n16 ht, TwA.n17 ht, TwA.f2 ht, TwA.f3 ht, TwA.f5 ht, TwA.f6 ht, TwA.f8 ht, TwA.f9 ht, TwA.f11 ht, TwA.f12 ht, TwA.f13 ht, TwA.f14 ht, TwA.f15 ht, TwA.b0 ht, TwA.b1 ht, TwA.b2 ht, TwA.g0 ht, TwA.g1 ht, TwA.g2 ht, E2]
  · rw [sq_n f1]
    refine ⟨np B n p, sk B n p, hsetV (hsetV u t 0 (nv B n p)) t 1 1, ?_, ⟨_, _, rfl⟩, p1, fun z => absurd z f1⟩
    simp only [m_X7_readClause_L177, E1, hgI_k, hgR_k, hpI_k, hpR_k, hpZ_k, haI_k, haR_k, hsI_k, hsZ_k, hlen_k, hlet_p, hret_p, hretZ_0, hretZ_1, hif_p, okk_setV, okk_setF, nV, nF, fV, vF, hcallV_b, hbind_p, tS_k, tS_set (show t ≠ 2 by omega), kk_2 hs, TwA.k0 ht, TwA.k1 ht, TwA.k2 ht, TwA.k3 ht, TwA.k4 ht, TwA.k5 ht, TwA.k6 ht, TwA.k7 ht, TwA.k8 ht, TwA.k9 ht, TwA.k10 ht, TwA.k11 ht, TwA.k12 ht, TwA.k13 ht, TwA.k14 ht, TwA.k15 ht, TwA.k16 ht, TwA.k17 ht, TwA.n2 ht, TwA.n3 ht, TwA.n4 ht, TwA.n6 ht, TwA.n7 ht, TwA.n8 ht, TwA.n9 ht, TwA.n10 ht, TwA.n11 ht, TwA.n12 ht, TwA.n13 ht, TwA.n14 ht, TwA.n15 ht, TwA.n16 ht, TwA.n17 ht, TwA.f2 ht, TwA.f3 ht, TwA.f5 ht, TwA.f6 ht, TwA.f8 ht, TwA.f9 ht, TwA.f11 ht, TwA.f12 ht, TwA.f13 ht, TwA.f14 ht, TwA.f15 ht, TwA.b0 ht, TwA.b1 ht, TwA.b2 ht, TwA.g0 ht, TwA.g1 ht, TwA.g2 ht, x_numberF hs' _ _ _ _ (nz f1)]
theorem c_crossed {n : Nat} {B : Nat → Int} {u : hS} (h : cTp n B u) {t : Nat} (ht : TwA u t) (t3 : 243 ≤ t) (s : Int) {p : Nat} {a b c : Int} (ha : hV u t 7 = a) (a0 : 0 ≤ a) (a4 : a ≤ 4) (hb : hV u (t + 1) 3 = b) (b0 : 0 ≤ b) (b9 : b ≤ 9) (hc : hV u t 1 = c) (hp : p ≤ n) : ∃ p' s' : Nat, m_X7_readCrossed t 2 (tS u (p : Int) s 0) = some (0, tS (if kCrossed B n p a b c = 0 then hsetV u (t + 12) (9 * (nv B n p).toNat + (nv B n (np B n p)).toNat) (nv B n (np B n (np B n p))) else u) (p' : Int) (s' : Int) ((kCrossed B n p a b c : Nat) : Int)) ∧ p' ≤ n ∧ (kCrossed B n p a b c = 0 → p' = np B n (np B n (np B n p))) := by
  have hs := h.1
  have p1 := np_le B hp
  have p2 := np_le B p1
  have p3 := np_le B p2
  have E1 := c_num h s 0 (a - 1) hp
  have E2 := c_num h ((sk B n p : Nat) : Int) 0 (b - 1) p1
  have E3 := c_num h ((sk B n (np B n p) : Nat) : Int) 0 c p2
  have wa : True → w32 (a - 1) = a - 1 := fun _ => w32_id ⟨by omega, by omega⟩
  have wb : True → w32 (b - 1) = b - 1 := fun _ => w32_id ⟨by omega, by omega⟩
  unfold kCrossed
  by_cases f1 : nf B n p 0 (a - 1) = 0
  · have r1 := nf_0 f1
    rw [f1] at E1
    have E1 : m_X6_number 2 0 (a - 1) (tS u (p : Int) s 0) = some (nv B n p, tS u ((np B n p : Nat) : Int) ((sk B n p : Nat) : Int) 0) := E1
    rw [sq_0 f1]
    by_cases f2 : nf B n (np B n p) 0 (b - 1) = 0
    · have r2 := nf_0 f2
      rw [f2] at E2
      have E2 : m_X6_number 2 0 (b - 1) (tS u ((np B n p : Nat) : Int) ((sk B n p : Nat) : Int) 0) = some (nv B n (np B n p), tS u ((np B n (np B n p) : Nat) : Int) ((sk B n (np B n p) : Nat) : Int) 0) := E2
      rw [sq_0 f2]
      refine ⟨np B n (np B n (np B n p)), sk B n (np B n (np B n p)), ?_, p3, fun _ => rfl⟩
      by_cases f3 : nf B n (np B n (np B n p)) 0 c = 0
      · rw [f3] at E3 ⊢
        have E3 : m_X6_number 2 0 c (tS u ((np B n (np B n p) : Nat) : Int) ((sk B n (np B n p) : Nat) : Int) 0) = some (nv B n (np B n (np B n p)), tS u ((np B n (np B n (np B n p)) : Nat) : Int) ((sk B n (np B n (np B n p)) : Nat) : Int) 0) := E3
        simp only [m_X7_readCrossed, m_X7_readCrossed_L58, hgI_k, hgR_k, hpI_k, hpR_k, hpZ_k, haI_k, haR_k, hsI_k, hsZ_k, hlen_k, hlet_p, hret_p, hretZ_0, hretZ_1, hif_p, okk_setV, okk_setF, nV, nF, fV, vF, hcallV_b, hbind_p, tS_k, tS_N, tS_F, tS_4, tS_o (show t ≠ 2 by omega), tS_o (show t + 1 ≠ 2 by omega), kk_2 hs, TwA.k0 ht, TwA.k1 ht, TwA.k2 ht, TwA.k3 ht, TwA.k4 ht, TwA.k5 ht, TwA.k6 ht, TwA.k7 ht, TwA.k8 ht, TwA.k9 ht, TwA.k10 ht, TwA.k11 ht, TwA.k12 ht, TwA.k13 ht, TwA.k14 ht, TwA.k15 ht, TwA.k16 ht, TwA.k17 ht, TwA.n2 ht, TwA.n3 ht, TwA.n4 ht, TwA.n6 ht, TwA.n7 ht, TwA.n8 ht, TwA.n9 ht, TwA.n10 ht, TwA.n11 ht, TwA.n12 ht, TwA.n13 ht, TwA.n14 ht, TwA.n15 ht, TwA.n16 ht, TwA.n17 ht, TwA.f2 ht, TwA.f3 ht, TwA.f5 ht, TwA.f6 ht, TwA.f8 ht, TwA.f9 ht, TwA.f11 ht, TwA.f12 ht, TwA.f13 ht, TwA.f14 ht, TwA.f15 ht, TwA.b0 ht, TwA.b1 ht, TwA.b2 ht, TwA.g0 ht, TwA.g1 ht, TwA.g2 ht, E1, E2, E3, ha, hb, hc, wa trivial, wb trivial]
        rw [if_neg (fun z => z rfl), if_pos trivial]
        obtain ⟨x, hx⟩ : ∃ x : Nat, nv B n p = (x : Int) := ⟨(nv B n p).toNat, by omega⟩
        obtain ⟨y, hy⟩ : ∃ y : Nat, nv B n (np B n p) = (y : Int) := ⟨(nv B n (np B n p)).toNat, by omega⟩
        have x4 : x < 4 := by omega
        have y9 : y < 9 := by omega
        have i36 : 9 * x + y < 36 := by omega
        rw [hx, hy, Int.toNat_natCast, Int.toNat_natCast]
        rw [ix_9 x4 y9, hsI_n (by rw [tS_k]; exact ht.k12) (by rw [tS_N, ht.n12]; exact i36), tS_set (show t + 12 ≠ 2 by omega)]
        rfl
      · rw [if_neg f3]
        simp only [m_X7_readCrossed, m_X7_readCrossed_L58, hgI_k, hgR_k, hpI_k, hpR_k, hpZ_k, haI_k, haR_k, hsI_k, hsZ_k, hlen_k, hlet_p, hret_p, hretZ_0, hretZ_1, hif_p, okk_setV, okk_setF, nV, nF, fV, vF, hcallV_b, hbind_p, tS_k, tS_F, tS_4, tS_o (show t ≠ 2 by omega), tS_o (show t + 1 ≠ 2 by omega), kk_2 hs, TwA.k0 ht, TwA.k1 ht, TwA.k2 ht, TwA.k3 ht, TwA.k4 ht, TwA.k5 ht, TwA.k6 ht, TwA.k7 ht, TwA.k8 ht, TwA.k9 ht, TwA.k10 ht, TwA.k11 ht, TwA.k12 ht, TwA.k13 ht, TwA.k14 ht, TwA.k15 ht, TwA.k16 ht, TwA.k17 ht, TwA.n2 ht, TwA.n3 ht, TwA.n4 ht, TwA.n6 ht, TwA.n7 ht, TwA.n8 ht, TwA.n9 ht, TwA.n10 ht, TwA.n11 ht, TwA.n12 ht, TwA.n13 ht, TwA.n14 ht, TwA.n15 ht, TwA.n16 ht, TwA.n17 ht, TwA.f2 ht, TwA.f3 ht, TwA.f5 ht, TwA.f6 ht, TwA.f8 ht, TwA.f9 ht, TwA.f11 ht, TwA.f12 ht, TwA.f13 ht, TwA.f14 ht, TwA.f15 ht, TwA.b0 ht, TwA.b1 ht, TwA.b2 ht, TwA.g0 ht, TwA.g1 ht, TwA.g2 ht, E1, E2, E3, ha, hb, hc, wa trivial, wb trivial]
        rw [if_pos (nz f3)]
    · rw [sq_n f2, if_neg f2]
      refine ⟨np B n (np B n p), sk B n (np B n p), ?_, p2, fun z => absurd z f2⟩
      simp only [m_X7_readCrossed, m_X7_readCrossed_L58, hgI_k, hgR_k, hpI_k, hpR_k, hpZ_k, haI_k, haR_k, hsI_k, hsZ_k, hlen_k, hlet_p, hret_p, hretZ_0, hretZ_1, hif_p, okk_setV, okk_setF, nV, nF, fV, vF, hcallV_b, hbind_p, tS_k, tS_F, tS_4, tS_o (show t ≠ 2 by omega), tS_o (show t + 1 ≠ 2 by omega), kk_2 hs, TwA.k0 ht, TwA.k1 ht, TwA.k2 ht, TwA.k3 ht, TwA.k4 ht, TwA.k5 ht, TwA.k6 ht, TwA.k7 ht, TwA.k8 ht, TwA.k9 ht, TwA.k10 ht, TwA.k11 ht, TwA.k12 ht, TwA.k13 ht, TwA.k14 ht, TwA.k15 ht, TwA.k16 ht, TwA.k17 ht, TwA.n2 ht, TwA.n3 ht, TwA.n4 ht, TwA.n6 ht, TwA.n7 ht, TwA.n8 ht, TwA.n9 ht, TwA.n10 ht, TwA.n11 ht, TwA.n12 ht, TwA.n13 ht, TwA.n14 ht, TwA.n15 ht, TwA.n16 ht, TwA.n17 ht, TwA.f2 ht, TwA.f3 ht, TwA.f5 ht, TwA.f6 ht, TwA.f8 ht, TwA.f9 ht, TwA.f11 ht, TwA.f12 ht, TwA.f13 ht, TwA.f14 ht, TwA.f15 ht, TwA.b0 ht, TwA.b1 ht, TwA.b2 ht, TwA.g0 ht, TwA.g1 ht, TwA.g2 ht, E1, E2, ha, hb, hc, wa trivial, wb trivial, x_numberF hs _ _ _ _ (nz f2)]
      rw [if_pos (nz f2)]
  · rw [sq_n f1, if_neg f1]
    refine ⟨np B n p, sk B n p, ?_, p1, fun z => absurd z f1⟩
    simp only [m_X7_readCrossed, m_X7_readCrossed_L58, hgI_k, hgR_k, hpI_k, hpR_k, hpZ_k, haI_k, haR_k, hsI_k, hsZ_k, hlen_k, hlet_p, hret_p, hretZ_0, hretZ_1, hif_p, okk_setV, okk_setF, nV, nF, fV, vF, hcallV_b, hbind_p, tS_k, tS_F, tS_4, tS_o (show t ≠ 2 by omega), tS_o (show t + 1 ≠ 2 by omega), kk_2 hs, TwA.k0 ht, TwA.k1 ht, TwA.k2 ht, TwA.k3 ht, TwA.k4 ht, TwA.k5 ht, TwA.k6 ht, TwA.k7 ht, TwA.k8 ht, TwA.k9 ht, TwA.k10 ht, TwA.k11 ht, TwA.k12 ht, TwA.k13 ht, TwA.k14 ht, TwA.k15 ht, TwA.k16 ht, TwA.k17 ht, TwA.n2 ht, TwA.n3 ht, TwA.n4 ht, TwA.n6 ht, TwA.n7 ht, TwA.n8 ht, TwA.n9 ht, TwA.n10 ht, TwA.n11 ht, TwA.n12 ht, TwA.n13 ht, TwA.n14 ht, TwA.n15 ht, TwA.n16 ht, TwA.n17 ht, TwA.f2 ht, TwA.f3 ht, TwA.f5 ht, TwA.f6 ht, TwA.f8 ht, TwA.f9 ht, TwA.f11 ht, TwA.f12 ht, TwA.f13 ht, TwA.f14 ht, TwA.f15 ht, TwA.b0 ht, TwA.b1 ht, TwA.b2 ht, TwA.g0 ht, TwA.g1 ht, TwA.g2 ht, E1, ha, hb, hc, wa trivial, wb trivial, x_numberF hs _ _ _ _ (nz f1)]
    rw [if_pos (nz f1)]
theorem c_want {n : Nat} {B : Nat → Int} {u : hS} (h : cTp n B u) {t : Nat} (ht : TwA u t) (t3 : 243 ≤ t) (s : Int) {k p : Nat} {a q : Int} (ha : hV u t 7 = a) (a0 : 0 ≤ a) (a4 : a ≤ 4) (hq : hV u t 0 = q) (q0 : 0 ≤ q) (q8 : q ≤ 8) (hk : hV u t 10 = (k : Int)) (k8 : k < 8) (hp : p ≤ n) : ∃ p' s' : Nat, m_X7_readWant t 2 (tS u (p : Int) s 0) = some (0, tS (if kWant B n p a q = 0 then wantM u t k (nv B n p) (nv B n (np B n p)) (nv B n (np B n (np B n p))) (nv B n (np B n (np B n (np B n p)))) else u) (p' : Int) (s' : Int) ((kWant B n p a q : Nat) : Int)) ∧ p' ≤ n ∧ (kWant B n p a q = 0 → p' = np B n (np B n (np B n (np B n p)))) := by
  have hs := h.1
  have p1 := np_le B hp
  have p2 := np_le B p1
  have p3 := np_le B p2
  have p4 := np_le B p3
  have E1 := c_num h s 0 (a - 1) hp
  have E2 := c_num h ((sk B n p : Nat) : Int) 0 (q - 1) p1
  have E3 := c_num h ((sk B n (np B n p) : Nat) : Int) 0 99 p2
  have E4 := c_num h ((sk B n (np B n (np B n p)) : Nat) : Int) 1 50 p3
  have wa : True → w32 (a - 1) = a - 1 := fun _ => w32_id ⟨by omega, by omega⟩
  have wb : True → w32 (q - 1) = q - 1 := fun _ => w32_id ⟨by omega, by omega⟩
  unfold kWant
  by_cases f1 : nf B n p 0 (a - 1) = 0
  · rw [f1] at E1
    have E1 : m_X6_number 2 0 (a - 1) (tS u (p : Int) s 0) = some (nv B n p, tS u ((np B n p : Nat) : Int) ((sk B n p : Nat) : Int) 0) := E1
    rw [sq_0 f1]
    by_cases f2 : nf B n (np B n p) 0 (q - 1) = 0
    · rw [f2] at E2
      have E2 : m_X6_number 2 0 (q - 1) (tS u ((np B n p : Nat) : Int) ((sk B n p : Nat) : Int) 0) = some (nv B n (np B n p), tS u ((np B n (np B n p) : Nat) : Int) ((sk B n (np B n p) : Nat) : Int) 0) := E2
      rw [sq_0 f2]
      by_cases f3 : nf B n (np B n (np B n p)) 0 99 = 0
      · rw [f3] at E3
        have E3 : m_X6_number 2 0 99 (tS u ((np B n (np B n p) : Nat) : Int) ((sk B n (np B n p) : Nat) : Int) 0) = some (nv B n (np B n (np B n p)), tS u ((np B n (np B n (np B n p)) : Nat) : Int) ((sk B n (np B n (np B n p)) : Nat) : Int) 0) := E3
        rw [sq_0 f3]
        refine ⟨np B n (np B n (np B n (np B n p))), sk B n (np B n (np B n (np B n p))), ?_, p4, fun _ => rfl⟩
        by_cases f4 : nf B n (np B n (np B n (np B n p))) 1 50 = 0
        · rw [f4] at E4 ⊢
          have E4 : m_X6_number 2 1 50 (tS u ((np B n (np B n (np B n p)) : Nat) : Int) ((sk B n (np B n (np B n p)) : Nat) : Int) 0) = some (nv B n (np B n (np B n (np B n p))), tS u ((np B n (np B n (np B n (np B n p))) : Nat) : Int) ((sk B n (np B n (np B n (np B n p))) : Nat) : Int) 0) := E4
          have k6 : k < 1000000 := by omega
          simp only [m_X7_readWant, m_X7_readWant_L101, hgI_k, hgR_k, hpI_k, hpR_k, hpZ_k, haI_k, haR_k, hsI_k, hsZ_k, hlen_k, hlet_p, hret_p, hretZ_0, hretZ_1, hif_p, okk_setV, okk_setF, nV, nF, fV, vF, hsI_n, hcallV_b, hbind_p, tS_k, tS_N, tS_F, tS_4, tS_o (show t ≠ 2 by omega), tS_set (show t ≠ 2 by omega), tS_set (show t + 13 ≠ 2 by omega), tS_set (show t + 14 ≠ 2 by omega), tS_set (show t + 15 ≠ 2 by omega), tS_set (show t + 16 ≠ 2 by omega), hV_ne (show t ≠ t + 13 by omega), hV_ne (show t ≠ t + 14 by omega), hV_ne (show t ≠ t + 15 by omega), hV_ne (show t ≠ t + 16 by omega), kk_2 hs, TwA.k0 ht, TwA.k1 ht, TwA.k2 ht, TwA.k3 ht, TwA.k4 ht, TwA.k5 ht, TwA.k6 ht, TwA.k7 ht, TwA.k8 ht, TwA.k9 ht, TwA.k10 ht, TwA.k11 ht, TwA.k12 ht, TwA.k13 ht, TwA.k14 ht, TwA.k15 ht, TwA.k16 ht, TwA.k17 ht, TwA.n2 ht, TwA.n3 ht, TwA.n4 ht, TwA.n6 ht, TwA.n7 ht, TwA.n8 ht, TwA.n9 ht, TwA.n10 ht, TwA.n11 ht, TwA.n12 ht, TwA.n13 ht, TwA.n14 ht, TwA.n15 ht, TwA.n16 ht, TwA.n17 ht, TwA.f2 ht, TwA.f3 ht, TwA.f5 ht, TwA.f6 ht, TwA.f8 ht, TwA.f9 ht, TwA.f11 ht, TwA.f12 ht, TwA.f13 ht, TwA.f14 ht, TwA.f15 ht, TwA.b0 ht, TwA.b1 ht, TwA.b2 ht, TwA.g0 ht, TwA.g1 ht, TwA.g2 ht, E1, E2, E3, E4, ha, hq, hk, k8, ix_s k6, wa trivial, wb trivial]
          rw [if_neg (fun z => z rfl), if_pos trivial]
          rfl
        · rw [if_neg f4]
          simp only [m_X7_readWant, m_X7_readWant_L101, hgI_k, hgR_k, hpI_k, hpR_k, hpZ_k, haI_k, haR_k, hsI_k, hsZ_k, hlen_k, hlet_p, hret_p, hretZ_0, hretZ_1, hif_p, okk_setV, okk_setF, nV, nF, fV, vF, hcallV_b, hbind_p, tS_k, tS_4, tS_o (show t ≠ 2 by omega), kk_2 hs, TwA.k0 ht, TwA.k1 ht, TwA.k2 ht, TwA.k3 ht, TwA.k4 ht, TwA.k5 ht, TwA.k6 ht, TwA.k7 ht, TwA.k8 ht, TwA.k9 ht, TwA.k10 ht, TwA.k11 ht, TwA.k12 ht, TwA.k13 ht, TwA.k14 ht, TwA.k15 ht, TwA.k16 ht, TwA.k17 ht, TwA.n2 ht, TwA.n3 ht, TwA.n4 ht, TwA.n6 ht, TwA.n7 ht, TwA.n8 ht, TwA.n9 ht, TwA.n10 ht, TwA.n11 ht, TwA.n12 ht, TwA.n13 ht, TwA.n14 ht, TwA.n15 ht, TwA.n16 ht, TwA.n17 ht, TwA.f2 ht, TwA.f3 ht, TwA.f5 ht, TwA.f6 ht, TwA.f8 ht, TwA.f9 ht, TwA.f11 ht, TwA.f12 ht, TwA.f13 ht, TwA.f14 ht, TwA.f15 ht, TwA.b0 ht, TwA.b1 ht, TwA.b2 ht, TwA.g0 ht, TwA.g1 ht, TwA.g2 ht, E1, E2, E3, E4, ha, hq, wa trivial, wb trivial]
          rw [if_pos (nz f4)]
      · rw [sq_n f3, if_neg f3]
        refine ⟨np B n (np B n (np B n p)), sk B n (np B n (np B n p)), ?_, p3, fun z => absurd z f3⟩
        simp only [m_X7_readWant, m_X7_readWant_L101, hgI_k, hgR_k, hpI_k, hpR_k, hpZ_k, haI_k, haR_k, hsI_k, hsZ_k, hlen_k, hlet_p, hret_p, hretZ_0, hretZ_1, hif_p, okk_setV, okk_setF, nV, nF, fV, vF, hcallV_b, hbind_p, tS_k, tS_4, tS_o (show t ≠ 2 by omega), kk_2 hs, TwA.k0 ht, TwA.k1 ht, TwA.k2 ht, TwA.k3 ht, TwA.k4 ht, TwA.k5 ht, TwA.k6 ht, TwA.k7 ht, TwA.k8 ht, TwA.k9 ht, TwA.k10 ht, TwA.k11 ht, TwA.k12 ht, TwA.k13 ht, TwA.k14 ht, TwA.k15 ht, TwA.k16 ht, TwA.k17 ht, TwA.n2 ht, TwA.n3 ht, TwA.n4 ht, TwA.n6 ht, TwA.n7 ht, TwA.n8 ht, TwA.n9 ht, TwA.n10 ht, TwA.n11 ht, TwA.n12 ht, TwA.n13 ht, TwA.n14 ht, TwA.n15 ht, TwA.n16 ht, TwA.n17 ht, TwA.f2 ht, TwA.f3 ht, TwA.f5 ht, TwA.f6 ht, TwA.f8 ht, TwA.f9 ht, TwA.f11 ht, TwA.f12 ht, TwA.f13 ht, TwA.f14 ht, TwA.f15 ht, TwA.b0 ht, TwA.b1 ht, TwA.b2 ht, TwA.g0 ht, TwA.g1 ht, TwA.g2 ht, E1, E2, E3, ha, hq, wa trivial, wb trivial, x_numberF hs _ _ _ _ (nz f3)]
        rw [if_pos (nz f3)]
    · rw [sq_n f2, if_neg f2]
      refine ⟨np B n (np B n p), sk B n (np B n p), ?_, p2, fun z => absurd z f2⟩
      simp only [m_X7_readWant, m_X7_readWant_L101, hgI_k, hgR_k, hpI_k, hpR_k, hpZ_k, haI_k, haR_k, hsI_k, hsZ_k, hlen_k, hlet_p, hret_p, hretZ_0, hretZ_1, hif_p, okk_setV, okk_setF, nV, nF, fV, vF, hcallV_b, hbind_p, tS_k, tS_4, tS_o (show t ≠ 2 by omega), kk_2 hs, TwA.k0 ht, TwA.k1 ht, TwA.k2 ht, TwA.k3 ht, TwA.k4 ht, TwA.k5 ht, TwA.k6 ht, TwA.k7 ht, TwA.k8 ht, TwA.k9 ht, TwA.k10 ht, TwA.k11 ht, TwA.k12 ht, TwA.k13 ht, TwA.k14 ht, TwA.k15 ht, TwA.k16 ht, TwA.k17 ht, TwA.n2 ht, TwA.n3 ht, TwA.n4 ht, TwA.n6 ht, TwA.n7 ht, TwA.n8 ht, TwA.n9 ht, TwA.n10 ht, TwA.n11 ht, TwA.n12 ht, TwA.n13 ht, TwA.n14 ht, TwA.n15 ht, TwA.n16 ht, TwA.n17 ht, TwA.f2 ht, TwA.f3 ht, TwA.f5 ht, TwA.f6 ht, TwA.f8 ht, TwA.f9 ht, TwA.f11 ht, TwA.f12 ht, TwA.f13 ht, TwA.f14 ht, TwA.f15 ht, TwA.b0 ht, TwA.b1 ht, TwA.b2 ht, TwA.g0 ht, TwA.g1 ht, TwA.g2 ht, E1, E2, ha, hq, wa trivial, wb trivial, x_numberF hs _ _ _ _ (nz f2)]
      rw [if_pos (nz f2)]
  · rw [sq_n f1, if_neg f1]
    refine ⟨np B n p, sk B n p, ?_, p1, fun z => absurd z f1⟩
    simp only [m_X7_readWant, m_X7_readWant_L101, hgI_k, hgR_k, hpI_k, hpR_k, hpZ_k, haI_k, haR_k, hsI_k, hsZ_k, hlen_k, hlet_p, hret_p, hretZ_0, hretZ_1, hif_p, okk_setV, okk_setF, nV, nF, fV, vF, hcallV_b, hbind_p, tS_k, tS_4, tS_o (show t ≠ 2 by omega), kk_2 hs, TwA.k0 ht, TwA.k1 ht, TwA.k2 ht, TwA.k3 ht, TwA.k4 ht, TwA.k5 ht, TwA.k6 ht, TwA.k7 ht, TwA.k8 ht, TwA.k9 ht, TwA.k10 ht, TwA.k11 ht, TwA.k12 ht, TwA.k13 ht, TwA.k14 ht, TwA.k15 ht, TwA.k16 ht, TwA.k17 ht, TwA.n2 ht, TwA.n3 ht, TwA.n4 ht, TwA.n6 ht, TwA.n7 ht, TwA.n8 ht, TwA.n9 ht, TwA.n10 ht, TwA.n11 ht, TwA.n12 ht, TwA.n13 ht, TwA.n14 ht, TwA.n15 ht, TwA.n16 ht, TwA.n17 ht, TwA.f2 ht, TwA.f3 ht, TwA.f5 ht, TwA.f6 ht, TwA.f8 ht, TwA.f9 ht, TwA.f11 ht, TwA.f12 ht, TwA.f13 ht, TwA.f14 ht, TwA.f15 ht, TwA.b0 ht, TwA.b1 ht, TwA.b2 ht, TwA.g0 ht, TwA.g1 ht, TwA.g2 ht, E1, ha, hq, wa trivial, wb trivial, x_numberF hs _ _ _ _ (nz f1)]
    rw [if_pos (nz f1)]
