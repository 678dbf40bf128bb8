/-! a town's clauses, as the reference reads them: each by itself -/
theorem r_g7 {n : Nat} {B : Nat → Int} {v : hS} (h : rTp n B v) {S : Nat → Int} {p w k : Int} {f : Nat → hM} : hgR 10 220 7 f (rS (hput v 226 S) p w k) = f 226 (rS (hput v 226 S) p w k) := by
  rw [hgR_k (by rw [rS_k, okk_put]; exact kk_220 h.1), rS_F, fP, rf_220_7 h.1]
theorem r_ld {n : Nat} {B : Nat → Int} {v : hS} (h : rTp n B v) {S : Nat → Int} {p w k : Int} {f : Int → hM} {i : Int} {c : Nat} (e : i = (c : Int)) (hc : c < 160) : haI 20 226 i f (rS (hput v 226 S) p w k) = f (S c) (rS (hput v 226 S) p w k) := by
  rw [e, haI_n (by rw [rS_k, okk_put]; exact kk_226 h.1) (by rw [rS_N, nP, ln_226 h.1]; exact hc), rS_o (by decide), hV_put_s]
theorem r_st {n : Nat} {B : Nat → Int} {v : hS} (h : rTp n B v) {S : Nat → Int} {p w k : Int} {f : hM} {i x : Int} {c : Nat} (e : i = (c : Int)) (hc : c < 160) : hsI 20 226 i x f (rS (hput v 226 S) p w k) = f (rS (hput v 226 (sup S c x)) p w k) := by
  rw [e, hsI_n (by rw [rS_k, okk_put]; exact kk_226 h.1) (by rw [rS_N, nP, ln_226 h.1]; exact hc), rS_set (by decide), setV_put]
theorem r_cv {n : Nat} {B : Nat → Int} {v : hS} (h : rTp n B v) {S : Nat → Int} {p w k : Int} {g : hM} {f : Int → hM} : hcallV 10 220 g f (rS (hput v 226 S) p w k) = hbind (g (rS (hput v 226 S) p w k)) f := hcallV_b (by rw [rS_k, okk_put]; exact kk_220 h.1)
theorem r_g10 {n : Nat} {B : Nat → Int} {v : hS} (h : rTp n B v) {S : Nat → Int} {p w k : Int} {f : Int → hM} : hgI 10 220 10 f (rS (hput v 226 S) p w k) = f k (rS (hput v 226 S) p w k) := by
  rw [hgI_k (by rw [rS_k, okk_put]; exact kk_220 h.1), rS_10]
theorem r_fail4 {n : Nat} {B : Nat → Int} {v : hS} (h : rTp n B v) (S : Nat → Int) (p k : Int) {a : Nat} (ha : a ≤ n) {f : Int → hM} : hcallV 10 220 (m_X10_fails 220 4 (a : Int)) f (rS (hput v 226 S) p 0 k) = f 0 (rS (hput v 226 S) p ((1 + 8 * a + 4 : Nat) : Int) k) := by
  rw [r_cv h]
  show hbind (m_X10_fails 220 ((4 : Nat) : Int) _ _) _ = _
  rw [r_failS h S p k ha (by decide), hbind_p]
def kF (q : Nat) : Nat := 1 + 8 * q + 4
theorem kF_n (q : Nat) : kF q ≠ 0 := by unfold kF; omega
def kCnt (q : Nat) (c N : Int) (f : Nat) : Nat := if c < N then f else kF q
theorem kCnt_t {q : Nat} {c N : Int} {f : Nat} (h : c < N) : kCnt q c N f = f := if_pos h
theorem kCnt_f {q : Nat} {c N : Int} {f : Nat} (h : ¬ c < N) : kCnt q c N f = kF q := if_neg h
theorem sLink_o {B : Nat → Int} {n p c : Nat} {S : Nat → Int} {i : Nat} (h : i ≠ c) (h1 : i ≠ c + 1) : sLink B n p c S i = S i := by
  unfold sLink
  rw [sup_n h1, sup_n h]
/-- the outcome of a clause, as the reference has it -/
def rOut (v : hS) (g : hM) (st : hS) (K : Nat) (S1 : Nat → Int) (P1 : Nat) : Prop := ∃ S' p' k', g st = some (if K = 0 then 1 else 0, rS (hput v 226 S') p' (K : Int) k') ∧ (K = 0 → S' = S1 ∧ p' = (P1 : Int))
theorem rOut_b {v : hS} {g : hM} {st : hS} {K : Nat} {S1 : Nat → Int} {P1 : Nat} (hK : K ≠ 0) (S' : Nat → Int) (p' k' : Int) (e : g st = some (0, rS (hput v 226 S') p' (K : Int) k')) : rOut v g st K S1 P1 := ⟨S', p', k', by rw [if_neg hK]; exact e, fun z => absurd z hK⟩
theorem rOut_g {v : hS} {g : hM} {st : hS} {K : Nat} {S1 : Nat → Int} {P1 : Nat} (hK : K = 0) (k' : Int) (e : g st = some (1, rS (hput v 226 S1) (P1 : Int) 0 k')) : rOut v g st K S1 P1 := ⟨S1, P1, k', by rw [if_pos hK, hK]; exact e, fun _ => ⟨rfl, rfl⟩⟩
def sBridge (B : Nat → Int) (n p k : Nat) (S : Nat → Int) : Nat → Int := sup (sLink B n p (94 + 2 * k) S) 2 ((k + 1 : Nat) : Int)
def sFerry (B : Nat → Int) (n p k : Nat) (S : Nat → Int) : Nat → Int := sup (sLink B n p (112 + 2 * k) S) 3 ((k + 1 : Nat) : Int)
def sFrost (B : Nat → Int) (n p k : Nat) (S : Nat → Int) : Nat → Int := sup (sLink B n p (120 + 2 * k) S) 7 ((k + 1 : Nat) : Int)
def zL (S : Nat → Int) (k j : Nat) : Nat → Int := fun i => if (22 + 9 * k ≤ i ∧ i < 22 + 9 * k + j) ∨ (58 + 9 * k ≤ i ∧ i < 58 + 9 * k + j) then 0 else S i
theorem zL_0 (S : Nat → Int) (k : Nat) : zL S k 0 = S := by
  funext i
  unfold zL
  rw [if_neg (by omega)]
theorem zL_s (S : Nat → Int) (k j : Nat) (hk : k < 4) : sup (sup (zL S k j) (22 + 9 * k + j) 0) (58 + 9 * k + j) 0 = zL S k (j + 1) := by
  funext i
  unfold sup zL
  by_cases h1 : i = 58 + 9 * k + j
  · rw [if_pos h1, if_pos (by omega)]
  · rw [if_neg h1]
    by_cases h2 : i = 22 + 9 * k + j
    · rw [if_pos h2, if_pos (by omega)]
    · rw [if_neg h2]
      by_cases h3 : (22 + 9 * k ≤ i ∧ i < 22 + 9 * k + j) ∨ (58 + 9 * k ≤ i ∧ i < 58 + 9 * k + j)
      · rw [if_pos h3, if_pos (by omega)]
      · rw [if_neg h3, if_neg (by omega)]
theorem zL_4 (S : Nat → Int) (k j : Nat) (i : Nat) (hi : i < 22) : zL S k j i = S i := by
  unfold zL
  rw [if_neg (by omega)]
def sPerson (B : Nat → Int) (n p k : Nat) (S : Nat → Int) : Nat → Int := sup (zL (sup (sup (sup S (10 + 3 * k) (nv B n p)) (10 + 3 * k + 1) (nv B n p)) (10 + 3 * k + 2) 0) k 9) 4 ((k + 1 : Nat) : Int)
def sCross (B : Nat → Int) (n p : Nat) (S : Nat → Int) : Nat → Int := sup S (22 + 9 * (nv B n p).toNat + (nv B n (np B n p)).toNat) (nv B n (np B n (np B n p)))
def sWant (B : Nat → Int) (n p k : Nat) (S : Nat → Int) : Nat → Int := sup (sup (sup (sup (sup S (128 + 4 * k) (nv B n p)) (128 + 4 * k + 1) (nv B n (np B n p))) (128 + 4 * k + 2) (nv B n (np B n (np B n p)))) (128 + 4 * k + 3) (nv B n (np B n (np B n (np B n p))))) 5 ((k + 1 : Nat) : Int)
theorem r_bridge {n : Nat} {B : Nat → Int} {v : hS} (h : rTp n B v) (S : Nat → Int) {k : Nat} (hk : S 2 = (k : Int)) (k9 : k ≤ 9) {x : Int} (hx : S 0 = x) (x0 : 0 ≤ x) (x8 : x ≤ 8) (m : Int) {q : Nat} (hq : q ≤ n) : rOut v (m_X10_isBridgeHere 220 (q : Int)) (rS (hput v 226 S) (q : Int) 0 m) (kCnt q k 9 (kLink B n (q + wl B n q) x)) (sBridge B n (q + wl B n q) k S) (np B n (np B n (q + wl B n q))) := by
  have L2 : (2 : Int) = ((2 : Nat) : Int) := rfl
  have l2 := lt_c 2 160 rfl
  by_cases kk : k < 9
  · have ki : ((k : Nat) : Int) < 9 := by omega
    have kn : ((k : Nat) : Int) ≠ 9 := by omega
    have k6 : k < 1000000 := by omega
    rw [kCnt_t ki]
    by_cases z : kLink B n (q + wl B n q) x = 0
    · refine rOut_g z (nv B n (np B n (q + wl B n q))) ?_
      simp only [m_X10_isBridgeHere, hgI_k, hgR_k, hpI_k, hpR_k, hpZ_k, haI_k, haR_k, hsI_k, hsZ_k, hlen_k, hlet_p, hret_p, hretZ_0, hretZ_1, hif_p, okk_setV, okk_setF, nV, nF, fV, vF, r_g7 h, r_ld h L2 l2, r_st h L2 l2, hk, ix_94 kk, r_cv h, r_two h S (show 0 < 94 + 2 * k by omega) (show 94 + 2 * k + 1 < 160 by omega) hx x0 x8 m hq z, hbind_p, sLink_o (show 2 ≠ 94 + 2 * k by omega) (show 2 ≠ 94 + 2 * k + 1 by omega), ix_s k6]
      rw [if_pos kn, if_pos (by decide)]
      rfl
    · obtain ⟨S', p', k', C⟩ := r_twoX h S (show 0 < 94 + 2 * k by omega) (show 94 + 2 * k + 1 < 160 by omega) hx x0 x8 m hq z
      refine rOut_b z S' p' k' ?_
      simp only [m_X10_isBridgeHere, hgI_k, hgR_k, hpI_k, hpR_k, hpZ_k, haI_k, haR_k, hsI_k, hsZ_k, hlen_k, hlet_p, hret_p, hretZ_0, hretZ_1, hif_p, okk_setV, okk_setF, nV, nF, fV, vF, r_g7 h, r_ld h L2 l2, hk, ix_94 kk, r_cv h, C, hbind_p]
      rw [if_pos kn, if_neg (by decide)]
  · have ki : ¬ ((k : Nat) : Int) < 9 := by omega
    have kn : ((k : Nat) : Int) = 9 := by omega
    rw [kCnt_f ki]
    refine rOut_b (kF_n q) S (q : Int) m ?_
    simp only [m_X10_isBridgeHere, hgI_k, hgR_k, hpI_k, hpR_k, hpZ_k, haI_k, haR_k, hsI_k, hsZ_k, hlen_k, hlet_p, hret_p, hretZ_0, hretZ_1, hif_p, okk_setV, okk_setF, nV, nF, fV, vF, r_g7 h, r_ld h L2 l2, hk, r_fail4 h S _ _ hq]
    rw [if_neg (fun y => y kn)]
    rfl
theorem r_ferry {n : Nat} {B : Nat → Int} {v : hS} (h : rTp n B v) (S : Nat → Int) {k : Nat} (hk : S 3 = (k : Int)) (k9 : k ≤ 4) {x : Int} (hx : S 0 = x) (x0 : 0 ≤ x) (x8 : x ≤ 8) (m : Int) {q : Nat} (hq : q ≤ n) : rOut v (m_X10_isFerryHere 220 (q : Int)) (rS (hput v 226 S) (q : Int) 0 m) (kCnt q k 4 (kLink B n (q + wl B n q) x)) (sFerry B n (q + wl B n q) k S) (np B n (np B n (q + wl B n q))) := by
  have L2 : (3 : Int) = ((3 : Nat) : Int) := rfl
  have l2 := lt_c 3 160 rfl
  by_cases kk : k < 4
  · have ki : ((k : Nat) : Int) < 4 := by omega
    have kn : ((k : Nat) : Int) ≠ 4 := by omega
    have k6 : k < 1000000 := by omega
    rw [kCnt_t ki]
    by_cases z : kLink B n (q + wl B n q) x = 0
    · refine rOut_g z (nv B n (np B n (q + wl B n q))) ?_
      simp only [m_X10_isFerryHere, hgI_k, hgR_k, hpI_k, hpR_k, hpZ_k, haI_k, haR_k, hsI_k, hsZ_k, hlen_k, hlet_p, hret_p, hretZ_0, hretZ_1, hif_p, okk_setV, okk_setF, nV, nF, fV, vF, r_g7 h, r_ld h L2 l2, r_st h L2 l2, hk, ix_112 kk, r_cv h, r_two h S (show 0 < 112 + 2 * k by omega) (show 112 + 2 * k + 1 < 160 by omega) hx x0 x8 m hq z, hbind_p, sLink_o (show 3 ≠ 112 + 2 * k by omega) (show 3 ≠ 112 + 2 * k + 1 by omega), ix_s k6]
      rw [if_pos kn, if_pos (by decide)]
      rfl
    · obtain ⟨S', p', k', C⟩ := r_twoX h S (show 0 < 112 + 2 * k by omega) (show 112 + 2 * k + 1 < 160 by omega) hx x0 x8 m hq z
      refine rOut_b z S' p' k' ?_
      simp only [m_X10_isFerryHere, hgI_k, hgR_k, hpI_k, hpR_k, hpZ_k, haI_k, haR_k, hsI_k, hsZ_k, hlen_k, hlet_p, hret_p, hretZ_0, hretZ_1, hif_p, okk_setV, okk_setF, nV, nF, fV, vF, r_g7 h, r_ld h L2 l2, hk, ix_112 kk, r_cv h, C, hbind_p]
      rw [if_pos kn, if_neg (by decide)]
  · have ki : ¬ ((k : Nat) : Int) < 4 := by omega
    have kn : ((k : Nat) : Int) = 4 := by omega
    rw [kCnt_f ki]
    refine rOut_b (kF_n q) S (q : Int) m ?_
    simp only [m_X10_isFerryHere, hgI_k, hgR_k, hpI_k, hpR_k, hpZ_k, haI_k, haR_k, hsI_k, hsZ_k, hlen_k, hlet_p, hret_p, hretZ_0, hretZ_1, hif_p, okk_setV, okk_setF, nV, nF, fV, vF, r_g7 h, r_ld h L2 l2, hk, r_fail4 h S _ _ hq]
    rw [if_neg (fun y => y kn)]
    rfl
theorem r_frost {n : Nat} {B : Nat → Int} {v : hS} (h : rTp n B v) (S : Nat → Int) {k : Nat} (hk : S 7 = (k : Int)) (k9 : k ≤ 4) (m : Int) {q : Nat} (hq : q ≤ n) : rOut v (m_X10_isFrostHere 220 (q : Int)) (rS (hput v 226 S) (q : Int) 0 m) (kCnt q k 4 (kFrost B n (q + wl B n q))) (sFrost B n (q + wl B n q) k S) (np B n (np B n (q + wl B n q))) := by
  have L2 : (7 : Int) = ((7 : Nat) : Int) := rfl
  have l2 := lt_c 7 160 rfl
  have p0 := (wl_b B hq).1
  have p1 := np_le B p0
  by_cases kk : k < 4
  · have ki : ((k : Nat) : Int) < 4 := by omega
    have kn : ((k : Nat) : Int) ≠ 4 := by omega
    have k6 : k < 1000000 := by omega
    have c6 : 120 + 2 * k < 1000000 := by omega
    have c0 : 120 + 2 * k < 160 := by omega
    have c1 : 120 + 2 * k + 1 < 160 := by omega
    rw [kCnt_t ki]
    unfold kFrost
    by_cases f1 : nf B n (q + wl B n q) 0 99 = 0
    · rw [sq_0 f1]
      have C1 := r_cell h S c0 0 99 m p0 f1
      by_cases f2 : nf B n (np B n (q + wl B n q)) (nv B n (q + wl B n q)) 99 = 0
      · refine rOut_g f2 (nv B n (np B n (q + wl B n q))) ?_
        have C2 := r_cell h (sup S (120 + 2 * k) (nv B n (q + wl B n q))) c1 (nv B n (q + wl B n q)) 99 (nv B n (q + wl B n q)) p1 f2
        simp only [m_X10_isFrostHere, m_X10_isFrostHere_L64, hgI_k, hgR_k, hpI_k, hpR_k, hpZ_k, haI_k, haR_k, hsI_k, hsZ_k, hlen_k, hlet_p, hret_p, hretZ_0, hretZ_1, hif_p, okk_setV, okk_setF, nV, nF, fV, vF, r_g7 h, r_ld h L2 l2, r_ld h rfl c0, r_st h L2 l2, hk, ix_120 kk, r_cv h, r_pass h S 0 m hq, C1, hbind_p, sup_s, ix_s c6, C2, sup_n (show 7 ≠ 120 + 2 * k by omega), sup_n (show 7 ≠ 120 + 2 * k + 1 by omega), ix_s k6]
        rw [if_pos kn, if_neg (by decide), if_pos (by decide)]
        rfl
      · obtain ⟨p', k', C2⟩ := r_cellX h (sup S (120 + 2 * k) (nv B n (q + wl B n q))) ((120 + 2 * k + 1 : Nat) : Int) (nv B n (q + wl B n q)) 99 (nv B n (q + wl B n q)) p1 f2
        refine rOut_b f2 (sup S (120 + 2 * k) (nv B n (q + wl B n q))) p' k' ?_
        simp only [m_X10_isFrostHere, m_X10_isFrostHere_L64, hgI_k, hgR_k, hpI_k, hpR_k, hpZ_k, haI_k, haR_k, hsI_k, hsZ_k, hlen_k, hlet_p, hret_p, hretZ_0, hretZ_1, hif_p, okk_setV, okk_setF, nV, nF, fV, vF, r_g7 h, r_ld h L2 l2, r_ld h rfl c0, hk, ix_120 kk, r_cv h, r_pass h S 0 m hq, C1, hbind_p, sup_s, ix_s c6, C2]
        rw [if_pos kn, if_neg (by decide), if_neg (by decide)]
    · rw [sq_n f1]
      obtain ⟨p', k', C1⟩ := r_cellX h S ((120 + 2 * k : Nat) : Int) 0 99 m p0 f1
      refine rOut_b f1 S p' k' ?_
      simp only [m_X10_isFrostHere, m_X10_isFrostHere_L64, hgI_k, hgR_k, hpI_k, hpR_k, hpZ_k, haI_k, haR_k, hsI_k, hsZ_k, hlen_k, hlet_p, hret_p, hretZ_0, hretZ_1, hif_p, okk_setV, okk_setF, nV, nF, fV, vF, r_g7 h, r_ld h L2 l2, hk, ix_120 kk, r_cv h, r_pass h S 0 m hq, C1, hbind_p]
      rw [if_pos kn, if_pos (by trivial)]
  · have ki : ¬ ((k : Nat) : Int) < 4 := by omega
    have kn : ((k : Nat) : Int) = 4 := by omega
    rw [kCnt_f ki]
    refine rOut_b (kF_n q) S (q : Int) m ?_
    simp only [m_X10_isFrostHere, hgI_k, hgR_k, hpI_k, hpR_k, hpZ_k, haI_k, haR_k, hsI_k, hsZ_k, hlen_k, hlet_p, hret_p, hretZ_0, hretZ_1, hif_p, okk_setV, okk_setF, nV, nF, fV, vF, r_g7 h, r_ld h L2 l2, hk, r_fail4 h S _ _ hq]
    rw [if_neg (fun y => y kn)]
    rfl
theorem r_persL {n : Nat} {B : Nat → Int} {v : hS} (h : rTp n B v) (S : Nat → Int) {k : Nat} (hk : S 4 = (k : Int)) (kk : k < 4) (p m : Int) : ∀ d f j : Nat, d < f → j + d = 9 → m_X10_isPersonHere_L77 f 220 (j : Int) (rS (hput v 226 (zL S k j)) p 0 m) = some (1, rS (hput v 226 (sup (zL S k 9) 4 ((k + 1 : Nat) : Int))) p 0 m) := by
  have L4 : (4 : Int) = ((4 : Nat) : Int) := rfl
  have l4 := lt_c 4 160 rfl
  have k6 : k < 1000000 := by omega
  intro d
  induction d with
  | zero =>
    intro f j hf hj
    obtain ⟨f, rfl⟩ : ∃ i, f = i + 1 := ⟨f - 1, by omega⟩
    obtain rfl : j = 9 := by omega
    rw [m_X10_isPersonHere_L77]
    simp only [hgI_k, hgR_k, hpI_k, hpR_k, hpZ_k, haI_k, haR_k, hsI_k, hsZ_k, hlen_k, hlet_p, hret_p, hretZ_0, hretZ_1, hif_p, okk_setV, okk_setF, nV, nF, fV, vF, r_g7 h, r_ld h L4 l4, r_st h L4 l4, zL_4 S k 9 4 (by decide), hk, ix_s k6]
    rw [if_pos (by decide)]
  | succ d ih =>
    intro f j hf hj
    obtain ⟨f, rfl⟩ : ∃ i, f = i + 1 := ⟨f - 1, by omega⟩
    have e1 : 22 + 9 * k + j < 160 := by omega
    have e2 : 58 + 9 * k + j < 160 := by omega
    have e3 : 22 + 9 * k + j < 1000000 := by omega
    have e4 : 58 + 9 * k + j < 1000000 := by omega
    have j6 : j < 1000000 := by omega
    have hz : zL S k j 4 = (k : Int) := (zL_4 S k j 4 (by decide)).trans hk
    rw [m_X10_isPersonHere_L77]
    simp only [hgI_k, hgR_k, hpI_k, hpR_k, hpZ_k, haI_k, haR_k, hsI_k, hsZ_k, hlen_k, hlet_p, hret_p, hretZ_0, hretZ_1, hif_p, okk_setV, okk_setF, nV, nF, fV, vF, r_g7 h, r_ld h L4 l4, hz, ix_22 kk, ix_58 kk, ix_n e3, ix_n e4, r_st h rfl e1, r_st h rfl e2, sup_n (show 4 ≠ 22 + 9 * k + j by omega), zL_s S k j kk, ix_s j6]
    rw [if_neg (by omega)]
    exact ih f (j + 1) (by omega) (by omega)
theorem r_person {n : Nat} {B : Nat → Int} {v : hS} (h : rTp n B v) (S : Nat → Int) {k : Nat} (hk : S 4 = (k : Int)) (k9 : k ≤ 4) {x : Int} (hx : S 0 = x) (x0 : 0 ≤ x) (x8 : x ≤ 8) (m : Int) {q : Nat} (hq : q ≤ n) : rOut v (m_X10_isPersonHere 220 (q : Int)) (rS (hput v 226 S) (q : Int) 0 m) (kCnt q k 4 (kPerson B n (q + wl B n q) x)) (sPerson B n (q + wl B n q) k S) (np B n (q + wl B n q)) := by
  have L4 : (4 : Int) = ((4 : Nat) : Int) := rfl
  have l4 := lt_c 4 160 rfl
  have L0 : (0 : Int) = ((0 : Nat) : Int) := rfl
  have l0 := lt_c 0 160 rfl
  have p0 := (wl_b B hq).1
  have p1 := np_le B p0
  have wx : True → w32 (x - 1) = x - 1 := fun _ => w32_id ⟨by omega, by omega⟩
  by_cases kk : k < 4
  · have ki : ((k : Nat) : Int) < 4 := by omega
    have kn : ((k : Nat) : Int) ≠ 4 := by omega
    have c6 : 10 + 3 * k < 1000000 := by omega
    have c0 : 10 + 3 * k < 160 := by omega
    have c1 : 10 + 3 * k + 1 < 160 := by omega
    have c2 : 10 + 3 * k + 2 < 160 := by omega
    rw [kCnt_t ki]
    unfold kPerson
    by_cases f1 : nf B n (q + wl B n q) 0 (x - 1) = 0
    · have C1 := r_cell h S c0 0 (x - 1) m p0 f1
      refine rOut_g f1 (nv B n (q + wl B n q)) ?_
      simp only [m_X10_isPersonHere, hgI_k, hgR_k, hpI_k, hpR_k, hpZ_k, haI_k, haR_k, hsI_k, hsZ_k, hlen_k, hlet_p, hret_p, hretZ_0, hretZ_1, hif_p, okk_setV, okk_setF, nV, nF, fV, vF, r_g7 h, r_ld h L4 l4, r_ld h L0 l0, r_ld h rfl c0, r_st h rfl c1, r_st h rfl c2, hk, hx, ix_10 kk, r_cv h, r_pass h S 0 m hq, wx trivial, C1, hbind_p, sup_s, ix_s c6, ix_2 c6]
      rw [if_pos kn, if_pos (by decide)]
      have I := r_persL h (sup (sup (sup S (10 + 3 * k) (nv B n (q + wl B n q))) (10 + 3 * k + 1) (nv B n (q + wl B n q))) (10 + 3 * k + 2) 0) (k := k) (by rw [sup_n (by omega), sup_n (by omega), sup_n (by omega)]; exact hk) kk ((np B n (q + wl B n q) : Nat) : Int) (nv B n (q + wl B n q)) 9 1000000000 0 (by omega) (by omega)
      rw [zL_0] at I
      exact I
    · obtain ⟨p', k', C1⟩ := r_cellX h S ((10 + 3 * k : Nat) : Int) 0 (x - 1) m p0 f1
      refine rOut_b f1 S p' k' ?_
      simp only [m_X10_isPersonHere, hgI_k, hgR_k, hpI_k, hpR_k, hpZ_k, haI_k, haR_k, hsI_k, hsZ_k, hlen_k, hlet_p, hret_p, hretZ_0, hretZ_1, hif_p, okk_setV, okk_setF, nV, nF, fV, vF, r_g7 h, r_ld h L4 l4, r_ld h L0 l0, hk, hx, ix_10 kk, r_cv h, r_pass h S 0 m hq, wx trivial, C1, hbind_p]
      rw [if_pos kn, if_neg (by decide)]
  · have ki : ¬ ((k : Nat) : Int) < 4 := by omega
    have kn : ((k : Nat) : Int) = 4 := by omega
    rw [kCnt_f ki]
    refine rOut_b (kF_n q) S (q : Int) m ?_
    simp only [m_X10_isPersonHere, hgI_k, hgR_k, hpI_k, hpR_k, hpZ_k, haI_k, haR_k, hsI_k, hsZ_k, hlen_k, hlet_p, hret_p, hretZ_0, hretZ_1, hif_p, okk_setV, okk_setF, nV, nF, fV, vF, r_g7 h, r_ld h L4 l4, hk, r_fail4 h S _ _ hq]
    rw [if_neg (fun y => y kn)]
    rfl
theorem r_crossed {n : Nat} {B : Nat → Int} {v : hS} (h : rTp n B v) (S : Nat → Int) {a b c : Int} (ha : S 4 = a) (a0 : 0 ≤ a) (a4 : a ≤ 4) (hb : S 2 = b) (b0 : 0 ≤ b) (b9 : b ≤ 9) (hc : S 1 = c) (m : Int) {q : Nat} (hq : q ≤ n) : rOut v (m_X10_areCrossingsHere 220) (rS (hput v 226 S) (q : Int) 0 m) (kCrossed B n (q + wl B n q) a b c) (sCross B n (q + wl B n q) S) (np B n (np B n (np B n (q + wl B n q)))) := by
  have L4 : (4 : Int) = ((4 : Nat) : Int) := rfl
  have l4 := lt_c 4 160 rfl
  have L2 : (2 : Int) = ((2 : Nat) : Int) := rfl
  have l2 := lt_c 2 160 rfl
  have L1 : (1 : Int) = ((1 : Nat) : Int) := rfl
  have l1 := lt_c 1 160 rfl
  have p0 := (wl_b B hq).1
  have p1 := np_le B p0
  have p2 := np_le B p1
  have wa : True → w32 (a - 1) = a - 1 := fun _ => w32_id ⟨by omega, by omega⟩
  have wb : True → w32 (b - 1) = b - 1 := fun _ => w32_id ⟨by omega, by omega⟩
  unfold kCrossed
  by_cases f1 : nf B n (q + wl B n q) 0 (a - 1) = 0
  · rw [sq_0 f1]
    have r1 := nf_0 f1
    have C1 := r_num h S 0 (a - 1) m p0 f1
    by_cases f2 : nf B n (np B n (q + wl B n q)) 0 (b - 1) = 0
    · rw [sq_0 f2]
      have r2 := nf_0 f2
      have C2 := r_num h S 0 (b - 1) (nv B n (q + wl B n q)) p1 f2
      obtain ⟨x, hx⟩ : ∃ x : Nat, nv B n (q + wl B n q) = (x : Int) := ⟨(nv B n (q + wl B n q)).toNat, by omega⟩
      obtain ⟨y, hy⟩ : ∃ y : Nat, nv B n (np B n (q + wl B n q)) = (y : Int) := ⟨(nv B n (np B n (q + wl B n q))).toNat, by omega⟩
      have x4 : x < 4 := by omega
      have y9 : y < 9 := by omega
      have i6 : 22 + 9 * x + y < 1000000 := by omega
      have i1 : 22 + 9 * x + y < 160 := by omega
      rw [hx] at C1 C2
      rw [hy] at C2
      by_cases f3 : nf B n (np B n (np B n (q + wl B n q))) 0 c = 0
      · refine rOut_g f3 (nv B n (np B n (np B n (q + wl B n q)))) ?_
        have C3 := r_cell h S i1 0 c (y : Int) p2 f3
        simp only [m_X10_areCrossingsHere, hgI_k, hgR_k, hpI_k, hpR_k, hpZ_k, haI_k, haR_k, hsI_k, hsZ_k, hlen_k, hlet_p, hret_p, hretZ_0, hretZ_1, hif_p, okk_setV, okk_setF, nV, nF, fV, vF, r_g7 h, r_g10 h, r_ld h L4 l4, r_ld h L2 l2, r_ld h L1 l1, ha, hb, hc, r_cv h, r_pass h S 0 m hq, wa trivial, wb trivial, C1, C2, hbind_p, ix_22 x4, ix_n i6, C3]
        rw [if_pos (by decide), if_pos (by decide)]
        unfold sCross
        rw [hx, hy, Int.toNat_natCast, Int.toNat_natCast]
      · obtain ⟨p', k', C3⟩ := r_cellX h S ((22 + 9 * x + y : Nat) : Int) 0 c (y : Int) p2 f3
        refine rOut_b f3 S p' k' ?_
        simp only [m_X10_areCrossingsHere, hgI_k, hgR_k, hpI_k, hpR_k, hpZ_k, haI_k, haR_k, hsI_k, hsZ_k, hlen_k, hlet_p, hret_p, hretZ_0, hretZ_1, hif_p, okk_setV, okk_setF, nV, nF, fV, vF, r_g7 h, r_g10 h, r_ld h L4 l4, r_ld h L2 l2, r_ld h L1 l1, ha, hb, hc, r_cv h, r_pass h S 0 m hq, wa trivial, wb trivial, C1, C2, hbind_p, ix_22 x4, ix_n i6, C3]
        rw [if_pos (by decide), if_pos (by decide)]
    · rw [sq_n f2]
      obtain ⟨p', k', C2⟩ := r_numX h S 0 (b - 1) (nv B n (q + wl B n q)) p1 f2
      refine rOut_b f2 S p' k' ?_
      simp only [m_X10_areCrossingsHere, hgI_k, hgR_k, hpI_k, hpR_k, hpZ_k, haI_k, haR_k, hsI_k, hsZ_k, hlen_k, hlet_p, hret_p, hretZ_0, hretZ_1, hif_p, okk_setV, okk_setF, nV, nF, fV, vF, r_g7 h, r_g10 h, r_ld h L4 l4, r_ld h L2 l2, r_ld h L1 l1, ha, hb, hc, r_cv h, r_pass h S 0 m hq, wa trivial, wb trivial, C1, C2, hbind_p]
      rw [if_pos (by decide), if_neg (by decide)]
  · rw [sq_n f1]
    obtain ⟨p', k', C1⟩ := r_numX h S 0 (a - 1) m p0 f1
    refine rOut_b f1 S p' k' ?_
    simp only [m_X10_areCrossingsHere, hgI_k, hgR_k, hpI_k, hpR_k, hpZ_k, haI_k, haR_k, hsI_k, hsZ_k, hlen_k, hlet_p, hret_p, hretZ_0, hretZ_1, hif_p, okk_setV, okk_setF, nV, nF, fV, vF, r_g7 h, r_g10 h, r_ld h L4 l4, r_ld h L2 l2, r_ld h L1 l1, ha, hb, hc, r_cv h, r_pass h S 0 m hq, wa trivial, wb trivial, C1, hbind_p]
    rw [if_neg (by decide)]
theorem r_want {n : Nat} {B : Nat → Int} {v : hS} (h : rTp n B v) (S : Nat → Int) {k : Nat} (hk : S 5 = (k : Int)) (k9 : k ≤ 8) {a x : Int} (ha : S 4 = a) (a0 : 0 ≤ a) (a4 : a ≤ 4) (hx : S 0 = x) (x0 : 0 ≤ x) (x8 : x ≤ 8) (m : Int) {q : Nat} (hq : q ≤ n) : rOut v (m_X10_isWantHere 220 (q : Int)) (rS (hput v 226 S) (q : Int) 0 m) (kCnt q k 8 (kWant B n (q + wl B n q) a x)) (sWant B n (q + wl B n q) k S) (np B n (np B n (np B n (np B n (q + wl B n q))))) := by
  have L5 : (5 : Int) = ((5 : Nat) : Int) := rfl
  have l5 := lt_c 5 160 rfl
  have L4 : (4 : Int) = ((4 : Nat) : Int) := rfl
  have l4 := lt_c 4 160 rfl
  have L0 : (0 : Int) = ((0 : Nat) : Int) := rfl
  have l0 := lt_c 0 160 rfl
  have p0 := (wl_b B hq).1
  have p1 := np_le B p0
  have p2 := np_le B p1
  have p3 := np_le B p2
  have wa : True → w32 (a - 1) = a - 1 := fun _ => w32_id ⟨by omega, by omega⟩
  have wx : True → w32 (x - 1) = x - 1 := fun _ => w32_id ⟨by omega, by omega⟩
  by_cases kk : k < 8
  · have ki : ((k : Nat) : Int) < 8 := by omega
    have kn : ((k : Nat) : Int) ≠ 8 := by omega
    have k6 : k < 1000000 := by omega
    have c6 : 128 + 4 * k < 1000000 := by omega
    have c0 : 128 + 4 * k < 160 := by omega
    have c1 : 128 + 4 * k + 1 < 160 := by omega
    have c2 : 128 + 4 * k + 2 < 160 := by omega
    have c3 : 128 + 4 * k + 3 < 160 := by omega
    have n0 : 0 ≠ 128 + 4 * k := by omega
    have n5 : ∀ j, 5 ≠ 128 + 4 * k + j := fun j => by omega
    have n5' : 5 ≠ 128 + 4 * k := by omega
    rw [kCnt_t ki]
    unfold kWant
    by_cases f1 : nf B n (q + wl B n q) 0 (a - 1) = 0
    · rw [sq_0 f1]
      have C1 := r_cell h S c0 0 (a - 1) m p0 f1
      by_cases f2 : nf B n (np B n (q + wl B n q)) 0 (x - 1) = 0
      · rw [sq_0 f2]
        have C2 := r_cell h (sup S (128 + 4 * k) (nv B n (q + wl B n q))) c1 0 (x - 1) (nv B n (q + wl B n q)) p1 f2
        by_cases f3 : nf B n (np B n (np B n (q + wl B n q))) 0 99 = 0
        · rw [sq_0 f3]
          have C3 := r_cell h (sup (sup S (128 + 4 * k) (nv B n (q + wl B n q))) (128 + 4 * k + 1) (nv B n (np B n (q + wl B n q)))) c2 0 99 (nv B n (np B n (q + wl B n q))) p2 f3
          by_cases f4 : nf B n (np B n (np B n (np B n (q + wl B n q)))) 1 50 = 0
          · have C4 := r_cell h (sup (sup (sup S (128 + 4 * k) (nv B n (q + wl B n q))) (128 + 4 * k + 1) (nv B n (np B n (q + wl B n q)))) (128 + 4 * k + 2) (nv B n (np B n (np B n (q + wl B n q))))) c3 1 50 (nv B n (np B n (np B n (q + wl B n q)))) p3 f4
            refine rOut_g f4 (nv B n (np B n (np B n (np B n (q + wl B n q))))) ?_
            simp only [m_X10_isWantHere, m_X10_isWantHere_L97, hgI_k, hgR_k, hpI_k, hpR_k, hpZ_k, haI_k, haR_k, hsI_k, hsZ_k, hlen_k, hlet_p, hret_p, hretZ_0, hretZ_1, hif_p, okk_setV, okk_setF, nV, nF, fV, vF, r_g7 h, r_ld h L5 l5, r_ld h L4 l4, r_ld h L0 l0, r_st h L5 l5, hk, ha, hx, ix_128 kk, r_cv h, r_pass h S 0 m hq, wa trivial, C1, hbind_p, sup_n n0, wx trivial, ix_s c6, ix_2 c6, ix_3 c6, C2, C3, C4, sup_n n5', sup_n (n5 _), ix_s k6]
            rw [if_pos kn, if_neg (by decide), if_neg (by decide), if_neg (by decide), if_pos (by decide)]
            rfl
          · obtain ⟨p', k', C4⟩ := r_cellX h (sup (sup (sup S (128 + 4 * k) (nv B n (q + wl B n q))) (128 + 4 * k + 1) (nv B n (np B n (q + wl B n q)))) (128 + 4 * k + 2) (nv B n (np B n (np B n (q + wl B n q))))) ((128 + 4 * k + 3 : Nat) : Int) 1 50 (nv B n (np B n (np B n (q + wl B n q)))) p3 f4
            refine rOut_b f4 (sup (sup (sup S (128 + 4 * k) (nv B n (q + wl B n q))) (128 + 4 * k + 1) (nv B n (np B n (q + wl B n q)))) (128 + 4 * k + 2) (nv B n (np B n (np B n (q + wl B n q))))) p' k' ?_
            simp only [m_X10_isWantHere, m_X10_isWantHere_L97, hgI_k, hgR_k, hpI_k, hpR_k, hpZ_k, haI_k, haR_k, hsI_k, hsZ_k, hlen_k, hlet_p, hret_p, hretZ_0, hretZ_1, hif_p, okk_setV, okk_setF, nV, nF, fV, vF, r_g7 h, r_ld h L5 l5, r_ld h L4 l4, r_ld h L0 l0, hk, ha, hx, ix_128 kk, r_cv h, r_pass h S 0 m hq, wa trivial, C1, hbind_p, sup_n n0, wx trivial, ix_s c6, ix_2 c6, ix_3 c6, C2, C3, C4]
            rw [if_pos kn, if_neg (by decide), if_neg (by decide), if_neg (by decide), if_neg (by decide)]
        · rw [sq_n f3]
          obtain ⟨p', k', C3⟩ := r_cellX h (sup (sup S (128 + 4 * k) (nv B n (q + wl B n q))) (128 + 4 * k + 1) (nv B n (np B n (q + wl B n q)))) ((128 + 4 * k + 2 : Nat) : Int) 0 99 (nv B n (np B n (q + wl B n q))) p2 f3
          refine rOut_b f3 (sup (sup S (128 + 4 * k) (nv B n (q + wl B n q))) (128 + 4 * k + 1) (nv B n (np B n (q + wl B n q)))) p' k' ?_
          simp only [m_X10_isWantHere, m_X10_isWantHere_L97, hgI_k, hgR_k, hpI_k, hpR_k, hpZ_k, haI_k, haR_k, hsI_k, hsZ_k, hlen_k, hlet_p, hret_p, hretZ_0, hretZ_1, hif_p, okk_setV, okk_setF, nV, nF, fV, vF, r_g7 h, r_ld h L5 l5, r_ld h L4 l4, r_ld h L0 l0, hk, ha, hx, ix_128 kk, r_cv h, r_pass h S 0 m hq, wa trivial, C1, hbind_p, sup_n n0, wx trivial, ix_s c6, ix_2 c6, C2, C3]
          rw [if_pos kn, if_neg (by decide), if_neg (by decide), if_pos (by trivial)]
      · rw [sq_n f2]
        obtain ⟨p', k', C2⟩ := r_cellX h (sup S (128 + 4 * k) (nv B n (q + wl B n q))) ((128 + 4 * k + 1 : Nat) : Int) 0 (x - 1) (nv B n (q + wl B n q)) p1 f2
        refine rOut_b f2 (sup S (128 + 4 * k) (nv B n (q + wl B n q))) p' k' ?_
        simp only [m_X10_isWantHere, m_X10_isWantHere_L97, hgI_k, hgR_k, hpI_k, hpR_k, hpZ_k, haI_k, haR_k, hsI_k, hsZ_k, hlen_k, hlet_p, hret_p, hretZ_0, hretZ_1, hif_p, okk_setV, okk_setF, nV, nF, fV, vF, r_g7 h, r_ld h L5 l5, r_ld h L4 l4, r_ld h L0 l0, hk, ha, hx, ix_128 kk, r_cv h, r_pass h S 0 m hq, wa trivial, C1, hbind_p, sup_n n0, wx trivial, ix_s c6, C2]
        rw [if_pos kn, if_neg (by decide), if_pos (by trivial)]
    · rw [sq_n f1]
      obtain ⟨p', k', C1⟩ := r_cellX h S ((128 + 4 * k : Nat) : Int) 0 (a - 1) m p0 f1
      refine rOut_b f1 S p' k' ?_
      simp only [m_X10_isWantHere, m_X10_isWantHere_L97, hgI_k, hgR_k, hpI_k, hpR_k, hpZ_k, haI_k, haR_k, hsI_k, hsZ_k, hlen_k, hlet_p, hret_p, hretZ_0, hretZ_1, hif_p, okk_setV, okk_setF, nV, nF, fV, vF, r_g7 h, r_ld h L5 l5, r_ld h L4 l4, hk, ha, ix_128 kk, r_cv h, r_pass h S 0 m hq, wa trivial, C1, hbind_p]
      rw [if_pos kn, if_pos (by trivial)]
  · have ki : ¬ ((k : Nat) : Int) < 8 := by omega
    have kn : ((k : Nat) : Int) = 8 := by omega
    rw [kCnt_f ki]
    refine rOut_b (kF_n q) S (q : Int) m ?_
    simp only [m_X10_isWantHere, hgI_k, hgR_k, hpI_k, hpR_k, hpZ_k, haI_k, haR_k, hsI_k, hsZ_k, hlen_k, hlet_p, hret_p, hretZ_0, hretZ_1, hif_p, okk_setV, okk_setF, nV, nF, fV, vF, r_g7 h, r_ld h L5 l5, hk, r_fail4 h S _ _ hq]
    rw [if_neg (fun y => y kn)]
    rfl
