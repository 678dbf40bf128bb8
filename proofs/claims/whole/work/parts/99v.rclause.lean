/-! a town's clauses, as the reference reads them -/
theorem r_num {n : Nat} {B : Nat → Int} {v : hS} (h : rTp n B v) (S : Nat → Int) (lo hi k : Int) {p : Nat} (hp : p ≤ n) (z : nf B n p lo hi = 0) : m_X10_numberHere 220 lo hi (rS (hput v 226 S) (p : Int) 0 k) = some (1, rS (hput v 226 S) ((np B n p : Nat) : Int) 0 (nv B n p)) := r_numG (h.put (by decide) (by decide)) lo hi k hp z
theorem r_numX {n : Nat} {B : Nat → Int} {v : hS} (h : rTp n B v) (S : Nat → Int) (lo hi k : Int) {p : Nat} (hp : p ≤ n) (z : nf B n p lo hi ≠ 0) : ∃ p' k', m_X10_numberHere 220 lo hi (rS (hput v 226 S) (p : Int) 0 k) = some (0, rS (hput v 226 S) p' ((nf B n p lo hi : Nat) : Int) k') := r_numB (h.put (by decide) (by decide)) lo hi k hp z
theorem r_cell {n : Nat} {B : Nat → Int} {v : hS} (h : rTp n B v) (S : Nat → Int) {c : Nat} (hc : c < 160) (lo hi k : Int) {p : Nat} (hp : p ≤ n) (z : nf B n p lo hi = 0) : m_X10_cellHere 220 (c : Int) lo hi (rS (hput v 226 S) (p : Int) 0 k) = some (1, rS (hput v 226 (sup S c (nv B n p))) ((np B n p : Nat) : Int) 0 (nv B n p)) := by
  have hs := h.1
  simp only [m_X10_cellHere, hgI_k, hgR_k, hpI_k, hpR_k, hpZ_k, haI_k, haR_k, hsI_k, hsZ_k, hlen_k, hlet_p, hret_p, hretZ_0, hretZ_1, hif_p, okk_setV, okk_setF, nV, nF, fV, vF, hsI_n, hcallV_b, hbind_p, r_num h S lo hi k hp z, rS_k, rS_N, rS_F, rS_10, rS_set (show 226 ≠ 220 by decide), okk_put, nP, fP, setV_put, kk_220 hs, kk_226 hs, ln_226 hs, rf_220_7 hs, hc]
  rw [if_pos (by decide)]
theorem r_cellX {n : Nat} {B : Nat → Int} {v : hS} (h : rTp n B v) (S : Nat → Int) (c lo hi k : Int) {p : Nat} (hp : p ≤ n) (z : nf B n p lo hi ≠ 0) : ∃ p' k', m_X10_cellHere 220 c lo hi (rS (hput v 226 S) (p : Int) 0 k) = some (0, rS (hput v 226 S) p' ((nf B n p lo hi : Nat) : Int) k') := by
  have hs := h.1
  obtain ⟨p', k', e⟩ := r_numX h S lo hi k hp z
  refine ⟨p', k', ?_⟩
  simp only [m_X10_cellHere, hgI_k, hgR_k, hpI_k, hpR_k, hpZ_k, haI_k, haR_k, hsI_k, hsZ_k, hlen_k, hlet_p, hret_p, hretZ_0, hretZ_1, hif_p, okk_setV, okk_setF, nV, nF, fV, vF, hcallV_b, hbind_p, e, rS_k, okk_put, kk_220 hs]
  rw [if_neg (fun z => z rfl)]
theorem r_pass {n : Nat} {B : Nat → Int} {v : hS} (h : rTp n B v) (S : Nat → Int) (w k : Int) {p : Nat} (hp : p ≤ n) : m_X10_passWord 220 (rS (hput v 226 S) (p : Int) w k) = some (0, rS (hput v 226 S) ((p + wl B n p : Nat) : Int) w k) := r_passWord (h.put (by decide) (by decide)) w k hp
theorem r_seeS {n : Nat} {B : Nat → Int} {v : hS} (h : rTp n B v) (S : Nat → Int) (w k : Int) {p : Nat} (hp : p ≤ n) : m_X10_see 220 (rS (hput v 226 S) (p : Int) w k) = some (chr B n (sk B n p), rS (hput v 226 S) ((sk B n p : Nat) : Int) w k) := r_see (h.put (by decide) (by decide)) w k hp
theorem r_failS {n : Nat} {B : Nat → Int} {v : hS} (h : rTp n B v) (S : Nat → Int) (p k : Int) {a : Nat} (ha : a ≤ n) {j : Nat} (hj : j ≤ 4) : m_X10_fails 220 (j : Int) (a : Int) (rS (hput v 226 S) p 0 k) = some (0, rS (hput v 226 S) p ((1 + 8 * a + j : Nat) : Int) k) := y_fails (u := hput v 226 S) (by rw [shp_put]; exact h.1) p k (by have := h.2.2.2; omega) hj
/-- what a good town clause tells -/
def sTown (B : Nat → Int) (n p : Nat) (S : Nat → Int) : Nat → Int := sup (sup S 1 (nv B n (np B n p))) 0 (nv B n p)
def sLink (B : Nat → Int) (n p : Nat) (c : Nat) (S : Nat → Int) : Nat → Int := sup (sup S c (nv B n p)) (c + 1) (nv B n (np B n p))
theorem r_town {n : Nat} {B : Nat → Int} {v : hS} (h : rTp n B v) (S : Nat → Int) (S0 : S 0 ≤ 0) (at' k : Int) {q : Nat} (hq : q ≤ n) : kTown B n (q + wl B n q) = 0 → m_X10_isTownHere 220 at' (rS (hput v 226 S) (q : Int) 0 k) = some (1, rS (hput v 226 (sTown B n (q + wl B n q) S)) ((np B n (np B n (q + wl B n q)) : Nat) : Int) 0 (nv B n (np B n (q + wl B n q)))) := by
  intro z
  obtain ⟨z1, z2⟩ := sq_z z
  have hs := h.1
  have p0 := (wl_b B hq).1
  have p1 := np_le B p0
  have C := r_cell h S (c := 1) (by decide) 1 5 (nv B n (q + wl B n q)) p1 z2
  have C : m_X10_cellHere 220 1 1 5 _ = _ := C
  simp only [m_X10_isTownHere, hgI_k, hgR_k, hpI_k, hpR_k, hpZ_k, haI_k, haR_k, hsI_k, hsZ_k, hlen_k, hlet_p, hret_p, hretZ_0, hretZ_1, hif_p, okk_setV, okk_setF, nV, nF, fV, vF, haI_0, hcallV_b, hbind_p, r_pass h S 0 k hq, r_num h S 2 8 k p0 z1, rS_k, rS_N, rS_F, rS_10, rS_o (show 226 ≠ 220 by decide), hV_put_s, okk_put, nP, fP, kk_220 hs, kk_226 hs, ln_226 hs, rf_220_7 hs, lt_c 0 160 rfl, C]
  rw [if_pos S0, if_pos (by decide), if_pos (by decide)]
  rw [hsI_k (i := 0) (by rw [rS_k, okk_put]; exact kk_226 hs) (by decide) (by rw [rS_N, nP, ln_226 hs]; decide)]
  simp only [rS_set (show 226 ≠ 220 by decide), setV_put]
  rfl
theorem r_townX {n : Nat} {B : Nat → Int} {v : hS} (h : rTp n B v) (S : Nat → Int) (S0 : S 0 ≤ 0) (at' k : Int) {q : Nat} (hq : q ≤ n) (z : kTown B n (q + wl B n q) ≠ 0) : ∃ S' p' k', m_X10_isTownHere 220 at' (rS (hput v 226 S) (q : Int) 0 k) = some (0, rS (hput v 226 S') p' ((kTown B n (q + wl B n q) : Nat) : Int) k') := by
  have hs := h.1
  have p0 := (wl_b B hq).1
  have p1 := np_le B p0
  unfold kTown at z ⊢
  by_cases f1 : nf B n (q + wl B n q) 2 8 = 0
  · rw [sq_0 f1] at z ⊢
    obtain ⟨p', k', C⟩ := r_cellX h S 1 1 5 (nv B n (q + wl B n q)) p1 z
    refine ⟨S, p', k', ?_⟩
    simp only [m_X10_isTownHere, hgI_k, hgR_k, hpI_k, hpR_k, hpZ_k, haI_k, haR_k, hsI_k, hsZ_k, hlen_k, hlet_p, hret_p, hretZ_0, hretZ_1, hif_p, okk_setV, okk_setF, nV, nF, fV, vF, haI_0, hcallV_b, hbind_p, r_pass h S 0 k hq, r_num h S 2 8 k p0 f1, rS_k, rS_N, rS_F, rS_10, rS_o (show 226 ≠ 220 by decide), hV_put_s, okk_put, nP, fP, kk_220 hs, kk_226 hs, ln_226 hs, rf_220_7 hs, lt_c 0 160 rfl, C]
    rw [if_pos S0, if_pos (by decide), if_neg (by decide)]
  · rw [sq_n f1] at z ⊢
    obtain ⟨p', k', C⟩ := r_numX h S 2 8 k p0 z
    refine ⟨S, p', k', ?_⟩
    simp only [m_X10_isTownHere, hgI_k, hgR_k, hpI_k, hpR_k, hpZ_k, haI_k, haR_k, hsI_k, hsZ_k, hlen_k, hlet_p, hret_p, hretZ_0, hretZ_1, hif_p, okk_setV, okk_setF, nV, nF, fV, vF, haI_0, hcallV_b, hbind_p, r_pass h S 0 k hq, C, rS_k, rS_N, rS_F, rS_10, rS_o (show 226 ≠ 220 by decide), hV_put_s, okk_put, nP, fP, kk_220 hs, kk_226 hs, ln_226 hs, rf_220_7 hs, lt_c 0 160 rfl]
    rw [if_pos S0, if_neg (by decide)]
theorem r_two {n : Nat} {B : Nat → Int} {v : hS} (h : rTp n B v) (S : Nat → Int) {c : Nat} (c0 : 0 < c) (c1 : c + 1 < 160) {x : Int} (hx : S 0 = x) (x0 : 0 ≤ x) (x8 : x ≤ 8) (k : Int) {q : Nat} (hq : q ≤ n) (z : kLink B n (q + wl B n q) x = 0) : m_X10_areTwoHere 220 (c : Int) (rS (hput v 226 S) (q : Int) 0 k) = some (1, rS (hput v 226 (sLink B n (q + wl B n q) c S)) ((np B n (np B n (q + wl B n q)) : Nat) : Int) 0 (nv B n (np B n (q + wl B n q)))) := by
  obtain ⟨z1, z2⟩ := sq_z z
  obtain ⟨z2, z3⟩ := sq_z z2
  have hs := h.1
  have p0 := (wl_b B hq).1
  have p1 := np_le B p0
  have p1' := (sk_le B p1).2
  have ss := sk_sk B p1
  have wx : True → w32 (x - 1) = x - 1 := fun _ => w32_id ⟨by omega, by omega⟩
  have C1 := r_cell h S (c := c) (by omega) 0 (x - 1) k p0 z1
  have C2 := r_cell h (sup S c (nv B n (q + wl B n q))) (c := c + 1) (by omega) 0 (x - 1) (nv B n (q + wl B n q)) p1' (by unfold nf; rw [ss]; exact z2)
  have en : np B n (sk B n (np B n (q + wl B n q))) = np B n (np B n (q + wl B n q)) := by
    show sk B n (sk B n _) + dl B n (sk B n (sk B n _)) = _
    rw [ss]
    rfl
  have ev : nv B n (sk B n (np B n (q + wl B n q))) = nv B n (np B n (q + wl B n q)) := by
    show dv B n (sk B n (sk B n _)) = _
    rw [ss]
    rfl
  rw [en, ev] at C2
  have d1 : (0 : Nat) ≠ c := by omega
  have i1 : c < 160 := by omega
  have i6 : c < 1000000 := by omega
  have ne : nv B n (q + wl B n q) ≠ nv B n (np B n (q + wl B n q)) := fun e => by
    rw [if_pos e] at z3
    omega
  simp only [m_X10_areTwoHere, m_X10_areTwoHere_L78, m_X10_areTwoHere_L82, m_X10_areTwoHere_L83, hgI_k, hgR_k, hpI_k, hpR_k, hpZ_k, haI_k, haR_k, hsI_k, hsZ_k, hlen_k, hlet_p, hret_p, hretZ_0, hretZ_1, hif_p, okk_setV, okk_setF, nV, nF, fV, vF, haI_0, haI_n, hcallV_b, hbind_p, r_pass h S 0 k hq, rS_k, rS_N, rS_F, rS_8, rS_10, rS_o (show 226 ≠ 220 by decide), hV_put_s, okk_put, nP, fP, kk_220 hs, kk_226 hs, ln_226 hs, rf_220_7 hs, lt_c 0 160 rfl, hx, wx trivial, C1, r_seeS h _ 0 _ p1, sup_n d1, ix_s i6, C2, i1, c1, sup_s]
  rw [if_pos (by decide), if_neg (by decide), sup_n (show c ≠ c + 1 by omega), sup_s, if_pos ne]
  rfl
theorem r_twoX {n : Nat} {B : Nat → Int} {v : hS} (h : rTp n B v) (S : Nat → Int) {c : Nat} (c0 : 0 < c) (c1 : c + 1 < 160) {x : Int} (hx : S 0 = x) (x0 : 0 ≤ x) (x8 : x ≤ 8) (k : Int) {q : Nat} (hq : q ≤ n) (z : kLink B n (q + wl B n q) x ≠ 0) : ∃ S' p' k', m_X10_areTwoHere 220 (c : Int) (rS (hput v 226 S) (q : Int) 0 k) = some (0, rS (hput v 226 S') p' ((kLink B n (q + wl B n q) x : Nat) : Int) k') := by
  have hs := h.1
  have p0 := (wl_b B hq).1
  have p1 := np_le B p0
  have p1' := (sk_le B p1).2
  have ss := sk_sk B p1
  have wx : True → w32 (x - 1) = x - 1 := fun _ => w32_id ⟨by omega, by omega⟩
  have en : np B n (sk B n (np B n (q + wl B n q))) = np B n (np B n (q + wl B n q)) := by
    show sk B n (sk B n _) + dl B n (sk B n (sk B n _)) = _
    rw [ss]
    rfl
  have ev : nv B n (sk B n (np B n (q + wl B n q))) = nv B n (np B n (q + wl B n q)) := by
    show dv B n (sk B n (sk B n _)) = _
    rw [ss]
    rfl
  have ef : nf B n (sk B n (np B n (q + wl B n q))) 0 (x - 1) = nf B n (np B n (q + wl B n q)) 0 (x - 1) := by
    unfold nf
    rw [ss]
  have d1 : (0 : Nat) ≠ c := by omega
  have i1 : c < 160 := by omega
  have i6 : c < 1000000 := by omega
  unfold kLink at z ⊢
  by_cases f1 : nf B n (q + wl B n q) 0 (x - 1) = 0
  · rw [sq_0 f1] at z ⊢
    have C1 := r_cell h S (c := c) (by omega) 0 (x - 1) k p0 f1
    by_cases f2 : nf B n (np B n (q + wl B n q)) 0 (x - 1) = 0
    · rw [sq_0 f2] at z ⊢
      have C2 := r_cell h (sup S c (nv B n (q + wl B n q))) (c := c + 1) (by omega) 0 (x - 1) (nv B n (q + wl B n q)) p1' (by rw [ef]; exact f2)
      rw [en, ev] at C2
      have ne : nv B n (q + wl B n q) = nv B n (np B n (q + wl B n q)) := by
        apply Classical.byContradiction
        intro y
        rw [if_neg y] at z
        exact z rfl
      rw [if_pos ne]
      have F := r_failS h (sup (sup S c (nv B n (q + wl B n q))) (c + 1) (nv B n (np B n (q + wl B n q)))) ((np B n (np B n (q + wl B n q)) : Nat) : Int) (nv B n (np B n (q + wl B n q))) p1' (j := 1) (by decide)
      refine ⟨sup (sup S c (nv B n (q + wl B n q))) (c + 1) (nv B n (np B n (q + wl B n q))), ((np B n (np B n (q + wl B n q)) : Nat) : Int), nv B n (np B n (q + wl B n q)), ?_⟩
      simp only [m_X10_areTwoHere, m_X10_areTwoHere_L78, m_X10_areTwoHere_L82, m_X10_areTwoHere_L83, hgI_k, hgR_k, hpI_k, hpR_k, hpZ_k, haI_k, haR_k, hsI_k, hsZ_k, hlen_k, hlet_p, hret_p, hretZ_0, hretZ_1, hif_p, okk_setV, okk_setF, nV, nF, fV, vF, haI_0, haI_n, hcallV_b, hbind_p, r_pass h S 0 k hq, rS_k, rS_N, rS_F, rS_8, rS_10, rS_o (show 226 ≠ 220 by decide), hV_put_s, okk_put, nP, fP, kk_220 hs, kk_226 hs, ln_226 hs, rf_220_7 hs, lt_c 0 160 rfl, hx, wx trivial, C1, r_seeS h _ 0 _ p1, sup_n d1, ix_s i6, C2, i1, c1, sup_s]
      rw [if_pos (by decide), if_neg (by decide), sup_n (show c ≠ c + 1 by omega), sup_s, if_neg (fun y => y ne)]
      show hbind (m_X10_fails 220 ((1 : Nat) : Int) _ _) _ = _
      rw [F]
      rfl
    · rw [sq_n f2] at z ⊢
      obtain ⟨p', k', C2⟩ := r_cellX h (sup S c (nv B n (q + wl B n q))) ((c + 1 : Nat) : Int) 0 (x - 1) (nv B n (q + wl B n q)) p1' (by rw [ef]; exact f2)
      rw [ef] at C2
      refine ⟨sup S c (nv B n (q + wl B n q)), p', k', ?_⟩
      simp only [m_X10_areTwoHere, m_X10_areTwoHere_L78, m_X10_areTwoHere_L82, m_X10_areTwoHere_L83, hgI_k, hgR_k, hpI_k, hpR_k, hpZ_k, haI_k, haR_k, hsI_k, hsZ_k, hlen_k, hlet_p, hret_p, hretZ_0, hretZ_1, hif_p, okk_setV, okk_setF, nV, nF, fV, vF, haI_0, haI_n, hcallV_b, hbind_p, r_pass h S 0 k hq, rS_k, rS_N, rS_F, rS_8, rS_10, rS_o (show 226 ≠ 220 by decide), hV_put_s, okk_put, nP, fP, kk_220 hs, kk_226 hs, ln_226 hs, rf_220_7 hs, lt_c 0 160 rfl, hx, wx trivial, C1, r_seeS h _ 0 _ p1, sup_n d1, ix_s i6, C2]
      rw [if_pos (by decide), if_pos (by trivial)]
  · rw [sq_n f1] at z ⊢
    obtain ⟨p', k', C1⟩ := r_cellX h S (c : Int) 0 (x - 1) k p0 z
    refine ⟨S, p', k', ?_⟩
    simp only [m_X10_areTwoHere, hgI_k, hgR_k, hpI_k, hpR_k, hpZ_k, haI_k, haR_k, hsI_k, hsZ_k, hlen_k, hlet_p, hret_p, hretZ_0, hretZ_1, hif_p, okk_setV, okk_setF, nV, nF, fV, vF, haI_0, hcallV_b, hbind_p, r_pass h S 0 k hq, rS_k, rS_N, rS_F, rS_o (show 226 ≠ 220 by decide), hV_put_s, okk_put, nP, fP, kk_220 hs, kk_226 hs, ln_226 hs, rf_220_7 hs, lt_c 0 160 rfl, hx, wx trivial, C1]
    rw [if_neg (by decide)]
