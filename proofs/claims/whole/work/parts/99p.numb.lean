/-! numbers -/
abbrev isDg (x : Int) : Prop := 48 ≤ x ∧ x ≤ 57
def dln (B : Nat → Int) : Nat → Nat → Nat
  | 0, _ => 0
  | k + 1, p => if isDg (B p) then dln B k (p + 1) + 1 else 0
theorem dln_s (B : Nat → Int) (k p : Nat) : dln B (k + 1) p = if isDg (B p) then dln B k (p + 1) + 1 else 0 := rfl
theorem dln_b (B : Nat → Int) : ∀ k p, dln B k p ≤ k := by
  intro k
  induction k with
  | zero => exact fun p => Nat.le_refl _
  | succ k ih =>
    intro p
    rw [dln_s]
    have := ih (p + 1)
    split <;> omega
def dl (B : Nat → Int) (n p : Nat) : Nat := dln B (n - p) p
theorem dl_b (B : Nat → Int) {n p : Nat} (h : p ≤ n) : p + dl B n p ≤ n := by
  have := dln_b B (n - p) p
  unfold dl
  omega
theorem dl_pos (B : Nat → Int) {n p : Nat} : 0 < dl B n p ↔ p < n ∧ isDg (B p) := by
  unfold dl
  cases h : n - p with
  | zero =>
    constructor
    · intro z
      exact absurd z (Nat.lt_irrefl _)
    · omega
  | succ k =>
    rw [dln_s]
    by_cases g : isDg (B p)
    · rw [if_pos g]
      exact ⟨fun _ => ⟨by omega, g⟩, fun _ => by omega⟩
    · rw [if_neg g]
      exact ⟨fun z => absurd z (Nat.lt_irrefl _), fun z => absurd z.2 g⟩
def dst (v b : Int) : Int := w32 (w32 (w32 (10 * v) + b) - 48)
def dvv (B : Nat → Int) (q : Nat) : Nat → Nat → Int → Int
  | 0, _, v => v
  | k + 1, j, v => if isDg (B (q + j)) then dvv B q k (j + 1) (if j < 5 then dst v (B (q + j)) else v) else v
theorem dvv_s (B : Nat → Int) (q k j : Nat) (v : Int) : dvv B q (k + 1) j v = if isDg (B (q + j)) then dvv B q k (j + 1) (if j < 5 then dst v (B (q + j)) else v) else v := rfl
def dv (B : Nat → Int) (n q : Nat) : Int := dvv B q (n - q) 0 0
/-- the fault of a number, 0 if it is good -/
def fN (B : Nat → Int) (n q : Nat) (lo hi : Int) : Nat := if dl B n q = 0 then 1 + 8 * q else if 5 < dl B n q ∨ dv B n q < lo ∨ hi < dv B n q then 1 + 8 * q + 1 else 0
theorem fN_0 {B : Nat → Int} {n q : Nat} {lo hi : Int} (h : fN B n q lo hi = 0) : 0 < dl B n q ∧ dl B n q ≤ 5 ∧ lo ≤ dv B n q ∧ dv B n q ≤ hi := by
  unfold fN at h
  by_cases h1 : dl B n q = 0
  · rw [if_pos h1] at h
    omega
  · rw [if_neg h1] at h
    by_cases h2 : 5 < dl B n q ∨ dv B n q < lo ∨ hi < dv B n q
    · rw [if_pos h2] at h
      omega
    · omega
theorem x_isDigit (x : Int) (u : hS) : m_X6_isDigit x u = some (if isDg x then 1 else 0, u) := by
  simp only [m_X6_isDigit, m_X6_isDigit_L16, m_X6_isDigit_L17, hgI_k, hgR_k, hpI_k, hpR_k, hpZ_k, haI_k, haR_k, hsI_k, hsZ_k, hlen_k, hlet_e, hret_e, hretZ_0, hretZ_1, hif_e, okk_setV, okk_setF, nV, nF, fV, vF]
  by_cases h1 : x < 48
  · rw [if_pos h1, if_neg (by omega)]
  · rw [if_neg h1]
    by_cases h2 : x > 57
    · rw [if_pos h2, if_neg (by omega)]
    · rw [if_neg h2, if_pos ⟨by omega, by omega⟩]
theorem x_numL {u : hS} (hs : shp u) {n : Nat} (hn : hV u 2 1 = (n : Int)) (n4 : n ≤ 400) (lo hi : Int) (q : Nat) : ∀ (k m j : Nat) (v : Int), k < m → q + j + k = n → m_X6_number_L24 m 2 lo hi v (tS u ((q + j : Nat) : Int) (q : Int) 0) = m_X6_number_L94 2 lo hi (dvv (hV u 3) q k j v) (tS u ((q + j + dln (hV u 3) k (q + j) : Nat) : Int) (q : Int) 0) := by
  intro k
  induction k with
  | zero =>
    intro m j v hm hp
    obtain ⟨m, rfl⟩ : ∃ j, m = j + 1 := ⟨m - 1, by omega⟩
    rw [m_X6_number_L24]
    simp only [hgI_k, hgR_k, hpI_k, hpR_k, hpZ_k, haI_k, haR_k, hsI_k, hsZ_k, hlen_k, hlet_e, hret_e, hretZ_0, hretZ_1, hif_e, okk_setV, okk_setF, nV, nF, fV, vF, tS_k, tS_1, tS_2, kk_2 hs, hn]
    rw [if_pos (by omega)]
    rfl
  | succ k ih =>
    intro m j v hm hp
    obtain ⟨m, rfl⟩ : ∃ j, m = j + 1 := ⟨m - 1, by omega⟩
    have p4 : q + j < 400 := by omega
    have p6 : q + j < 1000000 := by omega
    have e1 : w32 (((q + j : Nat) : Int) - (q : Int)) = ((j : Nat) : Int) := w32_n (by omega) (by omega)
    rw [m_X6_number_L24]
    simp only [m_X6_number_L81, hgI_k, hgR_k, hpI_k, hpR_k, hpZ_k, haI_k, haR_k, hsI_k, hsZ_k, hlen_k, hlet_e, hret_e, hretZ_0, hretZ_1, hif_e, okk_setV, okk_setF, nV, nF, fV, vF, haI_n, hcall_b, hbind_s, x_isDigit, tS_k, tS_N, tS_F, tS_1, tS_2, tS_3, tS_w2, tS_o (show 3 ≠ 2 by decide), kk_2 hs, kk_3 hs, ln_3 hs, rf_2_0 hs, hn, p4, ix_s p6, e1, dln_s, dvv_s]
    rw [if_neg (by omega)]
    by_cases h : isDg (hV u 3 (q + j))
    · rw [if_pos h, if_neg (by decide), if_pos h, if_pos h, Int.mul_comm v 10]
      have I := fun v => ih m (j + 1) v (by omega) (by omega)
      rw [show q + j + (dln (hV u 3) k (q + j + 1) + 1) = q + (j + 1) + dln (hV u 3) k (q + (j + 1)) by rw [show q + (j + 1) = q + j + 1 by omega]; omega]
      by_cases h5 : j < 5
      · rw [if_neg (by omega), if_pos h5]
        exact I _
      · rw [if_pos (by omega), if_neg h5]
        exact I _
    · rw [if_neg h, if_pos rfl, if_neg h, if_neg h]
      rfl
theorem x_num94 {u : hS} (hs : shp u) {n : Nat} (hn : hV u 2 1 = (n : Int)) (n4 : n ≤ 400) (lo hi v : Int) {q l : Nat} (hq : q + l ≤ n) : m_X6_number_L94 2 lo hi v (tS u ((q + l : Nat) : Int) (q : Int) 0) = some (v, tS u ((q + l : Nat) : Int) (q : Int) ((if l = 0 then 1 + 8 * q else if 5 < l ∨ v < lo ∨ hi < v then 1 + 8 * q + 1 else 0 : Nat) : Int)) := by
  have F0 := x_fail hs ((q + l : Nat) : Int) (q : Int) 0 (w := q) (by omega) (k := 0) (by decide)
  have F1 := x_fail hs ((q + l : Nat) : Int) (q : Int) 0 (w := q) (by omega) (k := 1) (by decide)
  rw [if_pos rfl] at F0 F1
  have e1 : True → w32 (((q + l : Nat) : Int) - (q : Int)) = ((l : Nat) : Int) := fun _ => w32_n (by omega) (by omega)
  simp only [m_X6_number_L94, m_X6_number_L140, m_X6_number_L149, hgI_k, hgR_k, hpI_k, hpR_k, hpZ_k, haI_k, haR_k, hsI_k, hsZ_k, hlen_k, hlet_e, hret_e, hretZ_0, hretZ_1, hif_e, okk_setV, okk_setF, nV, nF, fV, vF, tS_k, tS_2, tS_3, kk_2 hs, hcallV_b, e1 trivial]
  by_cases h : l = 0
  · rw [if_neg (by omega), if_pos h]
    show hbind (m_X6_fail 2 (q : Int) ((0 : Nat) : Int) _) _ = _
    rw [F0]
    rfl
  · rw [if_pos (by omega), if_neg h]
    have B1 : hbind (m_X6_fail 2 (q : Int) 1 (tS u ((q + l : Nat) : Int) (q : Int) 0)) (fun _ => hret v) = some (v, tS u ((q + l : Nat) : Int) (q : Int) ((1 + 8 * q + 1 : Nat) : Int)) := by
      show hbind (m_X6_fail 2 (q : Int) ((1 : Nat) : Int) _) _ = _
      rw [F1]
      rfl
    by_cases h1 : 5 < l
    · rw [if_pos (by omega), if_pos (.inl h1)]
      exact B1
    · rw [if_neg (by omega)]
      by_cases h2 : v < lo
      · rw [if_pos h2, if_pos (.inr (.inl h2))]
        exact B1
      · rw [if_neg h2]
        by_cases h3 : v ≤ hi
        · rw [if_pos h3, if_neg (by omega)]
          rfl
        · rw [if_neg h3, if_pos (by omega)]
          exact B1
theorem x_numberF {u : hS} (hs : shp u) (p s lo hi : Int) {f : Int} (hf : f ≠ 0) : m_X6_number 2 lo hi (tS u p s f) = some (lo, tS u p s f) := by
  simp only [m_X6_number, hgI_k, hgR_k, hpI_k, hpR_k, hpZ_k, haI_k, haR_k, hsI_k, hsZ_k, hlen_k, hlet_p, hret_p, hretZ_0, hretZ_1, hif_p, okk_setV, okk_setF, nV, nF, fV, vF, tS_k, tS_4, kk_2 hs]
  rw [if_neg hf]
theorem x_number {u : hS} (hs : shp u) {n : Nat} (hn : hV u 2 1 = (n : Int)) (n4 : n ≤ 400) (s lo hi : Int) {p : Nat} (hp : p ≤ n) : m_X6_number 2 lo hi (tS u (p : Int) s 0) = some (dv (hV u 3) n (sk (hV u 3) n p), tS u ((sk (hV u 3) n p + dl (hV u 3) n (sk (hV u 3) n p) : Nat) : Int) ((sk (hV u 3) n p : Nat) : Int) ((fN (hV u 3) n (sk (hV u 3) n p) lo hi : Nat) : Int)) := by
  have b := (sk_le (hV u 3) hp).2
  have L := x_numL hs hn n4 lo hi (sk (hV u 3) n p) (n - sk (hV u 3) n p) 1000000000 0 0 (by omega) (by omega)
  rw [Nat.add_zero] at L
  simp only [m_X6_number, hgI_k, hgR_k, hpI_k, hpR_k, hpZ_k, haI_k, haR_k, hsI_k, hsZ_k, hlen_k, hlet_p, hret_p, hretZ_0, hretZ_1, hif_p, okk_setV, okk_setF, nV, nF, fV, vF, hcallV_b, hbind_p, tS_k, tS_2, tS_4, tS_w3, kk_2 hs, x_next hs hn n4 s 0 hp]
  rw [if_pos trivial, L]
  exact x_num94 hs hn n4 lo hi _ (dl_b (hV u 3) b)
