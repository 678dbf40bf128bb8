/-! words -/
abbrev isLt (x : Int) : Prop := 97 ≤ x ∧ x ≤ 122
def wln (B : Nat → Int) : Nat → Nat → Nat
  | 0, _ => 0
  | k + 1, p => if isLt (B p) then wln B k (p + 1) + 1 else 0
theorem wln_s (B : Nat → Int) (k p : Nat) : wln B (k + 1) p = if isLt (B p) then wln B k (p + 1) + 1 else 0 := rfl
def wl (B : Nat → Int) (n p : Nat) : Nat := wln B (n - p) p
theorem wln_b (B : Nat → Int) : ∀ k p, wln B k p ≤ k ∧ ∀ i, i < wln B k p → isLt (B (p + i)) := by
  intro k
  induction k with
  | zero => exact fun p => ⟨Nat.le_refl _, fun i h => absurd h (Nat.not_lt_zero _)⟩
  | succ k ih =>
    intro p
    rw [wln_s]
    by_cases h : isLt (B p)
    · rw [if_pos h]
      refine ⟨by have := (ih (p + 1)).1; omega, fun i hi => ?_⟩
      cases i with
      | zero => exact h
      | succ i =>
        have := (ih (p + 1)).2 i (by omega)
        rwa [show p + (i + 1) = p + 1 + i by omega]
    · rw [if_neg h]
      exact ⟨by omega, fun i h => absurd h (Nat.not_lt_zero _)⟩
def wv (B : Nat → Int) (q : Nat) : Nat → Int
  | 0 => 0
  | l + 1 => wv B q l * 256 + B (q + l)
theorem wv_s (B : Nat → Int) (q l : Nat) : wv B q (l + 1) = wv B q l * 256 + B (q + l) := rfl
theorem wv_b (B : Nat → Int) (q : Nat) : ∀ l, (∀ i, i < l → isLt (B (q + i))) → 0 ≤ wv B q l ∧ wv B q l < ((256 ^ l : Nat) : Int) ∧ (0 < l → ((256 ^ (l - 1) : Nat) : Int) ≤ wv B q l) := by
  intro l
  induction l with
  | zero => exact fun _ => ⟨Int.le_refl _, by show (0 : Int) < 1; decide, fun h => absurd h (Nat.lt_irrefl _)⟩
  | succ l ih =>
    intro h
    obtain ⟨a, b, c⟩ := ih (fun i hi => h i (by omega))
    have d := h l (by omega)
    rw [wv_s, Nat.add_sub_cancel, Nat.pow_succ]
    unfold isLt at d
    generalize hK : 256 ^ l = K at *
    refine ⟨by omega, by omega, fun _ => ?_⟩
    cases l with
    | zero =>
      have : K = 1 := by rw [← hK]
      omega
    | succ l =>
      have c := c (by omega)
      rw [Nat.add_sub_cancel] at c
      rw [Nat.pow_succ] at hK
      generalize 256 ^ l = K' at *
      omega
def cch (c i : Nat) : Int := i2cZ (iandZ ((strB.getD c []).getD i 0).toInt 255)
def cv (c fr : Nat) : Nat → Int
  | 0 => 0
  | l + 1 => cv c fr l * 256 + cch c (fr + l)
theorem cv_s (c fr l : Nat) : cv c fr (l + 1) = cv c fr l * 256 + cch c (fr + l) := rfl
theorem cch_b : ∀ c, c < 7 → ∀ i, i < 64 → 0 ≤ cch c i ∧ cch c i < 256 := by decide +kernel
theorem str_64 : ∀ c, c < 7 → strN.getD c 0 ≤ 64 := by decide
def smw (c fr : Nat) (B : Nat → Int) (q : Nat) : Nat → Nat → Int
  | 0, _ => 1
  | k + 1, j => if cch c (fr + j) = B (q + j) then smw c fr B q k (j + 1) else 0
theorem smw_s (c fr : Nat) (B : Nat → Int) (q k j : Nat) : smw c fr B q (k + 1) j = if cch c (fr + j) = B (q + j) then smw c fr B q k (j + 1) else 0 := rfl
theorem smw_e (c fr : Nat) (B : Nat → Int) (q : Nat) : ∀ k j, smw c fr B q k j = if (∀ i, i < k → cch c (fr + (j + i)) = B (q + (j + i))) then 1 else 0 := by
  intro k
  induction k with
  | zero =>
    intro j
    rw [if_pos (fun i h => absurd h (Nat.not_lt_zero _))]
    rfl
  | succ k ih =>
    intro j
    rw [smw_s, ih (j + 1)]
    by_cases h : cch c (fr + j) = B (q + j)
    · rw [if_pos h]
      by_cases g : ∀ i, i < k → cch c (fr + (j + 1 + i)) = B (q + (j + 1 + i))
      · rw [if_pos g, if_pos]
        intro i hi
        cases i with
        | zero => exact h
        | succ i =>
          have := g i (by omega)
          rwa [show j + 1 + i = j + (i + 1) by omega] at this
      · rw [if_neg g, if_neg]
        intro z
        refine g (fun i hi => ?_)
        have := z (i + 1) (by omega)
        rwa [show j + (i + 1) = j + 1 + i by omega] at this
    · rw [if_neg h, if_neg]
      exact fun z => h (z 0 (by omega))
theorem vals_eq (c fr : Nat) (B : Nat → Int) (q : Nat) : ∀ l, (∀ i, i < l → isLt (B (q + i))) → (∀ i, i < l → 0 ≤ cch c (fr + i) ∧ cch c (fr + i) < 256) → ((∀ i, i < l → cch c (fr + (0 + i)) = B (q + (0 + i))) ↔ wv B q l = cv c fr l) := by
  intro l
  induction l with
  | zero => exact fun _ _ => ⟨fun _ => rfl, fun _ i h => absurd h (Nat.not_lt_zero _)⟩
  | succ l ih =>
    intro h g
    have ih := ih (fun i hi => h i (by omega)) (fun i hi => g i (by omega))
    have h1 := h l (by omega)
    have g1 := g l (by omega)
    rw [wv_s, cv_s]
    unfold isLt at h1
    constructor
    · intro z
      have a := z l (by omega)
      rw [Nat.zero_add] at a
      rw [ih.1 (fun i hi => z i (by omega)), a]
    · intro z
      have a : wv B q l = cv c fr l := by omega
      intro i hi
      by_cases e : i = l
      · subst e
        rw [Nat.zero_add]
        omega
      · exact ih.2 a i (by omega)
theorem x_length {u : hS} {c : Nat} (h : c < 7) : m_J0_length_8abf5 c u = some (((strN.getD c 0 : Nat) : Int), u) := by
  unfold m_J0_length_8abf5 hgd7 hTlen m_J0_coder_7d493 m_J0_coder_7d493_L14 hgd7 hif hcall
  simp only [if_pos h]
  rw [if_neg (by decide), show hretB 0 u = some (0, u) from if_pos (by decide)]
  have e : ∀ c, c < 7 → ishrZ ((strN.getD c 0 : Nat) : Int) 0 = ((strN.getD c 0 : Nat) : Int) := by decide +kernel
  show some (_, _) = _
  rw [e c h]
theorem x_charAt {u : hS} {c i : Nat} (h : c < 7) (hi : i < strN.getD c 0) : m_J0_charAt_5068e c (i : Int) u = some (cch c i, u) := by
  have b := cch_b c h i (by have := str_64 c h; omega)
  unfold m_J0_charAt_5068e hgd7 m_J0_isLatin1_aae02 m_J0_isLatin1_aae02_L17 m_J0_isLatin1_aae02_L18 hgd7 hif hcall
  simp only [if_pos h]
  rw [if_neg (by decide), if_neg (by decide), show hretZ 1 u = some (1, u) from rfl]
  simp only []
  rw [if_neg (by decide)]
  unfold m_J1_charAt_3b067 hTlen hTch m_J0_checkIndex_df160 m_J3_checkIndex_8e157 hif hcall
  simp only [if_pos h]
  rw [if_neg (by omega), if_pos (by omega)]
  simp only [hret_e]
  rw [if_pos ⟨h, by omega, by omega⟩]
  unfold hretC
  rw [show i2cZ (iandZ ((strB.getD c []).getD (i : Int).toNat 0).toInt 255) = cch c i from rfl, if_pos ⟨b.1, by omega⟩]
  simp only []
  rw [if_pos ⟨b.1, by omega⟩]
theorem hgd7_t {c : Nat} (h : c < 7) (P : hM) (u : hS) : hgd7 c P u = P u := if_pos h
theorem x_wordEndL {u : hS} (hs : shp u) {n : Nat} (hn : hV u 2 1 = (n : Int)) (n4 : n ≤ 400) (P s f : Int) : ∀ k m p : Nat, k < m → p + k = n → m_X6_wordEnd_L5 m 2 (p : Int) (tS u P s f) = some (((p + wln (hV u 3) k p : Nat) : Int), tS u P s f) := by
  intro k
  induction k with
  | zero =>
    intro m p hm hp
    obtain ⟨m, rfl⟩ : ∃ j, m = j + 1 := ⟨m - 1, by omega⟩
    simp only [m_X6_wordEnd_L5, m_X6_wordEnd_L41, hgI_k, hgR_k, hpI_k, hpR_k, hpZ_k, haI_k, haR_k, hsI_k, hsZ_k, hlen_k, hlet_e, hret_e, hretZ_0, hretZ_1, hif_e, okk_setV, okk_setF, nV, nF, fV, vF, tS_k, tS_1, kk_2 hs, hn]
    rw [if_pos (by omega)]
    rfl
  | succ k ih =>
    intro m p hm hp
    obtain ⟨m, rfl⟩ : ∃ j, m = j + 1 := ⟨m - 1, by omega⟩
    have p4 : p < 400 := by omega
    have p6 : p < 1000000 := by omega
    simp only [m_X6_wordEnd_L5, m_X6_wordEnd_L41, hgI_k, hgR_k, hpI_k, hpR_k, hpZ_k, haI_k, haR_k, hsI_k, hsZ_k, hlen_k, hlet_e, hret_e, hretZ_0, hretZ_1, hif_e, okk_setV, okk_setF, nV, nF, fV, vF, haI_n, tS_k, tS_N, tS_F, tS_1, tS_o (show 3 ≠ 2 by decide), kk_2 hs, kk_3 hs, ln_3 hs, rf_2_0 hs, hn, p4, ix_s p6, wln_s]
    rw [if_neg (by omega)]
    by_cases h : isLt (hV u 3 p)
    · rw [if_neg (by omega), if_neg (by omega), if_pos h, ih m (p + 1) (by omega) (by omega)]
      rw [show p + 1 + wln (hV u 3) k (p + 1) = p + (wln (hV u 3) k (p + 1) + 1) by omega]
    · rw [if_neg h]
      by_cases h1 : hV u 3 p < 97
      · rw [if_pos h1]
        rfl
      · rw [if_neg h1, if_pos (by unfold isLt at h; omega)]
        rfl
theorem x_wordEnd {u : hS} (hs : shp u) {n : Nat} (hn : hV u 2 1 = (n : Int)) (n4 : n ≤ 400) (s f : Int) {p : Nat} (hp : p ≤ n) : m_X6_wordEnd 2 (tS u (p : Int) s f) = some (((p + wl (hV u 3) n p : Nat) : Int), tS u (p : Int) s f) := by
  simp only [m_X6_wordEnd, hgI_k, hgR_k, hpI_k, hpR_k, hpZ_k, haI_k, haR_k, hsI_k, hsZ_k, hlen_k, hlet_p, hret_p, hretZ_0, hretZ_1, hif_p, okk_setV, okk_setF, nV, nF, fV, vF, tS_k, tS_2, kk_2 hs]
  exact x_wordEndL hs hn n4 _ s f (n - p) 1000000000 p (by omega) (by omega)
theorem x_isSameL {u : hS} (hs : shp u) {n : Nat} (n4 : n ≤ 400) (s f : Int) {c fr q l : Nat} (hc : c < 7) (hl : fr + l ≤ strN.getD c 0) (hq : q + l ≤ n) : ∀ k m j : Nat, k < m → j + k = l → m_X6_isSame_L18 m 2 c (fr : Int) ((fr + l : Nat) : Int) ((fr + j : Nat) : Int) (tS u (q : Int) s f) = some (smw c fr (hV u 3) q k j, tS u (q : Int) s f) := by
  intro k
  have s64 := str_64 c hc
  induction k with
  | zero =>
    intro m j hm hp
    obtain ⟨m, rfl⟩ : ∃ j, m = j + 1 := ⟨m - 1, by omega⟩
    simp only [m_X6_isSame_L18, hgI_k, hgR_k, hpI_k, hpR_k, hpZ_k, haI_k, haR_k, hsI_k, hsZ_k, hlen_k, hlet_e, hret_e, hretZ_0, hretZ_1, hif_e, okk_setV, okk_setF, nV, nF, fV, vF]
    rw [if_pos (by omega)]
    rfl
  | succ k ih =>
    intro m j hm hp
    obtain ⟨m, rfl⟩ : ∃ j, m = j + 1 := ⟨m - 1, by omega⟩
    have e1 : w32 ((q : Int) + ((fr + j : Nat) : Int)) = ((q + (fr + j) : Nat) : Int) := w32_n (by omega) (by omega)
    have e2 : w32 (((q + (fr + j) : Nat) : Int) - (fr : Int)) = ((q + j : Nat) : Int) := w32_n (by omega) (by omega)
    have p4 : q + j < 400 := by omega
    have p6 : fr + j < 1000000 := by omega
    simp only [m_X6_isSame_L18, hgI_k, hgR_k, hpI_k, hpR_k, hpZ_k, haI_k, haR_k, hsI_k, hsZ_k, hlen_k, hlet_e, hret_e, hretZ_0, hretZ_1, hif_e, okk_setV, okk_setF, nV, nF, fV, vF, haI_n, hgd7_t hc, hcall_b, hbind_s, x_charAt hc (show fr + j < strN.getD c 0 by omega), tS_k, tS_N, tS_F, tS_2, tS_o (show 3 ≠ 2 by decide), kk_2 hs, kk_3 hs, ln_3 hs, rf_2_0 hs, e1, e2, p4, ix_s p6, smw_s]
    rw [if_neg (by omega)]
    by_cases h : cch c (fr + j) = hV u 3 (q + j)
    · rw [if_pos h, if_pos h]
      exact ih m (j + 1) (by omega) (by omega)
    · rw [if_neg h, if_neg h]
theorem x_isSame {u : hS} (hs : shp u) {n : Nat} (n4 : n ≤ 400) (s f : Int) {c fr q l l' : Nat} (hc : c < 7) (hl : fr + l ≤ strN.getD c 0) (hq : q + l' ≤ n) (lt : ∀ i, i < l' → isLt (hV u 3 (q + i))) : m_X6_isSame 2 c (fr : Int) ((fr + l : Nat) : Int) ((q + l' : Nat) : Int) (tS u (q : Int) s f) = some (if l' = l ∧ wv (hV u 3) q l = cv c fr l then 1 else 0, tS u (q : Int) s f) := by
  have s64 := str_64 c hc
  have e1 : w32 (((fr + l : Nat) : Int) - (fr : Int)) = (l : Int) := w32_n (by omega) (by omega)
  have e2 : w32 (((q + l' : Nat) : Int) - (q : Int)) = (l' : Int) := w32_n (by omega) (by omega)
  simp only [m_X6_isSame, hgI_k, hgR_k, hpI_k, hpR_k, hpZ_k, haI_k, haR_k, hsI_k, hsZ_k, hlen_k, hlet_p, hret_p, hretZ_0, hretZ_1, hif_p, okk_setV, okk_setF, nV, nF, fV, vF, tS_k, tS_2, kk_2 hs, e1, e2]
  by_cases h : l' = l
  · subst h
    have := x_isSameL hs n4 s f hc hl hq l' 1000000000 0 (by omega) (by omega)
    rw [Nat.add_zero] at this
    rw [if_pos rfl, this, smw_e]
    have v := vals_eq c fr (hV u 3) q l' lt (fun i hi => cch_b c hc (fr + i) (by omega))
    by_cases z : wv (hV u 3) q l' = cv c fr l'
    · rw [if_pos (v.2 z), if_pos ⟨rfl, z⟩]
    · rw [if_neg (fun y => z (v.1 y)), if_neg (fun y => z y.2)]
  · rw [if_neg (by omega), if_neg (fun z => h z.1)]
/-- a word stands at q, and it is w -/
abbrev isW (B : Nat → Int) (n q : Nat) (w : Int) : Prop := 0 < wl B n q ∧ wl B n q < 8 ∧ wv B q (wl B n q) = w
theorem wl_b (B : Nat → Int) {n q : Nat} (h : q ≤ n) : q + wl B n q ≤ n ∧ ∀ i, i < wl B n q → isLt (B (q + i)) := by
  have := wln_b B (n - q) q
  unfold wl
  exact ⟨by omega, this.2⟩
theorem same_isW {B : Nat → Int} {n q l : Nat} {W : Int} (hq : q ≤ n) (l0 : 0 < l) (l8 : l < 8) (b1 : ((256 ^ (l - 1) : Nat) : Int) ≤ W) (b2 : W < ((256 ^ l : Nat) : Int)) : (wl B n q = l ∧ wv B q l = W) ↔ isW B n q W := by
  have lt := (wl_b B hq).2
  constructor
  · rintro ⟨rfl, rfl⟩
    exact ⟨l0, l8, rfl⟩
  · rintro ⟨a, b, rfl⟩
    obtain ⟨c, d, e⟩ := wv_b B q (wl B n q) lt
    have e := e a
    have : wl B n q = l := by
      by_cases h1 : wl B n q < l
      · have := Nat.pow_le_pow_right (show 0 < 256 by decide) (show wl B n q ≤ l - 1 by omega)
        omega
      · by_cases h2 : l < wl B n q
        · have := Nat.pow_le_pow_right (show 0 < 256 by decide) (show l ≤ wl B n q - 1 by omega)
          omega
        · omega
    exact ⟨this, by rw [this]⟩
theorem isW_len {B : Nat → Int} {n q l : Nat} {W : Int} (hq : q ≤ n) (l0 : 0 < l) (l8 : l < 8) (b1 : ((256 ^ (l - 1) : Nat) : Int) ≤ W) (b2 : W < ((256 ^ l : Nat) : Int)) (h : isW B n q W) : wl B n q = l := ((same_isW hq l0 l8 b1 b2).2 h).1
