/-! words out of a list -/
theorem hbind_if {c : Prop} [Decidable c] {a b : Option (Int × hS)} {f : Int → hM} : hbind (if c then a else b) f = if c then hbind a f else hbind b f := by
  split <;> rfl
theorem d_len {B : Nat → Int} {n q : Nat} : (if q < n then iandZ (B q) 255 else (-1 : Int)) = chr B n q := rfl
abbrev okC (c : Nat) (W : Int) : Prop := c < 7 ∧ 0 < strN.getD c 0 ∧ strN.getD c 0 < 8 ∧ cv c 0 (strN.getD c 0) = W ∧ ((256 ^ (strN.getD c 0 - 1) : Nat) : Int) ≤ W ∧ W < ((256 ^ strN.getD c 0 : Nat) : Int)
theorem okC_1 : okC 1 427121668979 := by decide +kernel
theorem okC_3 : okC 3 26982 := by decide +kernel
theorem okC_4 : okC 4 7237492 := by decide +kernel
theorem okC_5 : okC 5 6385252 := by decide +kernel
theorem okC_6 : okC 6 28530 := by decide +kernel
/-- the words of a list: where each begins, how long it is -/
def chn (c : Nat) : Nat → List (Nat × Nat) → Bool
  | fr, [] => decide (strN.getD c 0 ≤ fr)
  | fr, (a, l) :: r => decide (a = fr) && decide (fr + l ≤ strN.getD c 0) && decide (fr < strN.getD c 0) && (List.range l).all (fun i => decide (cch c (fr + i) ≠ 32)) && (decide (fr + l = strN.getD c 0) || decide (cch c (fr + l) = 32)) && chn c (fr + l + 1) r
def wres (c : Nat) (B : Nat → Int) (q l' : Nat) : List (Nat × Nat) → Nat → Int
  | [], _ => -1
  | (a, l) :: r, k => if l' = l ∧ wv B q l = cv c a l then (k : Int) else wres c B q l' r (k + 1)
theorem wres_c (c : Nat) (B : Nat → Int) (q l' a l : Nat) (r : List (Nat × Nat)) (k : Nat) : wres c B q l' ((a, l) :: r) k = if l' = l ∧ wv B q l = cv c a l then (k : Int) else wres c B q l' r (k + 1) := rfl
theorem wres_in (c : Nat) (B : Nat → Int) (q l' : Nat) : ∀ (r : List (Nat × Nat)) (k : Nat), wres c B q l' r k = -1 ∨ (k : Int) ≤ wres c B q l' r k ∧ wres c B q l' r k < ((k + r.length : Nat) : Int) := by
  intro r
  induction r with
  | nil => exact fun k => .inl rfl
  | cons x r ih =>
    intro k
    obtain ⟨a, l⟩ := x
    rw [wres_c, List.length_cons]
    by_cases h : l' = l ∧ wv B q l = cv c a l
    · rw [if_pos h]
      exact .inr ⟨by omega, by omega⟩
    · rw [if_neg h]
      rcases ih (k + 1) with h | h
      · exact .inl h
      · exact .inr ⟨by omega, by omega⟩
theorem x_seesWord {u : hS} (hs : shp u) {n : Nat} (hn : hV u 2 1 = (n : Int)) (n4 : n ≤ 400) (s f : Int) {c : Nat} {W : Int} (k : okC c W) {p : Nat} (hp : p ≤ n) : m_X6_seesWord 2 c (tS u (p : Int) s f) = some (if isW (hV u 3) n (sk (hV u 3) n p) W then 1 else 0, tS u ((sk (hV u 3) n p : Nat) : Int) s f) := by
  obtain ⟨c7, l0, l8, e, b1, b2⟩ := k
  have b := (sk_le (hV u 3) hp).2
  have w := wl_b (hV u 3) b
  have I := x_isSame hs n4 s f (c := c) (fr := 0) (q := sk (hV u 3) n p) (l := strN.getD c 0) (l' := wl (hV u 3) n (sk (hV u 3) n p)) c7 (by omega) w.1 w.2
  rw [Nat.zero_add, e] at I
  simp only [m_X6_seesWord, hgI_k, hgR_k, hpI_k, hpR_k, hpZ_k, haI_k, haR_k, hsI_k, hsZ_k, hlen_k, hlet_p, hret_p, hretZ_0, hretZ_1, hif_p, okk_setV, okk_setF, nV, nF, fV, vF, hcallV_b, hcall_b, hbind_p, tS_k, kk_2 hs, x_next hs hn n4 s f hp, hgd7_t c7, x_length c7, x_wordEnd hs hn n4 s f b]
  show hbind (m_X6_isSame 2 c ((0 : Nat) : Int) _ _ _) _ = _
  rw [I, hbind_p]
  by_cases h : isW (hV u 3) n (sk (hV u 3) n p) W
  · rw [if_pos h, if_pos ((same_isW b l0 l8 b1 b2).2 h)]
    rfl
  · rw [if_neg h, if_neg (fun z => h ((same_isW b l0 l8 b1 b2).1 z))]
    rfl
theorem x_takeWord {u : hS} (hs : shp u) {n : Nat} (hn : hV u 2 1 = (n : Int)) (n4 : n ≤ 400) (s : Int) {c : Nat} {W : Int} (k : okC c W) {p : Nat} (hp : p ≤ n) : m_X6_takeWord 2 c (tS u (p : Int) s 0) = if isW (hV u 3) n (sk (hV u 3) n p) W then some (1, tS u ((sk (hV u 3) n p + wl (hV u 3) n (sk (hV u 3) n p) : Nat) : Int) ((sk (hV u 3) n p : Nat) : Int) 0) else some (0, tS u ((sk (hV u 3) n p : Nat) : Int) s 0) := by
  obtain ⟨c7, l0, l8, e, b1, b2⟩ := id k
  have b := (sk_le (hV u 3) hp).2
  have w := wl_b (hV u 3) b
  simp only [m_X6_takeWord, m_X6_takeWord_L15, hgI_k, hgR_k, hpI_k, hpR_k, hpZ_k, haI_k, haR_k, hsI_k, hsZ_k, hlen_k, hlet_p, hret_p, hretZ_0, hretZ_1, hif_p, okk_setV, okk_setF, nV, nF, fV, vF, hcallV_b, hcall_b, hbind_p, tS_k, tS_2, tS_4, tS_w2, tS_w3, kk_2 hs, hgd7_t c7, x_length c7, x_seesWord hs hn n4 s 0 k hp]
  rw [if_neg (by decide)]
  by_cases h : isW (hV u 3) n (sk (hV u 3) n p) W
  · have e2 : w32 (((sk (hV u 3) n p : Nat) : Int) + ((strN.getD c 0 : Nat) : Int)) = ((sk (hV u 3) n p + strN.getD c 0 : Nat) : Int) := w32_n (by omega) (by omega)
    rw [if_pos h, if_pos (by decide), if_pos h, e2, isW_len b l0 l8 b1 b2 h]
  · rw [if_neg h, if_neg (by decide), if_neg h]
theorem x_takeWordF {u : hS} (hs : shp u) (p s : Int) {f : Int} (hf : f ≠ 0) (c : Nat) : m_X6_takeWord 2 c (tS u p s f) = some (0, tS u p s f) := by
  simp only [m_X6_takeWord, m_X6_takeWord_L15, hgI_k, hgR_k, hpI_k, hpR_k, hpZ_k, haI_k, haR_k, hsI_k, hsZ_k, hlen_k, hlet_p, hret_p, hretZ_0, hretZ_1, hif_p, okk_setV, okk_setF, nV, nF, fV, vF, tS_k, tS_4, kk_2 hs]
  rw [if_pos hf]
theorem x_wordT {v : hS} {c : Nat} (c7 : c < 7) (k32 : Nat → Nat → Int → Int → Int → hM) (stop k fr : Int) {e : Nat} (he : e = strN.getD c 0 ∨ (e < strN.getD c 0 ∧ cch c e = 32)) : ∀ d m j : Nat, d < m → j + d = e → (∀ i, j ≤ i → i < e → i < strN.getD c 0 ∧ cch c i ≠ 32) → m_X6_word_L45 k32 m 2 c stop k fr (j : Int) v = m_X6_word_L71 k32 2 c stop k fr (e : Int) v := by
  intro d
  have s64 := str_64 c c7
  induction d with
  | zero =>
    intro m j hm hj hb
    obtain ⟨m, rfl⟩ : ∃ j, m = j + 1 := ⟨m - 1, by omega⟩
    obtain rfl : j = e := by omega
    rw [m_X6_word_L45]
    simp only [hgd7_t c7, hcall_b, x_length c7, hbind_p, hif_p]
    rcases he with he | ⟨he, h32⟩
    · rw [if_pos (by omega)]
    · rw [if_neg (by omega), x_charAt c7 he]
      simp only [hbind_p, hif_p]
      rw [if_pos h32]
  | succ d ih =>
    intro m j hm hj hb
    obtain ⟨m, rfl⟩ : ∃ j, m = j + 1 := ⟨m - 1, by omega⟩
    have q := hb j (by omega) (by omega)
    have p6 : j < 1000000 := by omega
    rw [m_X6_word_L45]
    simp only [hgd7_t c7, hcall_b, x_length c7, hbind_p, hif_p]
    rw [if_neg (by omega), x_charAt c7 q.1]
    simp only [hbind_p, hif_p, hlet_p, ix_s p6]
    rw [if_neg q.2]
    exact ih m (j + 1) (by omega) (by omega) (fun i h1 h2 => hb i (by omega) h2)
theorem x_wordL {u : hS} (hs : shp u) {n : Nat} (n4 : n ≤ 400) {c : Nat} (c7 : c < 7) {q l' : Nat} (hq : q + l' ≤ n) (lt : ∀ i, i < l' → isLt (hV u 3 (q + i))) : ∀ (ws : List (Nat × Nat)) (m k fr : Nat), ws.length < m → k + ws.length < 1000 → chn c fr ws = true → m_X6_word_L32 m 2 c ((q + l' : Nat) : Int) (k : Int) (fr : Int) (tS u (q : Int) (q : Int) 0) = if wres c (hV u 3) q l' ws k = -1 then some (-1, tS u (q : Int) (q : Int) ((1 + 8 * q : Nat) : Int)) else some (wres c (hV u 3) q l' ws k, tS u ((q + l' : Nat) : Int) (q : Int) 0) := by
  intro ws
  have s64 := str_64 c c7
  induction ws with
  | nil =>
    intro m k fr hm hk hc
    obtain ⟨m, rfl⟩ : ∃ j, m = j + 1 := ⟨m - 1, by omega⟩
    have hc : strN.getD c 0 ≤ fr := of_decide_eq_true hc
    have F := x_fail hs (q : Int) (q : Int) 0 (w := q) (by omega) (k := 0) (by decide)
    rw [if_pos rfl, Nat.add_zero] at F
    rw [m_X6_word_L32]
    simp only [hgI_k, hgR_k, hpI_k, hpR_k, hpZ_k, haI_k, haR_k, hsI_k, hsZ_k, hlen_k, hlet_p, hret_p, hretZ_0, hretZ_1, hif_p, okk_setV, okk_setF, nV, nF, fV, vF, hgd7_t c7, hcall_b, x_length c7, hbind_p, tS_k, tS_3, kk_2 hs, hcallV_b]
    rw [if_pos (by omega), if_pos (show wres c (hV u 3) q l' [] k = -1 from rfl)]
    show hbind (m_X6_fail 2 (q : Int) ((0 : Nat) : Int) _) _ = _
    rw [F]
    rfl
  | cons x r ih =>
    intro m k fr hm hk hc
    obtain ⟨m, rfl⟩ : ∃ j, m = j + 1 := ⟨m - 1, by omega⟩
    obtain ⟨a, l⟩ := x
    rw [List.length_cons] at hm hk
    simp only [chn, Bool.and_eq_true, Bool.or_eq_true, decide_eq_true_eq, List.all_eq_true, List.mem_range] at hc
    obtain ⟨⟨⟨⟨⟨rfl, c1⟩, c2⟩, c3⟩, c4⟩, c5⟩ := hc
    rw [m_X6_word_L32]
    simp only [hgI_k, hgR_k, hpI_k, hpR_k, hpZ_k, haI_k, haR_k, hsI_k, hsZ_k, hlen_k, hlet_p, hret_p, hretZ_0, hretZ_1, hif_p, okk_setV, okk_setF, nV, nF, fV, vF, hgd7_t c7, hcall_b, x_length c7, hbind_p]
    rw [if_neg (by omega), x_wordT c7 _ _ _ _ (e := a + l) (by omega) l 1000000000 a (by omega) rfl (fun i h1 h2 => ⟨by omega, by have := c3 (i - a) (by omega); rwa [show a + (i - a) = i by omega] at this⟩)]
    have I := x_isSame hs n4 (q : Int) 0 (c := c) (fr := a) (q := q) (l := l) (l' := l') c7 c1 hq lt
    have p1 : k < 1000000 := by omega
    have p2 : a + l < 1000000 := by omega
    simp only [m_X6_word_L71, hgI_k, hgR_k, hpI_k, hpR_k, hpZ_k, haI_k, haR_k, hsI_k, hsZ_k, hlen_k, hlet_p, hret_p, hretZ_0, hretZ_1, hif_p, okk_setV, okk_setF, nV, nF, fV, vF, hcallV_b, I, hbind_p, tS_k, tS_w2, kk_2 hs, ix_s p1, ix_s p2]
    rw [wres_c]
    by_cases h : l' = l ∧ wv (hV u 3) q l = cv c a l
    · rw [if_pos h, if_pos h, if_neg (by decide), if_neg (by omega)]
    · rw [if_neg h, if_neg h, if_pos rfl]
      exact ih m (k + 1) (a + l + 1) (by omega) (by omega) c5
theorem x_wordF {u : hS} (hs : shp u) (p s : Int) {f : Int} (hf : f ≠ 0) (c : Nat) : m_X6_word 2 c (tS u p s f) = some (-1, tS u p s f) := by
  simp only [m_X6_word, hgI_k, hgR_k, hpI_k, hpR_k, hpZ_k, haI_k, haR_k, hsI_k, hsZ_k, hlen_k, hlet_p, hret_p, hretZ_0, hretZ_1, hif_p, okk_setV, okk_setF, nV, nF, fV, vF, tS_k, tS_4, kk_2 hs]
  rw [if_neg hf]
theorem x_wordG {u : hS} (hs : shp u) {n : Nat} (hn : hV u 2 1 = (n : Int)) (n4 : n ≤ 400) (s : Int) {c : Nat} (c7 : c < 7) {p : Nat} (hp : p ≤ n) {ws : List (Nat × Nat)} (hc : chn c 0 ws = true) (hw : ws.length < 100) : m_X6_word 2 c (tS u (p : Int) s 0) = if wres c (hV u 3) (sk (hV u 3) n p) (wl (hV u 3) n (sk (hV u 3) n p)) ws 0 = -1 then some (-1, tS u ((sk (hV u 3) n p : Nat) : Int) ((sk (hV u 3) n p : Nat) : Int) ((1 + 8 * sk (hV u 3) n p : Nat) : Int)) else some (wres c (hV u 3) (sk (hV u 3) n p) (wl (hV u 3) n (sk (hV u 3) n p)) ws 0, tS u ((sk (hV u 3) n p + wl (hV u 3) n (sk (hV u 3) n p) : Nat) : Int) ((sk (hV u 3) n p : Nat) : Int) 0) := by
  have b := (sk_le (hV u 3) hp).2
  have w := wl_b (hV u 3) b
  have L := x_wordL hs n4 c7 w.1 w.2 ws 1000000000 0 0 (by omega) (by omega) hc
  simp only [m_X6_word, hgI_k, hgR_k, hpI_k, hpR_k, hpZ_k, haI_k, haR_k, hsI_k, hsZ_k, hlen_k, hlet_p, hret_p, hretZ_0, hretZ_1, hif_p, okk_setV, okk_setF, nV, nF, fV, vF, hcallV_b, hbind_p, tS_k, tS_2, tS_4, tS_w3, kk_2 hs, x_next hs hn n4 s 0 hp, x_wordEnd hs hn n4 _ 0 b]
  rw [if_pos trivial]
  exact L
/-- which of the words stands at q -/
def wfind (B : Nat → Int) (n q : Nat) : List Int → Nat → Int
  | [], _ => -1
  | w :: r, k => if isW B n q w then (k : Int) else wfind B n q r (k + 1)
theorem wfind_c (B : Nat → Int) (n q : Nat) (w : Int) (r : List Int) (k : Nat) : wfind B n q (w :: r) k = if isW B n q w then (k : Int) else wfind B n q r (k + 1) := rfl
def okws (c : Nat) : List (Nat × Nat) → List Int → Bool
  | [], [] => true
  | (a, l) :: r, w :: ws => decide (0 < l) && decide (l < 8) && decide (cv c a l = w) && decide (((256 ^ (l - 1) : Nat) : Int) ≤ w) && decide (w < ((256 ^ l : Nat) : Int)) && okws c r ws
  | _, _ => false
theorem wres_find {B : Nat → Int} {n q c : Nat} (hq : q ≤ n) : ∀ (r : List (Nat × Nat)) (ws : List Int) (k : Nat), okws c r ws = true → wres c B q (wl B n q) r k = wfind B n q ws k := by
  intro r
  induction r with
  | nil =>
    intro ws k h
    cases ws with
    | nil => rfl
    | cons w ws => cases h
  | cons x r ih =>
    intro ws k h
    obtain ⟨a, l⟩ := x
    cases ws with
    | nil => cases h
    | cons w ws =>
      simp only [okws, Bool.and_eq_true, decide_eq_true_eq] at h
      obtain ⟨⟨⟨⟨⟨h1, h2⟩, h3⟩, h4⟩, h5⟩, h6⟩ := h
      rw [wres_c, wfind_c, ih ws (k + 1) h6, h3]
      have := same_isW (B := B) hq h1 h2 h4 h5
      by_cases z : isW B n q w
      · rw [if_pos z, if_pos (this.2 z)]
      · rw [if_neg z, if_neg (fun y => z (this.1 y))]
theorem wfind_in (B : Nat → Int) (n q : Nat) : ∀ (r : List Int) (k : Nat), wfind B n q r k = -1 ∨ (k : Int) ≤ wfind B n q r k ∧ wfind B n q r k < ((k + r.length : Nat) : Int) := by
  intro r
  induction r with
  | nil => exact fun k => .inl rfl
  | cons x r ih =>
    intro k
    rw [wfind_c, List.length_cons]
    by_cases h : isW B n q x
    · rw [if_pos h]
      exact .inr ⟨by omega, by omega⟩
    · rw [if_neg h]
      rcases ih (k + 1) with h | h
      · exact .inl h
      · exact .inr ⟨by omega, by omega⟩
def twW : List Int := [1953462126, 108243533981541, 439788663417, 440006570868, 123581014175598, 27991845698233700, 2002873972]
def ruW : List Int := [123581014175598, 108243533981541, 1718775661, 29807, 1752132965, 1818584692, 6578553, 1735352684, 7364985, 504364296556, 121381705639282, 123580963646565]
theorem x_word0 {u : hS} (hs : shp u) {n : Nat} (hn : hV u 2 1 = (n : Int)) (n4 : n ≤ 400) (s : Int) {p : Nat} (hp : p ≤ n) : m_X6_word 2 0 (tS u (p : Int) s 0) = if wfind (hV u 3) n (sk (hV u 3) n p) twW 0 = -1 then some (-1, tS u ((sk (hV u 3) n p : Nat) : Int) ((sk (hV u 3) n p : Nat) : Int) ((1 + 8 * sk (hV u 3) n p : Nat) : Int)) else some (wfind (hV u 3) n (sk (hV u 3) n p) twW 0, tS u ((sk (hV u 3) n p + wl (hV u 3) n (sk (hV u 3) n p) : Nat) : Int) ((sk (hV u 3) n p : Nat) : Int) 0) := by
  have b := (sk_le (hV u 3) hp).2
  rw [x_wordG hs hn n4 s (c := 0) (by decide) hp (ws := [(0, 4), (5, 6), (12, 5), (18, 5), (24, 6), (31, 7), (39, 4)]) (by decide +kernel) (by decide), wres_find b _ twW 0 (by decide +kernel)]
theorem x_word2 {u : hS} (hs : shp u) {n : Nat} (hn : hV u 2 1 = (n : Int)) (n4 : n ≤ 400) (s : Int) {p : Nat} (hp : p ≤ n) : m_X6_word 2 2 (tS u (p : Int) s 0) = if wfind (hV u 3) n (sk (hV u 3) n p) ruW 0 = -1 then some (-1, tS u ((sk (hV u 3) n p : Nat) : Int) ((sk (hV u 3) n p : Nat) : Int) ((1 + 8 * sk (hV u 3) n p : Nat) : Int)) else some (wfind (hV u 3) n (sk (hV u 3) n p) ruW 0, tS u ((sk (hV u 3) n p + wl (hV u 3) n (sk (hV u 3) n p) : Nat) : Int) ((sk (hV u 3) n p : Nat) : Int) 0) := by
  have b := (sk_le (hV u 3) hp).2
  rw [x_wordG hs hn n4 s (c := 2) (by decide) hp (ws := [(0, 6), (7, 6), (14, 4), (19, 2), (22, 4), (27, 4), (32, 3), (36, 4), (41, 3), (45, 5), (51, 6), (58, 6)]) (by decide +kernel) (by decide), wres_find b _ ruW 0 (by decide +kernel)]
theorem x_word1 {u : hS} (hs : shp u) {n : Nat} (hn : hV u 2 1 = (n : Int)) (n4 : n ≤ 400) (s : Int) {p : Nat} (hp : p ≤ n) : m_X6_word 2 1 (tS u (p : Int) s 0) = if wfind (hV u 3) n (sk (hV u 3) n p) [427121668979] 0 = -1 then some (-1, tS u ((sk (hV u 3) n p : Nat) : Int) ((sk (hV u 3) n p : Nat) : Int) ((1 + 8 * sk (hV u 3) n p : Nat) : Int)) else some (wfind (hV u 3) n (sk (hV u 3) n p) [427121668979] 0, tS u ((sk (hV u 3) n p + wl (hV u 3) n (sk (hV u 3) n p) : Nat) : Int) ((sk (hV u 3) n p : Nat) : Int) 0) := by
  have b := (sk_le (hV u 3) hp).2
  rw [x_wordG hs hn n4 s (c := 1) (by decide) hp (ws := [(0, 5)]) (by decide +kernel) (by decide), wres_find b _ [427121668979] 0 (by decide +kernel)]
