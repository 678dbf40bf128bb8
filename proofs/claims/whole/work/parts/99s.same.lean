/-! what is read hangs on the bytes alone -/
def sB (n : Nat) (B C : Nat → Int) : Prop := ∀ i, i < n → B i = C i
theorem skp_cg {B C : Nat → Int} {n : Nat} (h : sB n B C) : ∀ k p, p + k ≤ n → skp B k p = skp C k p := by
  intro k
  induction k with
  | zero => exact fun _ _ => rfl
  | succ k ih =>
    intro p hp
    rw [skp_s, skp_s, h p (by omega), ih (p + 1) (by omega)]
theorem sk_cg {B C : Nat → Int} {n p : Nat} (h : sB n B C) (hp : p ≤ n) : sk B n p = sk C n p := skp_cg h _ _ (by omega)
theorem chr_cg {B C : Nat → Int} {n p : Nat} (h : sB n B C) : chr B n p = chr C n p := by
  unfold chr
  by_cases g : p < n
  · rw [if_pos g, if_pos g, h p g]
  · rw [if_neg g, if_neg g]
theorem wln_cg {B C : Nat → Int} {n : Nat} (h : sB n B C) : ∀ k p, p + k ≤ n → wln B k p = wln C k p := by
  intro k
  induction k with
  | zero => exact fun _ _ => rfl
  | succ k ih =>
    intro p hp
    rw [wln_s, wln_s, h p (by omega), ih (p + 1) (by omega)]
theorem wl_cg {B C : Nat → Int} {n p : Nat} (h : sB n B C) (hp : p ≤ n) : wl B n p = wl C n p := wln_cg h _ _ (by omega)
theorem wv_cg {B C : Nat → Int} {n q : Nat} (h : sB n B C) : ∀ l, q + l ≤ n → wv B q l = wv C q l := by
  intro l
  induction l with
  | zero => exact fun _ => rfl
  | succ l ih =>
    intro hq
    rw [wv_s, wv_s, h (q + l) (by omega), ih (by omega)]
theorem isW_cg {B C : Nat → Int} {n q : Nat} (h : sB n B C) (hq : q ≤ n) (W : Int) : isW B n q W ↔ isW C n q W := by
  have e := wl_cg h hq
  have b := (wl_b B hq).1
  unfold isW
  rw [wv_cg h _ b, e]
theorem dln_cg {B C : Nat → Int} {n : Nat} (h : sB n B C) : ∀ k p, p + k ≤ n → dln B k p = dln C k p := by
  intro k
  induction k with
  | zero => exact fun _ _ => rfl
  | succ k ih =>
    intro p hp
    rw [dln_s, dln_s, h p (by omega), ih (p + 1) (by omega)]
theorem dl_cg {B C : Nat → Int} {n p : Nat} (h : sB n B C) (hp : p ≤ n) : dl B n p = dl C n p := dln_cg h _ _ (by omega)
theorem dvv_cg {B C : Nat → Int} {n q : Nat} (h : sB n B C) : ∀ k j v, q + j + k ≤ n → dvv B q k j v = dvv C q k j v := by
  intro k
  induction k with
  | zero => exact fun _ _ _ => rfl
  | succ k ih =>
    intro j v hp
    rw [dvv_s, dvv_s, h (q + j) (by omega)]
    by_cases g : isDg (C (q + j))
    · rw [if_pos g, if_pos g, ih (j + 1) _ (by omega)]
    · rw [if_neg g, if_neg g]
theorem dv_cg {B C : Nat → Int} {n p : Nat} (h : sB n B C) (hp : p ≤ n) : dv B n p = dv C n p := dvv_cg h _ _ _ (by omega)
theorem fN_cg {B C : Nat → Int} {n p : Nat} (h : sB n B C) (hp : p ≤ n) (lo hi : Int) : fN B n p lo hi = fN C n p lo hi := by
  unfold fN
  rw [dl_cg h hp, dv_cg h hp]
theorem ite_iff {A : Type} {p q : Prop} [Decidable p] [Decidable q] (h : p ↔ q) (a b : A) : (if p then a else b) = if q then a else b := by
  by_cases z : p
  · rw [if_pos z, if_pos (h.1 z)]
  · rw [if_neg z, if_neg (fun y => z (h.2 y))]
/-- the reference's tape holds B -/
def rTp (n : Nat) (B : Nat → Int) (u : hS) : Prop := shp u ∧ hV u 220 1 = (n : Int) ∧ sB n (hV u 221) B ∧ n ≤ 400
theorem r_see {n : Nat} {B : Nat → Int} {u : hS} (h : rTp n B u) (w k : Int) {p : Nat} (hp : p ≤ n) : m_X10_see 220 (rS u (p : Int) w k) = some (chr B n (sk B n p), rS u ((sk B n p : Nat) : Int) w k) := by
  rw [y_see h.1 h.2.1 h.2.2.2 w k hp, sk_cg h.2.2.1 hp, chr_cg h.2.2.1]
theorem r_isWord {n : Nat} {B : Nat → Int} {u : hS} (h : rTp n B u) (W w k : Int) {p : Nat} (hp : p ≤ n) : m_X10_isWord 220 W (rS u (p : Int) w k) = some (if isW B n (sk B n p) W then 1 else 0, rS u ((sk B n p : Nat) : Int) w k) := by
  rw [y_isWord h.1 h.2.1 h.2.2.2 W w k hp, sk_cg h.2.2.1 hp, ite_iff (isW_cg h.2.2.1 (sk_le B hp).2 W)]
theorem r_passWord {n : Nat} {B : Nat → Int} {u : hS} (h : rTp n B u) (w k : Int) {p : Nat} (hp : p ≤ n) : m_X10_passWord 220 (rS u (p : Int) w k) = some (0, rS u ((p + wl B n p : Nat) : Int) w k) := by
  rw [y_passWord h.1 h.2.1 h.2.2.2 w k hp, wl_cg h.2.2.1 hp]
theorem r_takesWord {n : Nat} {B : Nat → Int} {u : hS} (h : rTp n B u) (W w k : Int) {p : Nat} (hp : p ≤ n) : m_X10_takesWord 220 W (rS u (p : Int) w k) = if isW B n (sk B n p) W then some (1, rS u ((sk B n p + wl B n (sk B n p) : Nat) : Int) w k) else some (0, rS u ((sk B n p : Nat) : Int) w k) := by
  rw [y_takesWord h.1 h.2.1 h.2.2.2 W w k hp, sk_cg h.2.2.1 hp, ite_iff (isW_cg h.2.2.1 (sk_le B hp).2 W), wl_cg h.2.2.1 (sk_le B hp).2]
theorem r_isDigit {n : Nat} {B : Nat → Int} {u : hS} (h : rTp n B u) (p w k : Int) {j : Nat} (hj : j ≤ n) : m_X10_isDigit 220 (j : Int) (rS u p w k) = some (if j < n ∧ isDg (B j) then 1 else 0, rS u p w k) := by
  rw [y_isDigit h.1 h.2.1 h.2.2.2 p w k hj]
  have : (j < n ∧ isDg (hV u 221 j)) ↔ (j < n ∧ isDg (B j)) := ⟨fun z => ⟨z.1, by rw [← h.2.2.1 j z.1]; exact z.2⟩, fun z => ⟨z.1, by rw [h.2.2.1 j z.1]; exact z.2⟩⟩
  rw [ite_iff this]
theorem r_numB {n : Nat} {B : Nat → Int} {u : hS} (h : rTp n B u) (lo hi k : Int) {p : Nat} (hp : p ≤ n) (z : fN B n (sk B n p) lo hi ≠ 0) : ∃ p' k', m_X10_numberHere 220 lo hi (rS u (p : Int) 0 k) = some (0, rS u p' ((fN B n (sk B n p) lo hi : Nat) : Int) k') := by
  have e : fN (hV u 221) n (sk (hV u 221) n p) lo hi = fN B n (sk B n p) lo hi := by rw [sk_cg h.2.2.1 hp, fN_cg h.2.2.1 (sk_le B hp).2]
  have := y_numB h.1 h.2.1 h.2.2.2 lo hi k hp (by rw [e]; exact z)
  rwa [e] at this
theorem r_numG {n : Nat} {B : Nat → Int} {u : hS} (h : rTp n B u) (lo hi k : Int) {p : Nat} (hp : p ≤ n) (z : fN B n (sk B n p) lo hi = 0) : m_X10_numberHere 220 lo hi (rS u (p : Int) 0 k) = some (1, rS u ((sk B n p + dl B n (sk B n p) : Nat) : Int) 0 (dv B n (sk B n p))) := by
  have e : fN (hV u 221) n (sk (hV u 221) n p) lo hi = fN B n (sk B n p) lo hi := by rw [sk_cg h.2.2.1 hp, fN_cg h.2.2.1 (sk_le B hp).2]
  rw [y_numG h.1 h.2.1 h.2.2.2 lo hi k hp (by rw [e]; exact z), sk_cg h.2.2.1 hp, dl_cg h.2.2.1 (sk_le B hp).2, dv_cg h.2.2.1 (sk_le B hp).2]
theorem rTp.set {n : Nat} {B : Nat → Int} {u : hS} (h : rTp n B u) {a i : Nat} {x : Int} (h0 : a ≠ 221) (h1 : a ≠ 220 ∨ i ≠ 1) : rTp n B (hsetV u a i x) := by
  refine ⟨h.1, ?_, fun j hj => ?_, h.2.2.2⟩
  · by_cases e : a = 220
    · subst e
      rw [hV_setV_i (by omega)]
      exact h.2.1
    · rw [hV_setV_a (by omega)]
      exact h.2.1
  · rw [hV_setV_a (by omega)]
    exact h.2.2.1 j hj
theorem rTp.put {n : Nat} {B : Nat → Int} {u : hS} (h : rTp n B u) {a : Nat} {g : Nat → Int} (h0 : a ≠ 221) (h1 : a ≠ 220) : rTp n B (hput u a g) := by
  refine ⟨by rw [shp_put]; exact h.1, ?_, ?_, h.2.2.2⟩
  · rw [hV_put_n (by omega)]
    exact h.2.1
  · rw [hV_put_n (by omega)]
    exact h.2.2.1
/-- the class's tape holds B -/
def cTp (n : Nat) (B : Nat → Int) (u : hS) : Prop := shp u ∧ hV u 2 1 = (n : Int) ∧ hV u 3 = B ∧ n ≤ 400
theorem cTp.set {n : Nat} {B : Nat → Int} {u : hS} (h : cTp n B u) {a i : Nat} {x : Int} (h0 : a ≠ 2) (h1 : a ≠ 3) : cTp n B (hsetV u a i x) := by
  refine ⟨h.1, ?_, ?_, h.2.2.2⟩
  · rw [hV_setV_a (Ne.symm h0)]
    exact h.2.1
  · rw [← h.2.2.1]
    funext j
    exact hV_setV_a (Ne.symm h1)
theorem cTp.agr {n : Nat} {B : Nat → Int} {u v : hS} (h : cTp n B u) (hs : shp v) (h2 : hV v 2 1 = hV u 2 1) (h3 : hV v 3 = hV u 3) : cTp n B v := ⟨hs, h2.trans h.2.1, h3.trans h.2.2.1, h.2.2.2⟩
theorem c_next {n : Nat} {B : Nat → Int} {u : hS} (h : cTp n B u) (s f : Int) {p : Nat} (hp : p ≤ n) : m_X6_next 2 (tS u (p : Int) s f) = some (chr B n (sk B n p), tS u ((sk B n p : Nat) : Int) s f) := by
  have := x_next h.1 h.2.1 h.2.2.2 s f hp
  rwa [h.2.2.1] at this
theorem c_takeSign {n : Nat} {B : Nat → Int} {u : hS} (h : cTp n B u) (s f c : Int) {p : Nat} (hp : p ≤ n) : m_X6_takeSign 2 c (tS u (p : Int) s f) = if f ≠ 0 then some (0, tS u (p : Int) s f) else if chr B n (sk B n p) = c then some (1, tS u ((sk B n p + 1 : Nat) : Int) s f) else some (0, tS u ((sk B n p : Nat) : Int) s f) := by
  have := x_takeSign h.1 h.2.1 h.2.2.2 s f c hp
  rwa [h.2.2.1] at this
theorem c_takeNextClause {n : Nat} {B : Nat → Int} {u : hS} (h : cTp n B u) (s f : Int) {p : Nat} (hp : p ≤ n) : m_X6_takeNextClause 2 (tS u (p : Int) s f) = if f = 0 then (if chr B n (sk B n p) = 59 then some (1, tS u ((sk B n p + 1 : Nat) : Int) s f) else if chr B n (sk B n p) = -1 then some (0, tS u ((sk B n p : Nat) : Int) s f) else some (0, tS u ((sk B n p : Nat) : Int) s ((1 + 8 * sk B n p : Nat) : Int))) else some (0, tS u (p : Int) s f) := by
  have := x_takeNextClause h.1 h.2.1 h.2.2.2 s f hp
  rwa [h.2.2.1] at this
theorem c_seesWord {n : Nat} {B : Nat → Int} {u : hS} (h : cTp n B u) (s f : Int) {c : Nat} {W : Int} (k : okC c W) {p : Nat} (hp : p ≤ n) : m_X6_seesWord 2 c (tS u (p : Int) s f) = some (if isW B n (sk B n p) W then 1 else 0, tS u ((sk B n p : Nat) : Int) s f) := by
  have := x_seesWord h.1 h.2.1 h.2.2.2 s f k hp
  rwa [h.2.2.1] at this
theorem c_takeWord {n : Nat} {B : Nat → Int} {u : hS} (h : cTp n B u) (s : Int) {c : Nat} {W : Int} (k : okC c W) {p : Nat} (hp : p ≤ n) : m_X6_takeWord 2 c (tS u (p : Int) s 0) = if isW B n (sk B n p) W then some (1, tS u ((sk B n p + wl B n (sk B n p) : Nat) : Int) ((sk B n p : Nat) : Int) 0) else some (0, tS u ((sk B n p : Nat) : Int) s 0) := by
  have := x_takeWord h.1 h.2.1 h.2.2.2 s k hp
  rwa [h.2.2.1] at this
theorem c_word0 {n : Nat} {B : Nat → Int} {u : hS} (h : cTp n B u) (s : Int) {p : Nat} (hp : p ≤ n) : m_X6_word 2 0 (tS u (p : Int) s 0) = if wfind B n (sk B n p) twW 0 = -1 then some (-1, tS u ((sk B n p : Nat) : Int) ((sk B n p : Nat) : Int) ((1 + 8 * sk B n p : Nat) : Int)) else some (wfind B n (sk B n p) twW 0, tS u ((sk B n p + wl B n (sk B n p) : Nat) : Int) ((sk B n p : Nat) : Int) 0) := by
  have := x_word0 h.1 h.2.1 h.2.2.2 s hp
  rwa [h.2.2.1] at this
theorem c_word1 {n : Nat} {B : Nat → Int} {u : hS} (h : cTp n B u) (s : Int) {p : Nat} (hp : p ≤ n) : m_X6_word 2 1 (tS u (p : Int) s 0) = if wfind B n (sk B n p) [427121668979] 0 = -1 then some (-1, tS u ((sk B n p : Nat) : Int) ((sk B n p : Nat) : Int) ((1 + 8 * sk B n p : Nat) : Int)) else some (wfind B n (sk B n p) [427121668979] 0, tS u ((sk B n p + wl B n (sk B n p) : Nat) : Int) ((sk B n p : Nat) : Int) 0) := by
  have := x_word1 h.1 h.2.1 h.2.2.2 s hp
  rwa [h.2.2.1] at this
theorem c_word2 {n : Nat} {B : Nat → Int} {u : hS} (h : cTp n B u) (s : Int) {p : Nat} (hp : p ≤ n) : m_X6_word 2 2 (tS u (p : Int) s 0) = if wfind B n (sk B n p) ruW 0 = -1 then some (-1, tS u ((sk B n p : Nat) : Int) ((sk B n p : Nat) : Int) ((1 + 8 * sk B n p : Nat) : Int)) else some (wfind B n (sk B n p) ruW 0, tS u ((sk B n p + wl B n (sk B n p) : Nat) : Int) ((sk B n p : Nat) : Int) 0) := by
  have := x_word2 h.1 h.2.1 h.2.2.2 s hp
  rwa [h.2.2.1] at this
theorem c_number {n : Nat} {B : Nat → Int} {u : hS} (h : cTp n B u) (s lo hi : Int) {p : Nat} (hp : p ≤ n) : m_X6_number 2 lo hi (tS u (p : Int) s 0) = some (dv B n (sk B n p), tS u ((sk B n p + dl B n (sk B n p) : Nat) : Int) ((sk B n p : Nat) : Int) ((fN B n (sk B n p) lo hi : Nat) : Int)) := by
  have := x_number h.1 h.2.1 h.2.2.2 s lo hi hp
  rwa [h.2.2.1] at this
