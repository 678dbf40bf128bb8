/-! reading rows: places by number -/
def hbind (x : Option (Int × hS)) (f : Int → hM) : Option (Int × hS) := match x with
  | some (r, u1) => f r u1
  | none => none
theorem hbind_s {r : Int} {u1 : hS} {f : Int → hM} : hbind (some (r, u1)) f = f r u1 := rfl
theorem hcall_b {g : hM} {f : Int → hM} {u : hS} : hcall g f u = hbind (g u) f := by
  unfold hcall hbind
  split <;> simp_all
theorem hcallV_b {k a : Nat} {g : hM} {f : Int → hM} {u : hS} (h : okk u a k) : hcallV k a g f u = hbind (g u) f := (if_pos h : hcallV k a g f u = hcall g f u).trans hcall_b
theorem haI_n {k a i : Nat} {f : Int → hM} {u : hS} (h : okk u a k) (h1 : i < hN u a) : haI k a (i : Int) f u = f (hV u a i) u := if_pos ⟨h, by omega, by omega⟩
theorem haR_n {k a i : Nat} {f : Nat → hM} {u : hS} (h : okk u a k) (h1 : i < hN u a) : haR k a (i : Int) f u = f (hF u a i) u := if_pos ⟨h, by omega, by omega⟩
theorem hsI_n {k a i : Nat} {x : Int} {f : hM} {u : hS} (h : okk u a k) (h1 : i < hN u a) : hsI k a (i : Int) x f u = f (hsetV u a i x) := if_pos ⟨h, by omega, by omega⟩
theorem haI_0 {k a : Nat} {f : Int → hM} {u : hS} (h : okk u a k) (h1 : 0 < hN u a) : haI k a 0 f u = f (hV u a 0) u := if_pos ⟨h, by omega, by omega⟩
theorem haI_1 {k a : Nat} {f : Int → hM} {u : hS} (h : okk u a k) (h1 : 1 < hN u a) : haI k a 1 f u = f (hV u a 1) u := if_pos ⟨h, by omega, by omega⟩
theorem haI_2 {k a : Nat} {f : Int → hM} {u : hS} (h : okk u a k) (h1 : 2 < hN u a) : haI k a 2 f u = f (hV u a 2) u := if_pos ⟨h, by omega, by omega⟩
theorem haI_3 {k a : Nat} {f : Int → hM} {u : hS} (h : okk u a k) (h1 : 3 < hN u a) : haI k a 3 f u = f (hV u a 3) u := if_pos ⟨h, by omega, by omega⟩
theorem haI_4 {k a : Nat} {f : Int → hM} {u : hS} (h : okk u a k) (h1 : 4 < hN u a) : haI k a 4 f u = f (hV u a 4) u := if_pos ⟨h, by omega, by omega⟩
theorem haI_5 {k a : Nat} {f : Int → hM} {u : hS} (h : okk u a k) (h1 : 5 < hN u a) : haI k a 5 f u = f (hV u a 5) u := if_pos ⟨h, by omega, by omega⟩
theorem haI_6 {k a : Nat} {f : Int → hM} {u : hS} (h : okk u a k) (h1 : 6 < hN u a) : haI k a 6 f u = f (hV u a 6) u := if_pos ⟨h, by omega, by omega⟩
theorem haI_7 {k a : Nat} {f : Int → hM} {u : hS} (h : okk u a k) (h1 : 7 < hN u a) : haI k a 7 f u = f (hV u a 7) u := if_pos ⟨h, by omega, by omega⟩
theorem hsI_6 {k a : Nat} {x : Int} {f : hM} {u : hS} (h : okk u a k) (h1 : 6 < hN u a) : hsI k a 6 x f u = f (hsetV u a 6 x) := if_pos ⟨h, by omega, by omega⟩
theorem lt_c (a b : Nat) (h : Nat.blt a b = true) : a < b := by rw [Nat.blt_eq] at h; exact h
/-! indices -/
theorem w32_n {x : Int} {n : Nat} (h : x = n) (hn : n < 2147483648) : w32 x = n := by
  rw [w32_id ⟨by omega, by omega⟩, h]
theorem ix_s {i : Nat} (h : i < 1000000) : w32 ((i : Int) + 1) = ((i + 1 : Nat) : Int) := w32_n (by omega) (by omega)
theorem ix_9 {p b : Nat} (hp : p < 4) (hb : b < 9) : w32 (w32 ((p : Int) * 9) + b) = ((9 * p + b : Nat) : Int) := by
  rw [w32_n (x := (p : Int) * 9) (n := 9 * p) (by omega) (by omega)]
  exact w32_n (by omega) (by omega)
theorem ix_8 {p b : Nat} (hp : p < 8) (hb : b < 8) : w32 (w32 ((p : Int) * 8) + b) = ((8 * p + b : Nat) : Int) := by
  rw [w32_n (x := (p : Int) * 8) (n := 8 * p) (by omega) (by omega)]
  exact w32_n (by omega) (by omega)
theorem ix_10 {p : Nat} (hp : p < 4) : w32 (10 + w32 (3 * (p : Int))) = ((10 + 3 * p : Nat) : Int) := by
  rw [w32_n (x := 3 * (p : Int)) (n := 3 * p) (by omega) (by omega)]
  exact w32_n (by omega) (by omega)
theorem ix_n {a b : Nat} (h : a + b < 1000000) : w32 ((a : Int) + (b : Int)) = ((a + b : Nat) : Int) := w32_n (by omega) (by omega)
theorem ix_0 {a : Nat} (h : a < 1000000) : w32 ((a : Int) + 0) = ((a : Nat) : Int) := w32_n (by omega) (by omega)
theorem ix_2 {a : Nat} (h : a < 1000000) : w32 ((a : Int) + 2) = ((a + 2 : Nat) : Int) := w32_n (by omega) (by omega)
theorem ix_3 {a : Nat} (h : a < 1000000) : w32 ((a : Int) + 3) = ((a + 3 : Nat) : Int) := w32_n (by omega) (by omega)
theorem ix_22 {p : Nat} (hp : p < 4) : w32 (22 + w32 (9 * (p : Int))) = ((22 + 9 * p : Nat) : Int) := by
  rw [w32_n (x := 9 * (p : Int)) (n := 9 * p) (by omega) (by omega)]
  exact w32_n (by omega) (by omega)
theorem ix_58 {p : Nat} (hp : p < 4) : w32 (58 + w32 (9 * (p : Int))) = ((58 + 9 * p : Nat) : Int) := by
  rw [w32_n (x := 9 * (p : Int)) (n := 9 * p) (by omega) (by omega)]
  exact w32_n (by omega) (by omega)
theorem ix_94 {p : Nat} (hp : p < 9) : w32 (94 + w32 (2 * (p : Int))) = ((94 + 2 * p : Nat) : Int) := by
  rw [w32_n (x := 2 * (p : Int)) (n := 2 * p) (by omega) (by omega)]
  exact w32_n (by omega) (by omega)
theorem ix_112 {p : Nat} (hp : p < 4) : w32 (112 + w32 (2 * (p : Int))) = ((112 + 2 * p : Nat) : Int) := by
  rw [w32_n (x := 2 * (p : Int)) (n := 2 * p) (by omega) (by omega)]
  exact w32_n (by omega) (by omega)
theorem ix_120 {p : Nat} (hp : p < 4) : w32 (120 + w32 (2 * (p : Int))) = ((120 + 2 * p : Nat) : Int) := by
  rw [w32_n (x := 2 * (p : Int)) (n := 2 * p) (by omega) (by omega)]
  exact w32_n (by omega) (by omega)
theorem ix_128 {p : Nat} (hp : p < 8) : w32 (128 + w32 (4 * (p : Int))) = ((128 + 4 * p : Nat) : Int) := by
  rw [w32_n (x := 4 * (p : Int)) (n := 4 * p) (by omega) (by omega)]
  exact w32_n (by omega) (by omega)
/-! folds -/
def accN (g : Nat → Int → Int) : Nat → Nat → Int → Int
  | 0, _, a => a
  | k + 1, i, a => accN g k (i + 1) (g i a)
def anyN (P : Nat → Bool) : Nat → Nat → Int
  | 0, _ => 0
  | k + 1, i => if P i = true then 1 else anyN P k (i + 1)
theorem accN_s (g : Nat → Int → Int) (k i : Nat) (a : Int) : accN g (k + 1) i a = accN g k (i + 1) (g i a) := rfl
theorem anyN_s (P : Nat → Bool) (k i : Nat) : anyN P (k + 1) i = if P i = true then 1 else anyN P k (i + 1) := rfl
theorem anyN_01 (P : Nat → Bool) : ∀ k i, anyN P k i = 0 ∨ anyN P k i = 1
  | 0, _ => Or.inl rfl
  | k + 1, i => by
    unfold anyN
    split
    · exact Or.inr rfl
    · exact anyN_01 P k (i + 1)
/-! what the row of the reference tells -/
def qLeft (S : Nat → Int) (p b : Nat) : Int := w32 (S 1 - S (22 + 9 * p + b))
def qEnd (S : Nat → Int) (a : Nat) (q : Int) : Int := if S a = q then S (a + 1) else if S (a + 1) = q then S a else -1
def qFrost (S : Nat → Int) : Int := anyN (fun k => decide (S (120 + 2 * k) ≤ S 6 ∧ S 6 ≤ S (121 + 2 * k))) (S 7).toNat 0
def qLost (S : Nat → Int) (p : Nat) : Int := accN (fun b a => iorZ a (if qLeft S p b = 0 then ishlZ 1 b else 0)) (S 2).toNat 0 0
def qAll (S : Nat → Int) (b : Nat) : Int := accN (fun p a => w32 (a + S (22 + 9 * p + b))) (S 4).toNat 0 0
def qPaid (S : Nat → Int) : Int := accN (fun p a => w32 (a + S (12 + 3 * p))) (S 4).toNat 0 0
def qHome (S : Nat → Int) : Int := accN (fun p a => iorZ a (if S (10 + 3 * p) = S (11 + 3 * p) then ishlZ 1 p else 0)) (S 4).toNat 0 0
def qWant (S : Nat → Int) (p : Nat) : Int := accN (fun w a => if S (128 + 4 * w) = (p : Int) ∧ S 6 ≤ S (130 + 4 * w) ∧ (a < 0 ∨ S (130 + 4 * w) < S (130 + 4 * a.toNat)) then (w : Int) else a) (S 5).toNat 0 (-1)
def qGoal (S : Nat → Int) (p : Nat) : Int := if 0 ≤ qWant S p then S (129 + 4 * (qWant S p).toNat) else S (11 + 3 * p)
def qCan (S : Nat → Int) (p b : Nat) : Prop := 0 ≤ qEnd S (94 + 2 * b) (S (10 + 3 * p)) ∧ 0 < qLeft S p b
/-! ranges of the row -/
def WS (S : Nat → Int) : Prop :=
  (0 ≤ S 0 ∧ S 0 ≤ 8) ∧ (0 ≤ S 1 ∧ S 1 ≤ 9) ∧ (0 ≤ S 2 ∧ S 2 ≤ 9) ∧ (0 ≤ S 3 ∧ S 3 ≤ 4) ∧ (0 ≤ S 4 ∧ S 4 ≤ 4) ∧ (0 ≤ S 5 ∧ S 5 ≤ 8) ∧ (0 ≤ S 6 ∧ S 6 ≤ 999) ∧ (0 ≤ S 7 ∧ S 7 ≤ 4)
theorem y_isTown {u : hS} (hs : shp u) : m_X10_isTown 220 u = some (if hV u 230 0 ≤ 0 then 0 else 1, u) := by
  simp only [m_X10_isTown_L14, m_X10_isTown, hgI_k, hgR_k, hpI_k, hpR_k, hpZ_k, haI_k, haR_k, hsI_k, hsZ_k, hlen_k, hlet_e, hret_e, hretZ_0, hretZ_1, hif_e, okk_setV, okk_setF, nV, nF, fV, vF, haI_0, kk_220 hs, kk_230 hs, rf_220_20 hs, ln_230 hs, lt_c 0 160 rfl]
  split <;> rfl
theorem y_isQuarter {u : hS} (hs : shp u) (q : Int) : m_X10_isQuarter 220 q u = some (if 0 ≤ q ∧ q < hV u 230 0 then 1 else 0, u) := by
  simp only [m_X10_isQuarter_L19, m_X10_isQuarter_L18, m_X10_isQuarter, hgI_k, hgR_k, hpI_k, hpR_k, hpZ_k, haI_k, haR_k, hsI_k, hsZ_k, hlen_k, hlet_e, hret_e, hretZ_0, hretZ_1, hif_e, okk_setV, okk_setF, nV, nF, fV, vF, haI_0, kk_220 hs, kk_230 hs, rf_220_20 hs, ln_230 hs, lt_c 0 160 rfl]
  repeat' split
  all_goals first | rfl | omega
theorem y_isBridge {u : hS} (hs : shp u) (q : Int) : m_X10_isBridge 220 q u = some (if 0 ≤ q ∧ q < hV u 230 2 then 1 else 0, u) := by
  simp only [m_X10_isBridge_L19, m_X10_isBridge_L18, m_X10_isBridge, hgI_k, hgR_k, hpI_k, hpR_k, hpZ_k, haI_k, haR_k, hsI_k, hsZ_k, hlen_k, hlet_e, hret_e, hretZ_0, hretZ_1, hif_e, okk_setV, okk_setF, nV, nF, fV, vF, haI_2, kk_220 hs, kk_230 hs, rf_220_20 hs, ln_230 hs, lt_c 2 160 rfl]
  repeat' split
  all_goals first | rfl | omega
theorem y_isPerson {u : hS} (hs : shp u) (q : Int) : m_X10_isPerson 220 q u = some (if 0 ≤ q ∧ q < hV u 230 4 then 1 else 0, u) := by
  simp only [m_X10_isPerson_L19, m_X10_isPerson_L18, m_X10_isPerson, hgI_k, hgR_k, hpI_k, hpR_k, hpZ_k, haI_k, haR_k, hsI_k, hsZ_k, hlen_k, hlet_e, hret_e, hretZ_0, hretZ_1, hif_e, okk_setV, okk_setF, nV, nF, fV, vF, haI_4, kk_220 hs, kk_230 hs, rf_220_20 hs, ln_230 hs, lt_c 4 160 rfl]
  repeat' split
  all_goals first | rfl | omega
theorem iorZ_0 {a : Int} (h : inI a) : iorZ a 0 = a := by
  unfold iorZ
  rw [show Int32.ofInt 0 = 0 from rfl, Int32.or_zero]
  exact ofI_to h
