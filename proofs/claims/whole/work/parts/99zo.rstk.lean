/-! the reference's open marks -/
def stk (O : Nat → Int) : List Int → Prop
  | [] => True
  | x :: s => O s.length = x ∧ stk O s
theorem stk_o {O : Nat → Int} {i : Nat} {x : Int} : ∀ s : List Int, s.length ≤ i → stk O s → stk (sup O i x) s := by
  intro s
  induction s with
  | nil => exact fun _ _ => trivial
  | cons y s ih =>
    intro l h
    rw [List.length_cons] at l
    exact ⟨by rw [sup_n (by omega)]; exact h.1, ih (by omega) h.2⟩
theorem stk_p {O : Nat → Int} {s : List Int} (h : stk O s) (x : Int) : stk (sup O s.length x) (x :: s) := ⟨sup_s, stk_o s (Nat.le_refl _) h⟩
def str (x : Int) : Int := if x = 13 then 1 else if x = 12 then 2 else if x = 11 then 3 else 0
theorem y_strength (x : Int) (u : hS) : m_X10_strength x u = some (str x, u) := by
  unfold m_X10_strength m_X10_strength_L31 str
  by_cases h1 : x = 13
  · rw [hif_p, if_neg (fun z => z h1), if_pos h1]
    rfl
  · rw [hif_p, if_pos h1, if_neg h1, hif_p]
    by_cases h2 : x = 12
    · rw [if_neg (fun z => z h2), if_pos h2]
      rfl
    · rw [if_pos h2, if_neg h2, hif_p]
      by_cases h3 : x = 11
      · rw [if_neg (fun z => z h3), if_pos h3]
        rfl
      · rw [if_pos h3, if_neg h3]
        rfl
/-- settling: signs, their number, the depth, the marks left -/
def sRes (r : Nat) (lv : Int) : List Int → (Nat → Int) → Nat → Int → (Nat → Int) × Nat × Int × List Int
  | [], Z, M, dp => (Z, M, dp, [])
  | x :: s, Z, M, dp => if str x < lv then (Z, M, dp, x :: s) else sRes r lv s (sup Z (400 * r + M) (w32 (x + w32 (16 * 0)))) (M + 1) (if x = 11 then dp - 1 else dp)
theorem sRes_n (r : Nat) (lv : Int) (Z : Nat → Int) (M : Nat) (dp : Int) : sRes r lv [] Z M dp = (Z, M, dp, []) := rfl
theorem sRes_s {r : Nat} {lv : Int} {x : Int} {s : List Int} {Z : Nat → Int} {M : Nat} {dp : Int} (h : str x < lv) : sRes r lv (x :: s) Z M dp = (Z, M, dp, x :: s) := if_pos h
theorem sRes_p {r : Nat} {lv : Int} {x : Int} {s : List Int} {Z : Nat → Int} {M : Nat} {dp : Int} (h : ¬ str x < lv) : sRes r lv (x :: s) Z M dp = sRes r lv s (sup Z (400 * r + M) (w32 (x + w32 (16 * 0)))) (M + 1) (if x = 11 then dp - 1 else dp) := if_neg h
/-- how deep the marks say we are -/
def dpc : List Int → Nat
  | [] => 0
  | x :: s => (if x = 11 ∨ x = 91 then 1 else 0) + dpc s
theorem y_settL {n : Nat} {B : Nat → Int} {v : hS} (h : rTp n B v) {r : Nat} (h11 : hV v 220 11 = (r : Int)) (r6 : r < 6) (lv : Int) (O : Nat → Int) (k p w m : Int) : ∀ (s : List Int) (F : Nat) (Z : Nat → Int) (M : Nat) (dp : Nat), stk O s → s.length < F → M + s.length ≤ 400 → dpc s ≤ dp → dp ≤ 400 → m_X10_settles_L0 F 220 lv (rS (RX v r Z M O k (dp : Int) (s.length : Int)) p w m) = some (0, rS (RX v r (sRes r lv s Z M dp).1 ((sRes r lv s Z M dp).2.1 : Int) O k (sRes r lv s Z M dp).2.2.1 ((sRes r lv s Z M dp).2.2.2.length : Int)) p w m) := by
  intro s
  induction s with
  | nil =>
    intro F Z M dp so hF hM hd hd4
    obtain ⟨F, rfl⟩ : ∃ j, F = j + 1 := ⟨F - 1, by simp only [List.length_nil] at hF; omega⟩
    rw [m_X10_settles_L0, X_g16 h, hif_p, if_pos (by show ((0 : Nat) : Int) ≤ 0; omega)]
    rfl
  | cons x s ih =>
    intro F Z M dp so hF hM hd hd4
    rw [List.length_cons] at hF hM
    obtain ⟨F, rfl⟩ : ∃ j, F = j + 1 := ⟨F - 1, by omega⟩
    have l4 : s.length < 400 := by omega
    have o1 : True → w32 ((((x :: s).length : Nat) : Int) - 1) = ((s.length : Nat) : Int) := fun _ => w32_n (by rw [List.length_cons]; omega) (by omega)
    have M4 : M < 400 := by omega
    rw [m_X10_settles_L0, X_g16 h, hif_p, if_neg (by rw [List.length_cons]; omega), X_r15 h, X_g16 h, o1 trivial, X_a227 h l4, so.1, hcall_b, y_strength, hbind_p, hif_p]
    by_cases z : str x < lv
    · rw [if_pos z, sRes_s z]
      rfl
    · rw [if_neg z, sRes_p z, X_g16 h, X_p16 h, o1 trivial, X_r15 h, X_g16 h, X_a227 h l4, so.1, X_cv h, y_puts h h11 r6 Z M4, hbind_p, X_r15 h, X_g16 h, X_a227 h l4, so.1, hif_p]
      by_cases y : x = 11
      · have d1 : dpc (x :: s) = 1 + dpc s := by
          show (if x = 11 ∨ x = 91 then 1 else 0) + dpc s = _
          rw [if_pos (.inl y)]
        have o2 : w32 ((dp : Int) - 1) = ((dp - 1 : Nat) : Int) := w32_n (by omega) (by omega)
        have o3 : (dp : Int) - 1 = ((dp - 1 : Nat) : Int) := by omega
        rw [if_neg (fun q => q y), if_pos y, X_g13 h, X_p13 h, o2, o3]
        exact ih F _ (M + 1) (dp - 1) so.2 (by omega) (by omega) (by omega) (by omega)
      · have d1 : dpc s ≤ dpc (x :: s) := by
          show dpc s ≤ (if x = 11 ∨ x = 91 then 1 else 0) + dpc s
          omega
        rw [if_pos y, if_neg y]
        exact ih F _ (M + 1) dp so.2 (by omega) (by omega) (by omega) hd4
theorem y_settles {n : Nat} {B : Nat → Int} {v : hS} (h : rTp n B v) {r : Nat} (h11 : hV v 220 11 = (r : Int)) (r6 : r < 6) (lv : Int) (O : Nat → Int) (k p w m : Int) {s : List Int} {Z : Nat → Int} {M dp : Nat} (so : stk O s) (hMs : M + s.length ≤ 400) (hd : dpc s ≤ dp) (hd4 : dp ≤ 400) : m_X10_settles 220 lv (rS (RX v r Z M O k (dp : Int) (s.length : Int)) p w m) = some (0, rS (RX v r (sRes r lv s Z M dp).1 ((sRes r lv s Z M dp).2.1 : Int) O k (sRes r lv s Z M dp).2.2.1 ((sRes r lv s Z M dp).2.2.2.length : Int)) p w m) := y_settL h h11 r6 lv O k p w m s 1000000000 Z M dp so (by omega) hMs hd hd4
theorem y_insL {n : Nat} {B : Nat → Int} {v : hS} (h : rTp n B v) {r : Nat} (O : Nat → Int) (Z : Nat → Int) (M k dp p w m : Int) (s : List Int) (l4 : s.length ≤ 400) : ∀ (d F i : Nat), d < F → i + d = s.length → ((∃ j, i ≤ j ∧ j < s.length ∧ O j = 91) → m_X10_isInside_L2 F 220 (i : Int) (rS (RX v r Z M O k dp (s.length : Int)) p w m) = some (1, rS (RX v r Z M O k dp (s.length : Int)) p w m)) ∧ (¬ (∃ j, i ≤ j ∧ j < s.length ∧ O j = 91) → m_X10_isInside_L2 F 220 (i : Int) (rS (RX v r Z M O k dp (s.length : Int)) p w m) = some (0, rS (RX v r Z M O k dp (s.length : Int)) p w m)) := by
  intro d
  induction d with
  | zero =>
    intro F i hF hi
    obtain ⟨F, rfl⟩ : ∃ j, F = j + 1 := ⟨F - 1, by omega⟩
    refine ⟨fun ⟨j, h1, h2, _⟩ => by omega, fun _ => ?_⟩
    rw [m_X10_isInside_L2, X_g16 h, hif_p, if_pos (by omega), hretZ_0]
  | succ d ih =>
    intro F i hF hi
    obtain ⟨F, rfl⟩ : ∃ j, F = j + 1 := ⟨F - 1, by omega⟩
    have I := ih F (i + 1) (by omega) (by omega)
    rw [m_X10_isInside_L2, X_g16 h, hif_p, if_neg (by omega), X_r15 h, X_a227 h (show i < 400 by omega), hif_p]
    by_cases z : O i = 91
    · rw [if_neg (fun y => y z), hretZ_1]
      exact ⟨fun _ => rfl, fun y => absurd ⟨i, by omega, by omega, z⟩ y⟩
    · rw [if_pos z, hlet_p, ix_s (by omega)]
      refine ⟨fun ⟨j, h1, h2, h3⟩ => I.1 ⟨j, ?_, h2, h3⟩, fun y => I.2 (fun ⟨j, h1, h2, h3⟩ => y ⟨j, by omega, h2, h3⟩)⟩
      by_cases y : j = i
      · subst y
        exact absurd h3 z
      · omega
theorem stk_in {O : Nat → Int} : ∀ s : List Int, stk O s → ((∃ j, 0 ≤ j ∧ j < s.length ∧ O j = 91) ↔ 91 ∈ s) := by
  intro s
  induction s with
  | nil => exact fun _ => ⟨fun ⟨j, _, h, _⟩ => by simp only [List.length_nil] at h; omega, fun h => absurd h (by simp)⟩
  | cons x s ih =>
    intro so
    have i := ih so.2
    constructor
    · intro ⟨j, h1, h2, h3⟩
      rw [List.length_cons] at h2
      by_cases y : j = s.length
      · subst y
        rw [so.1] at h3
        rw [h3]
        exact List.mem_cons_self
      · exact List.mem_cons_of_mem _ (i.1 ⟨j, h1, by omega, h3⟩)
    · intro hm
      rcases List.mem_cons.mp hm with e | e
      · exact ⟨s.length, by omega, by rw [List.length_cons]; omega, by rw [so.1]; exact e.symm⟩
      · obtain ⟨j, h1, h2, h3⟩ := i.2 e
        exact ⟨j, h1, by rw [List.length_cons]; omega, h3⟩
theorem y_inside {n : Nat} {B : Nat → Int} {v : hS} (h : rTp n B v) {r : Nat} {O : Nat → Int} (Z : Nat → Int) (M k dp p w m : Int) {s : List Int} (so : stk O s) (l4 : s.length ≤ 400) : m_X10_isInside 220 (rS (RX v r Z M O k dp (s.length : Int)) p w m) = some (if 91 ∈ s then 1 else 0, rS (RX v r Z M O k dp (s.length : Int)) p w m) := by
  unfold m_X10_isInside
  rw [hlet_p]
  have I := y_insL h O Z M k dp p w m s l4 (r := r) s.length 1000000000 0 (by omega) (by omega)
  by_cases z : 91 ∈ s
  · rw [if_pos z]
    exact I.1 ((stk_in s so).2 z)
  · rw [if_neg z]
    exact I.2 (fun y => z ((stk_in s so).1 y))
