/-! the longest row of crossings -/
def lsA (L : Nat → Int) (b : Nat) : Nat → Int := sup L b (L b - 1)
theorem lsA_s (L : Nat → Int) (b : Nat) : lsA L b b = L b - 1 := sup_s
theorem lsA_n {L : Nat → Int} {b c : Nat} (h : c ≠ b) : lsA L b c = L c := sup_n h
theorem lsA_comm (L : Nat → Int) (i j : Nat) : lsA (lsA L i) j = lsA (lsA L j) i := by
  funext k
  unfold lsA
  by_cases e : i = j
  · subst e
    rfl
  · unfold sup
    by_cases h1 : k = i
    · by_cases h2 : k = j
      · omega
      · simp [h1, h2, e]
    · by_cases h2 : k = j
      · have e2 : ¬ j = i := fun z => e z.symm
        simp [h2, e2]
      · simp [h1, h2]
/-- a row of k crossings can be gone -/
def wkT (S : Nat → Int) (B : Nat) : Nat → Int → (Nat → Int) → Prop
  | 0, _, _ => True
  | k + 1, q, L => ∃ b, b < B ∧ (0 ≤ qEnd S (94 + 2 * b) q ∧ 0 < L b) ∧ wkT S B k (qEnd S (94 + 2 * b) q) (lsA L b)
theorem wkT_swap {S : Nat → Int} {B i j : Nat} (ij : i ≠ j) (hi : i < B) (e : ∀ q, qEnd S (94 + 2 * i) q = qEnd S (94 + 2 * j) q) : ∀ (k : Nat) (q : Int) (L : Nat → Int), 1 ≤ L i → 1 ≤ L j → wkT S B k q (lsA L i) → wkT S B k q (lsA L j) := by
  intro k
  induction k with
  | zero =>
    intro q L _ _ _
    trivial
  | succ k ih =>
    intro q L h1 h2 h
    obtain ⟨b, hb, ho, hw⟩ := h
    by_cases bi : b = i
    · subst bi
      rw [lsA_s] at ho
      refine ⟨b, hb, ⟨ho.1, by rw [lsA_n ij]; omega⟩, ?_⟩
      rw [lsA_comm]
      exact ih _ (lsA L b) (by rw [lsA_s]; omega) (by rw [lsA_n (Ne.symm ij)]; exact h2) hw
    · by_cases bj : b = j
      · subst bj
        refine ⟨i, hi, ⟨by rw [e]; exact ho.1, by rw [lsA_n ij]; omega⟩, ?_⟩
        rw [lsA_comm, e]
        exact hw
      · rw [lsA_n bi] at ho
        refine ⟨b, hb, ⟨ho.1, by rw [lsA_n bj]; exact ho.2⟩, ?_⟩
        rw [lsA_comm]
        rw [lsA_comm] at hw
        exact ih _ (lsA L b) (by rw [lsA_n (Ne.symm bi)]; exact h1) (by rw [lsA_n (Ne.symm bj)]; exact h2) hw
def upT (len q : Int) (z : Int × Int) : Int × Int := if z.1 < len then (len, q) else z
/-- the search, with a say in which bridges are tried -/
def stT (S : Nat → Int) (f : (Nat → Int) → Nat → Bool) (rc : Int → (Nat → Int) → Int × Int → Int × Int) (len q : Int) (L : Nat → Int) (i : Nat) (z : Int × Int) : Int × Int := if z.1 ≠ 8 ∧ 0 ≤ qEnd S (94 + 2 * i) q ∧ f L i = true then rc (qEnd S (94 + 2 * i) q) (lsA L i) (upT (len + 1) (qEnd S (94 + 2 * i) q) z) else z
def trC (S : Nat → Int) (f : (Nat → Int) → Nat → Bool) (rc : Int → (Nat → Int) → Int × Int → Int × Int) (len q : Int) (L : Nat → Int) : Nat → Nat → Int × Int → Int × Int
  | 0, _, z => z
  | k + 1, i, z => trC S f rc len q L k (i + 1) (stT S f rc len q L i z)
theorem trC_s (S : Nat → Int) (f : (Nat → Int) → Nat → Bool) (rc : Int → (Nat → Int) → Int × Int → Int × Int) (len q : Int) (L : Nat → Int) (k i : Nat) (z : Int × Int) : trC S f rc len q L (k + 1) i z = trC S f rc len q L k (i + 1) (stT S f rc len q L i z) := rfl
def trN (S : Nat → Int) (f : (Nat → Int) → Nat → Bool) (B : Nat) : Nat → Int → Int → (Nat → Int) → Int × Int → Int × Int
  | 0, _, _, _, z => z
  | d + 1, len, q, L, z => trC S f (trN S f B d (len + 1)) len q L B 0 z
theorem trN_s (S : Nat → Int) (f : (Nat → Int) → Nat → Bool) (B d : Nat) (len q : Int) (L : Nat → Int) (z : Int × Int) : trN S f B (d + 1) len q L z = trC S f (trN S f B d (len + 1)) len q L B 0 z := rfl
theorem trC_8 {S : Nat → Int} {f : (Nat → Int) → Nat → Bool} {rc : Int → (Nat → Int) → Int × Int → Int × Int} {len q : Int} {L : Nat → Int} {z : Int × Int} (h : z.1 = 8) : ∀ k i, trC S f rc len q L k i z = z := by
  intro k
  induction k with
  | zero =>
    intro i
    rfl
  | succ k ih =>
    intro i
    rw [trC_s]
    have e : stT S f rc len q L i z = z := by
      unfold stT
      rw [if_neg (fun y => y.1 h)]
    rw [e, ih]
theorem upT_in {len q : Int} {z : Int × Int} (h : z.1 ≤ 8) (l : len ≤ 8) : z.1 ≤ (upT len q z).1 ∧ len ≤ (upT len q z).1 ∧ (upT len q z).1 ≤ 8 := by
  unfold upT
  split
  · rename_i y
    exact ⟨Int.le_of_lt y, Int.le_refl _, l⟩
  · rename_i y
    exact ⟨Int.le_refl _, by omega, h⟩
theorem trN_mono {S : Nat → Int} {f : (Nat → Int) → Nat → Bool} {B : Nat} : ∀ (d : Nat) (len q : Int) (L : Nat → Int) (z : Int × Int), len + d ≤ 8 → z.1 ≤ 8 → z.1 ≤ (trN S f B d len q L z).1 ∧ (trN S f B d len q L z).1 ≤ 8 := by
  intro d
  induction d with
  | zero =>
    intro len q L z _ h
    exact ⟨Int.le_refl _, h⟩
  | succ d ih =>
    intro len q L z hl h
    rw [trN_s]
    have C : ∀ k i (z : Int × Int), z.1 ≤ 8 → z.1 ≤ (trC S f (trN S f B d (len + 1)) len q L k i z).1 ∧ (trC S f (trN S f B d (len + 1)) len q L k i z).1 ≤ 8 := by
      intro k
      induction k with
      | zero =>
        intro i z h
        exact ⟨Int.le_refl _, h⟩
      | succ k ihk =>
        intro i z h
        rw [trC_s]
        have s : z.1 ≤ (stT S f (trN S f B d (len + 1)) len q L i z).1 ∧ (stT S f (trN S f B d (len + 1)) len q L i z).1 ≤ 8 := by
          unfold stT
          split
          · have u := upT_in (len := len + 1) (q := qEnd S (94 + 2 * i) q) h (by omega)
            have y := ih (len + 1) (qEnd S (94 + 2 * i) q) (lsA L i) (upT (len + 1) (qEnd S (94 + 2 * i) q) z) (by omega) u.2.2
            omega
          · exact ⟨Int.le_refl _, h⟩
        have y := ihk (i + 1) _ s.2
        omega
    exact C B 0 z h
def opF (L : Nat → Int) (b : Nat) : Bool := decide (0 < L b)
/-- nothing longer is there: nothing changes -/
theorem trN_keep {S : Nat → Int} {B : Nat} : ∀ (d : Nat) (len q : Int) (L : Nat → Int) (z : Int × Int), (∀ k, k ≤ d → wkT S B k q L → len + k ≤ z.1) → trN S opF B d len q L z = z := by
  intro d
  induction d with
  | zero =>
    intro len q L z _
    rfl
  | succ d ih =>
    intro len q L z h
    rw [trN_s]
    have C : ∀ k i, i + k = B → trC S opF (trN S opF B d (len + 1)) len q L k i z = z := by
      intro k
      induction k with
      | zero =>
        intro i _
        rfl
      | succ k ihk =>
        intro i hi
        rw [trC_s]
        have s : stT S opF (trN S opF B d (len + 1)) len q L i z = z := by
          unfold stT
          by_cases c : z.1 ≠ 8 ∧ 0 ≤ qEnd S (94 + 2 * i) q ∧ opF L i = true
          · rw [if_pos c]
            have o := of_decide_eq_true c.2.2
            have h1 := h 1 (by omega) ⟨i, by omega, ⟨c.2.1, o⟩, trivial⟩
            have u : upT (len + 1) (qEnd S (94 + 2 * i) q) z = z := by
              unfold upT
              rw [if_neg (by omega)]
            rw [u]
            refine ih _ _ _ _ (fun k hk hw => ?_)
            have y := h (k + 1) (by omega) ⟨i, by omega, ⟨c.2.1, o⟩, hw⟩
            omega
          · rw [if_neg c]
        rw [s, ihk (i + 1) (by omega)]
    exact C B 0 (by omega)
/-- a row that is there is found, or one as long -/
theorem trN_get {S : Nat → Int} {B : Nat} : ∀ (d : Nat) (len q : Int) (L : Nat → Int) (z : Int × Int), len + d ≤ 8 → z.1 ≤ 8 → len ≤ z.1 → ∀ k : Nat, k ≤ d → wkT S B k q L → len + k ≤ (trN S opF B d len q L z).1 := by
  intro d
  induction d with
  | zero =>
    intro len q L z _ _ h k hk _
    show len + k ≤ z.1
    omega
  | succ d ih =>
    intro len q L z hl h8 hz k hk hw
    cases k with
    | zero =>
      have m := trN_mono (S := S) (f := opF) (B := B) (d + 1) len q L z hl h8
      omega
    | succ k =>
      obtain ⟨b, hb, ho, hw⟩ := hw
      rw [trN_s]
      have C : ∀ m i (z : Int × Int), z.1 ≤ 8 → len ≤ z.1 → i + m = B → (i ≤ b ∨ len + ((k + 1 : Nat) : Int) ≤ z.1) → len + ((k + 1 : Nat) : Int) ≤ (trC S opF (trN S opF B d (len + 1)) len q L m i z).1 := by
        intro m
        induction m with
        | zero =>
          intro i z _ _ hi hh
          rcases hh with hh | hh
          · omega
          · exact hh
        | succ m ihm =>
          intro i z h8 hz hi hh
          rw [trC_s]
          have mo : z.1 ≤ (stT S opF (trN S opF B d (len + 1)) len q L i z).1 ∧ (stT S opF (trN S opF B d (len + 1)) len q L i z).1 ≤ 8 := by
            unfold stT
            split
            · have u := upT_in (len := len + 1) (q := qEnd S (94 + 2 * i) q) h8 (by omega)
              have y := trN_mono (S := S) (f := opF) (B := B) d (len + 1) (qEnd S (94 + 2 * i) q) (lsA L i) (upT (len + 1) (qEnd S (94 + 2 * i) q) z) (by omega) u.2.2
              omega
            · exact ⟨Int.le_refl _, h8⟩
          refine ihm (i + 1) _ mo.2 (by omega) (by omega) ?_
          by_cases ib : i = b
          · refine Or.inr ?_
            subst ib
            by_cases z8 : z.1 = 8
            · omega
            · unfold stT
              rw [if_pos ⟨z8, ho.1, decide_eq_true ho.2⟩]
              have u := upT_in (len := len + 1) (q := qEnd S (94 + 2 * i) q) h8 (by omega)
              have y := ih (len + 1) (qEnd S (94 + 2 * i) q) (lsA L i) (upT (len + 1) (qEnd S (94 + 2 * i) q) z) (by omega) u.2.2 u.2.1 k (by omega) hw
              omega
          · rcases hh with hh | hh
            · exact Or.inl (by omega)
            · exact Or.inr (by omega)
      exact C B 0 z h8 hz (by omega) (Or.inl (by omega))
/-- twins: of bridges between the same two quarters the first open one does -/
def isTw (S : Nat → Int) (c b : Nat) : Prop := ∀ q, qEnd S (94 + 2 * c) q = qEnd S (94 + 2 * b) q
theorem trN_tw {S : Nat → Int} {B : Nat} {g : (Nat → Int) → Nat → Bool} (g1 : ∀ L b, b < B → g L b = true → 0 < L b) (g2 : ∀ L b, b < B → 0 < L b → g L b = false → ∃ c, c < b ∧ isTw S c b ∧ 0 < L c) : ∀ (d : Nat) (len q : Int) (L : Nat → Int) (z : Int × Int), len + d ≤ 8 → z.1 ≤ 8 → len ≤ z.1 → trN S g B d len q L z = trN S opF B d len q L z := by
  intro d
  induction d with
  | zero =>
    intro len q L z _ _ _
    rfl
  | succ d ih =>
    intro len q L z hl h8 hz
    rw [trN_s, trN_s]
    have C : ∀ m i (z : Int × Int), z.1 ≤ 8 → len ≤ z.1 → i + m = B → (∀ b, b < i → 0 ≤ qEnd S (94 + 2 * b) q → 0 < L b → ∀ k, k ≤ d → wkT S B k (qEnd S (94 + 2 * b) q) (lsA L b) → len + 1 + k ≤ z.1) → trC S g (trN S g B d (len + 1)) len q L m i z = trC S opF (trN S opF B d (len + 1)) len q L m i z := by
      intro m
      induction m with
      | zero =>
        intro i z _ _ _ _
        rfl
      | succ m ihm =>
        intro i z h8 hz hi hh
        rw [trC_s, trC_s]
        have iB : i < B := by omega
        have mo : z.1 ≤ (stT S opF (trN S opF B d (len + 1)) len q L i z).1 ∧ (stT S opF (trN S opF B d (len + 1)) len q L i z).1 ≤ 8 := by
          unfold stT
          split
          · have u := upT_in (len := len + 1) (q := qEnd S (94 + 2 * i) q) h8 (by omega)
            have y := trN_mono (S := S) (f := opF) (B := B) d (len + 1) (qEnd S (94 + 2 * i) q) (lsA L i) (upT (len + 1) (qEnd S (94 + 2 * i) q) z) (by omega) u.2.2
            omega
          · exact ⟨Int.le_refl _, h8⟩
        have same : stT S g (trN S g B d (len + 1)) len q L i z = stT S opF (trN S opF B d (len + 1)) len q L i z := by
          unfold stT
          by_cases z8 : z.1 ≠ 8
          case neg =>
            rw [if_neg (fun y => z8 y.1), if_neg (fun y => z8 y.1)]
          by_cases q0 : 0 ≤ qEnd S (94 + 2 * i) q
          case neg =>
            rw [if_neg (fun y => q0 y.2.1), if_neg (fun y => q0 y.2.1)]
          by_cases o : 0 < L i
          case neg =>
            rw [if_neg (fun y => o (g1 L i iB y.2.2)), if_neg (fun y => o (of_decide_eq_true y.2.2))]
          have u := upT_in (len := len + 1) (q := qEnd S (94 + 2 * i) q) h8 (by omega)
          rw [if_pos (show z.1 ≠ 8 ∧ 0 ≤ qEnd S (94 + 2 * i) q ∧ opF L i = true from ⟨z8, q0, decide_eq_true o⟩)]
          cases hg : g L i with
          | true =>
            rw [if_pos ⟨z8, q0, rfl⟩]
            exact ih (len + 1) _ _ _ (by omega) u.2.2 u.2.1
          | false =>
            rw [if_neg (fun y => absurd y.2.2 (by decide))]
            obtain ⟨c, c1, c2, c3⟩ := g2 L i iB o hg
            have tw : ∀ k, k ≤ d → wkT S B k (qEnd S (94 + 2 * i) q) (lsA L i) → len + 1 + k ≤ z.1 := fun k hk hw => by
              refine hh c c1 (by rw [c2 q]; exact q0) c3 k hk ?_
              rw [c2 q]
              exact wkT_swap (show i ≠ c by omega) iB (fun q => (c2 q).symm) k _ L (by omega) (by omega) hw
            have l1 := tw 0 (by omega) trivial
            have uz : upT (len + 1) (qEnd S (94 + 2 * i) q) z = z := by
              unfold upT
              rw [if_neg (by omega)]
            rw [uz]
            exact (trN_keep d (len + 1) _ _ z tw).symm
        rw [same]
        refine ihm (i + 1) _ mo.2 (by omega) (by omega) (fun b hb hq ho k hk hw => ?_)
        by_cases bi : b = i
        · subst bi
          by_cases z8 : z.1 = 8
          · omega
          · unfold stT
            rw [if_pos ⟨z8, hq, decide_eq_true ho⟩]
            have u := upT_in (len := len + 1) (q := qEnd S (94 + 2 * b) q) h8 (by omega)
            exact trN_get d (len + 1) _ _ _ (by omega) u.2.2 u.2.1 k hk hw
        · have y := hh b (by omega) hq ho k hk hw
          omega
    exact C B 0 z h8 hz (by omega) (fun b hb => by omega)
