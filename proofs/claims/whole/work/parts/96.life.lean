/-! the best row of days -/
abbrev lZ : Type := Int × (Nat → Int)
/-- d days more earn v and end at home -/
def wkL (S : Nat → Int) (B : Nat) (G : Nat → Int → Int) (h : Int) : Nat → Nat → Int → (Nat → Int) → Int → Prop
  | 0, _, q, _, v => q = h ∧ v = 0
  | d + 1, k, q, L, v => (∃ v', v = G k q + v' ∧ wkL S B G h d (k + 1) q L v') ∨ ∃ b v', b < B ∧ (0 ≤ qEnd S (94 + 2 * b) q ∧ 0 < L b) ∧ v = G k (qEnd S (94 + 2 * b) q) + v' ∧ wkL S B G h d (k + 1) (qEnd S (94 + 2 * b) q) (lsA L b) v'
theorem wkL_swap {S : Nat → Int} {B i j : Nat} {G : Nat → Int → Int} {h : Int} (ij : i ≠ j) (hi : i < B) (e : ∀ q, qEnd S (94 + 2 * i) q = qEnd S (94 + 2 * j) q) : ∀ (d k : Nat) (q : Int) (L : Nat → Int) (v : Int), 1 ≤ L i → 1 ≤ L j → wkL S B G h d k q (lsA L i) v → wkL S B G h d k q (lsA L j) v := by
  intro d
  induction d with
  | zero =>
    intro k q L v _ _ h
    exact h
  | succ d ih =>
    intro k q L v h1 h2 h
    rcases h with ⟨v', e1, hw⟩ | ⟨b, v', hb, ho, e1, hw⟩
    · exact Or.inl ⟨v', e1, ih (k + 1) q L v' h1 h2 hw⟩
    · refine Or.inr ?_
      by_cases bi : b = i
      · subst bi
        rw [lsA_s] at ho
        refine ⟨b, v', hb, ⟨ho.1, by rw [lsA_n ij]; omega⟩, e1, ?_⟩
        rw [lsA_comm]
        exact ih (k + 1) _ (lsA L b) v' (by rw [lsA_s]; omega) (by rw [lsA_n (Ne.symm ij)]; exact h2) hw
      · by_cases bj : b = j
        · subst bj
          refine ⟨i, v', hi, ⟨by rw [e]; exact ho.1, by rw [lsA_n ij]; omega⟩, by rw [e]; exact e1, ?_⟩
          rw [lsA_comm, e]
          exact hw
        · rw [lsA_n bi] at ho
          refine ⟨b, v', hb, ⟨ho.1, by rw [lsA_n bj]; exact ho.2⟩, e1, ?_⟩
          rw [lsA_comm]
          rw [lsA_comm] at hw
          exact ih (k + 1) _ (lsA L b) v' (by rw [lsA_n (Ne.symm bi)]; exact h1) (by rw [lsA_n (Ne.symm bj)]; exact h2) hw
def lfL (h q e : Int) (r : Nat → Int) (z : lZ) : lZ := if q = h ∧ z.1 < e then (e, r) else z
abbrev lRc : Type := Int → (Nat → Int) → Int → (Nat → Int) → lZ → lZ
def stL (S : Nat → Int) (G : Nat → Int → Int) (f : (Nat → Int) → Nat → Bool) (c : Nat → Int → Int → Int → Bool) (rc : lRc) (k : Nat) (q : Int) (L : Nat → Int) (e : Int) (r : Nat → Int) (i : Nat) (z : lZ) : lZ := if 0 ≤ qEnd S (94 + 2 * i) q ∧ f L i = true ∧ c k (qEnd S (94 + 2 * i) q) e z.1 = true then rc (qEnd S (94 + 2 * i) q) (lsA L i) (e + G k (qEnd S (94 + 2 * i) q)) (sup r k (i : Int)) z else z
def liC (S : Nat → Int) (G : Nat → Int → Int) (f : (Nat → Int) → Nat → Bool) (c : Nat → Int → Int → Int → Bool) (rc : lRc) (k : Nat) (q : Int) (L : Nat → Int) (e : Int) (r : Nat → Int) : Nat → Nat → lZ → lZ
  | 0, _, z => z
  | m + 1, i, z => liC S G f c rc k q L e r m (i + 1) (stL S G f c rc k q L e r i z)
theorem liC_s (S : Nat → Int) (G : Nat → Int → Int) (f : (Nat → Int) → Nat → Bool) (c : Nat → Int → Int → Int → Bool) (rc : lRc) (k : Nat) (q : Int) (L : Nat → Int) (e : Int) (r : Nat → Int) (m i : Nat) (z : lZ) : liC S G f c rc k q L e r (m + 1) i z = liC S G f c rc k q L e r m (i + 1) (stL S G f c rc k q L e r i z) := rfl
def stay (G : Nat → Int → Int) (c : Nat → Int → Int → Int → Bool) (rc : lRc) (k : Nat) (q : Int) (L : Nat → Int) (e : Int) (r : Nat → Int) (z : lZ) : lZ := if c k q e z.1 = true then rc q L (e + G k q) (sup r k (-1)) z else z
def liN (S : Nat → Int) (B : Nat) (G : Nat → Int → Int) (h : Int) (f : (Nat → Int) → Nat → Bool) (c : Nat → Int → Int → Int → Bool) : Nat → Nat → Int → (Nat → Int) → Int → (Nat → Int) → lZ → lZ
  | 0, _, q, _, e, r, z => lfL h q e r z
  | d + 1, k, q, L, e, r, z => liC S G f c (liN S B G h f c d (k + 1)) k q L e r B 0 (stay G c (liN S B G h f c d (k + 1)) k q L e r z)
theorem liN_s (S : Nat → Int) (B : Nat) (G : Nat → Int → Int) (h : Int) (f : (Nat → Int) → Nat → Bool) (c : Nat → Int → Int → Int → Bool) (d k : Nat) (q : Int) (L : Nat → Int) (e : Int) (r : Nat → Int) (z : lZ) : liN S B G h f c (d + 1) k q L e r z = liC S G f c (liN S B G h f c d (k + 1)) k q L e r B 0 (stay G c (liN S B G h f c d (k + 1)) k q L e r z) := rfl
theorem liN_mono {S : Nat → Int} {B : Nat} {G : Nat → Int → Int} {h : Int} {f : (Nat → Int) → Nat → Bool} {c : Nat → Int → Int → Int → Bool} : ∀ (d k : Nat) (q : Int) (L : Nat → Int) (e : Int) (r : Nat → Int) (z : lZ), z.1 ≤ (liN S B G h f c d k q L e r z).1 := by
  intro d
  induction d with
  | zero =>
    intro k q L e r z
    show z.1 ≤ (lfL h q e r z).1
    unfold lfL
    split
    · rename_i y
      exact Int.le_of_lt y.2
    · exact Int.le_refl _
  | succ d ih =>
    intro k q L e r z
    rw [liN_s]
    have C : ∀ m i (z : lZ), z.1 ≤ (liC S G f c (liN S B G h f c d (k + 1)) k q L e r m i z).1 := by
      intro m
      induction m with
      | zero =>
        intro i z
        exact Int.le_refl _
      | succ m ihm =>
        intro i z
        rw [liC_s]
        have s : z.1 ≤ (stL S G f c (liN S B G h f c d (k + 1)) k q L e r i z).1 := by
          unfold stL
          split
          · exact ih _ _ _ _ _ _
          · exact Int.le_refl _
        exact Int.le_trans s (ihm (i + 1) _)
    have s : z.1 ≤ (stay G c (liN S B G h f c d (k + 1)) k q L e r z).1 := by
      unfold stay
      split
      · exact ih _ _ _ _ _ _
      · exact Int.le_refl _
    exact Int.le_trans s (C B 0 _)
def ctT : Nat → Int → Int → Int → Bool := fun _ _ _ _ => true
theorem liN_keep {S : Nat → Int} {B : Nat} {G : Nat → Int → Int} {h : Int} : ∀ (d k : Nat) (q : Int) (L : Nat → Int) (e : Int) (r : Nat → Int) (z : lZ), (∀ v, wkL S B G h d k q L v → e + v ≤ z.1) → liN S B G h opF ctT d k q L e r z = z := by
  intro d
  induction d with
  | zero =>
    intro k q L e r z hh
    show lfL h q e r z = z
    unfold lfL
    rw [if_neg (fun y => by
      have := hh 0 ⟨y.1, rfl⟩
      omega)]
  | succ d ih =>
    intro k q L e r z hh
    rw [liN_s]
    have s : stay G ctT (liN S B G h opF ctT d (k + 1)) k q L e r z = z := by
      unfold stay
      rw [if_pos (show ctT k q e z.1 = true from rfl)]
      refine ih (k + 1) q L _ _ z (fun v hv => ?_)
      have := hh (G k q + v) (Or.inl ⟨v, rfl, hv⟩)
      omega
    rw [s]
    have C : ∀ m i, i + m = B → liC S G opF ctT (liN S B G h opF ctT d (k + 1)) k q L e r m i z = z := by
      intro m
      induction m with
      | zero =>
        intro i _
        rfl
      | succ m ihm =>
        intro i hi
        rw [liC_s]
        have y : stL S G opF ctT (liN S B G h opF ctT d (k + 1)) k q L e r i z = z := by
          unfold stL
          by_cases cc : 0 ≤ qEnd S (94 + 2 * i) q ∧ opF L i = true ∧ ctT k (qEnd S (94 + 2 * i) q) e z.1 = true
          · rw [if_pos cc]
            refine ih (k + 1) _ _ _ _ z (fun v hv => ?_)
            have := hh (G k (qEnd S (94 + 2 * i) q) + v) (Or.inr ⟨i, v, by omega, ⟨cc.1, of_decide_eq_true cc.2.1⟩, rfl, hv⟩)
            omega
          · rw [if_neg cc]
        rw [y, ihm (i + 1) (by omega)]
    exact C B 0 (by omega)
theorem liN_get {S : Nat → Int} {B : Nat} {G : Nat → Int → Int} {h : Int} : ∀ (d k : Nat) (q : Int) (L : Nat → Int) (e : Int) (r : Nat → Int) (z : lZ) (v : Int), wkL S B G h d k q L v → e + v ≤ (liN S B G h opF ctT d k q L e r z).1 := by
  intro d
  induction d with
  | zero =>
    intro k q L e r z v hw
    obtain ⟨h1, h2⟩ := hw
    show e + v ≤ (lfL h q e r z).1
    unfold lfL
    by_cases y : q = h ∧ z.1 < e
    · rw [if_pos y]
      show e + v ≤ e
      omega
    · rw [if_neg y]
      by_cases y2 : z.1 < e
      · exact absurd ⟨h1, y2⟩ y
      · omega
  | succ d ih =>
    intro k q L e r z v hw
    rw [liN_s]
    have mo : ∀ m i (z : lZ), z.1 ≤ (liC S G opF ctT (liN S B G h opF ctT d (k + 1)) k q L e r m i z).1 := by
      intro m
      induction m with
      | zero =>
        intro i z
        exact Int.le_refl _
      | succ m ihm =>
        intro i z
        rw [liC_s]
        have s : z.1 ≤ (stL S G opF ctT (liN S B G h opF ctT d (k + 1)) k q L e r i z).1 := by
          unfold stL
          split
          · exact liN_mono _ _ _ _ _ _ _
          · exact Int.le_refl _
        exact Int.le_trans s (ihm (i + 1) _)
    rcases hw with ⟨v', e1, hw⟩ | ⟨b, v', hb, ho, e1, hw⟩
    · have s : e + v ≤ (stay G ctT (liN S B G h opF ctT d (k + 1)) k q L e r z).1 := by
        unfold stay
        rw [if_pos (show ctT k q e z.1 = true from rfl)]
        have := ih (k + 1) q L (e + G k q) (sup r k (-1)) z v' hw
        omega
      exact Int.le_trans s (mo B 0 _)
    · have C : ∀ m i (z : lZ), i + m = B → i ≤ b → e + v ≤ (liC S G opF ctT (liN S B G h opF ctT d (k + 1)) k q L e r m i z).1 := by
        intro m
        induction m with
        | zero =>
          intro i z hi hib
          omega
        | succ m ihm =>
          intro i z hi hib
          rw [liC_s]
          by_cases ib : i = b
          · have s : e + v ≤ (stL S G opF ctT (liN S B G h opF ctT d (k + 1)) k q L e r i z).1 := by
              rw [ib]
              unfold stL
              rw [if_pos ⟨ho.1, decide_eq_true ho.2, rfl⟩]
              have := ih (k + 1) (qEnd S (94 + 2 * b) q) (lsA L b) (e + G k (qEnd S (94 + 2 * b) q)) (sup r k (b : Int)) z v' hw
              omega
            exact Int.le_trans s (mo m (i + 1) _)
          · exact ihm (i + 1) _ (by omega) (by omega)
      exact C B 0 _ (by omega) (by omega)
/-- what can be earned at most, as if nothing were used up -/
def bbS (Bd : Int → Int) (G : Nat → Int → Int) (k : Nat) (q : Int) : Int := if Bd q = -1 then -1 else Bd q + G k q
def bdC (S L0 : Nat → Int) (bb : Int → Int) (q : Int) : Nat → Nat → Int → Int
  | 0, _, a => a
  | m + 1, i, a => bdC S L0 bb q m (i + 1) (if 0 ≤ qEnd S (94 + 2 * i) q ∧ 0 < L0 i then (if a < bb (qEnd S (94 + 2 * i) q) then bb (qEnd S (94 + 2 * i) q) else a) else a)
def bdN (S L0 : Nat → Int) (B : Nat) (G : Nat → Int → Int) (h : Int) : Nat → Nat → Int → Int
  | 0, _, q => if q = h then 0 else -1
  | d + 1, k, q => bdC S L0 (bbS (bdN S L0 B G h d (k + 1)) G k) q B 0 (bbS (bdN S L0 B G h d (k + 1)) G k q)
theorem bdC_ge {S L0 : Nat → Int} {bb : Int → Int} {q : Int} : ∀ m i a, a ≤ bdC S L0 bb q m i a := by
  intro m
  induction m with
  | zero =>
    intro i a
    exact Int.le_refl _
  | succ m ih =>
    intro i a
    refine Int.le_trans ?_ (ih (i + 1) _)
    split
    · split <;> omega
    · exact Int.le_refl _
theorem bdC_at {S L0 : Nat → Int} {bb : Int → Int} {q : Int} {b : Nat} (ho : 0 ≤ qEnd S (94 + 2 * b) q ∧ 0 < L0 b) : ∀ m i a, i ≤ b → b < i + m → bb (qEnd S (94 + 2 * b) q) ≤ bdC S L0 bb q m i a := by
  intro m
  induction m with
  | zero =>
    intro i a h1 h2
    omega
  | succ m ih =>
    intro i a h1 h2
    by_cases e : i = b
    · subst e
      refine Int.le_trans ?_ (bdC_ge m (i + 1) _)
      rw [if_pos ho]
      split <;> omega
    · exact ih (i + 1) _ (by omega) (by omega)
theorem bdN_up {S L0 : Nat → Int} {B : Nat} {G : Nat → Int → Int} {h : Int} (hG : ∀ k q, 0 ≤ G k q) : ∀ (d k : Nat) (q : Int) (L : Nat → Int) (v : Int), (∀ b, b < B → 0 < L b → 0 < L0 b) → wkL S B G h d k q L v → 0 ≤ v ∧ v ≤ bdN S L0 B G h d k q := by
  intro d
  induction d with
  | zero =>
    intro k q L v _ hw
    obtain ⟨h1, h2⟩ := hw
    show 0 ≤ v ∧ v ≤ (if q = h then 0 else -1)
    rw [if_pos h1]
    omega
  | succ d ih =>
    intro k q L v hL hw
    show 0 ≤ v ∧ v ≤ bdC S L0 (bbS (bdN S L0 B G h d (k + 1)) G k) q B 0 (bbS (bdN S L0 B G h d (k + 1)) G k q)
    rcases hw with ⟨v', e1, hw⟩ | ⟨b, v', hb, ho, e1, hw⟩
    · have y := ih (k + 1) q L v' hL hw
      have g := hG k q
      have ge := bdC_ge (S := S) (L0 := L0) (bb := bbS (bdN S L0 B G h d (k + 1)) G k) (q := q) B 0 (bbS (bdN S L0 B G h d (k + 1)) G k q)
      have bb : bbS (bdN S L0 B G h d (k + 1)) G k q = bdN S L0 B G h d (k + 1) q + G k q := by
        unfold bbS
        rw [if_neg (by omega)]
      omega
    · have y := ih (k + 1) (qEnd S (94 + 2 * b) q) (lsA L b) v' (fun c hc o => hL c hc (by
        by_cases e : c = b
        · subst e
          rw [lsA_s] at o
          omega
        · rw [lsA_n e] at o
          exact o)) hw
      have g := hG k (qEnd S (94 + 2 * b) q)
      have ge := bdC_at (S := S) (L0 := L0) (bb := bbS (bdN S L0 B G h d (k + 1)) G k) (q := q) (b := b) ⟨ho.1, hL b hb ho.2⟩ B 0 (bbS (bdN S L0 B G h d (k + 1)) G k q) (by omega) (by omega)
      have bb : bbS (bdN S L0 B G h d (k + 1)) G k (qEnd S (94 + 2 * b) q) = bdN S L0 B G h d (k + 1) (qEnd S (94 + 2 * b) q) + G k (qEnd S (94 + 2 * b) q) := by
        unfold bbS
        rw [if_neg (by omega)]
      omega
/-- the class's test: more than the best can come of it (n days in all) -/
def ctC (S L0 : Nat → Int) (B n : Nat) (G : Nat → Int → Int) (h : Int) : Nat → Int → Int → Int → Bool := fun k q e M => decide (bbS (bdN S L0 B G h (n - (k + 1)) (k + 1)) G k q ≠ -1 ∧ M < e + bbS (bdN S L0 B G h (n - (k + 1)) (k + 1)) G k q)
theorem ctC_no {S L0 : Nat → Int} {B n : Nat} {G : Nat → Int → Int} {h : Int} (hG : ∀ k q, 0 ≤ G k q) {d k : Nat} {q : Int} {L : Nat → Int} {e : Int} {z : lZ} (hd : n - (k + 1) = d) (hL : ∀ b, b < B → 0 < L b → 0 < L0 b) (no : ctC S L0 B n G h k q e z.1 = false) (r : Nat → Int) : liN S B G h opF ctT d (k + 1) q L (e + G k q) r z = z := by
  have y := of_decide_eq_false no
  rw [hd] at y
  refine liN_keep d (k + 1) q L _ _ z (fun v hv => ?_)
  have up := bdN_up hG d (k + 1) q L v hL hv
  have bb : bbS (bdN S L0 B G h d (k + 1)) G k q = bdN S L0 B G h d (k + 1) q + G k q := by
    unfold bbS
    rw [if_neg (by omega)]
  have g := hG k q
  apply Classical.byContradiction
  intro nn
  exact y ⟨by omega, by omega⟩
theorem liN_eq {S L0 : Nat → Int} {B n : Nat} {G : Nat → Int → Int} {h : Int} (hG : ∀ k q, 0 ≤ G k q) {g : (Nat → Int) → Nat → Bool} (g1 : ∀ L b, b < B → g L b = true → 0 < L b) (g2 : ∀ L b, b < B → 0 < L b → g L b = false → ∃ c, c < b ∧ isTw S c b ∧ 0 < L c) : ∀ (d k : Nat) (q : Int) (L : Nat → Int) (e : Int) (r : Nat → Int) (z : lZ), k + d = n → (∀ b, b < B → 0 < L b → 0 < L0 b) → liN S B G h g (ctC S L0 B n G h) d k q L e r z = liN S B G h opF ctT d k q L e r z := by
  intro d
  induction d with
  | zero =>
    intro k q L e r z _ _
    rfl
  | succ d ih =>
    intro k q L e r z hk hL
    rw [liN_s, liN_s]
    have hd : n - (k + 1) = d := by omega
    have st : stay G (ctC S L0 B n G h) (liN S B G h g (ctC S L0 B n G h) d (k + 1)) k q L e r z = stay G ctT (liN S B G h opF ctT d (k + 1)) k q L e r z := by
      unfold stay
      rw [if_pos (show ctT k q e z.1 = true from rfl)]
      cases hc : ctC S L0 B n G h k q e z.1 with
      | true =>
        rw [if_pos rfl]
        exact ih (k + 1) q L _ _ z (by omega) hL
      | false =>
        rw [if_neg (by decide)]
        exact (ctC_no hG hd hL hc _).symm
    rw [st]
    have lsL : ∀ i b, b < B → 0 < lsA L i b → 0 < L0 b := fun i b hb o => hL b hb (by
      by_cases x : b = i
      · subst x
        rw [lsA_s] at o
        omega
      · rw [lsA_n x] at o
        exact o)
    have C : ∀ m i (z : lZ), i + m = B → (∀ b, b < i → 0 ≤ qEnd S (94 + 2 * b) q → 0 < L b → ∀ v, wkL S B G h d (k + 1) (qEnd S (94 + 2 * b) q) (lsA L b) v → e + G k (qEnd S (94 + 2 * b) q) + v ≤ z.1) → liC S G g (ctC S L0 B n G h) (liN S B G h g (ctC S L0 B n G h) d (k + 1)) k q L e r m i z = liC S G opF ctT (liN S B G h opF ctT d (k + 1)) k q L e r m i z := by
      intro m
      induction m with
      | zero =>
        intro i z _ _
        rfl
      | succ m ihm =>
        intro i z hi hh
        rw [liC_s, liC_s]
        have iB : i < B := by omega
        have same : stL S G g (ctC S L0 B n G h) (liN S B G h g (ctC S L0 B n G h) d (k + 1)) k q L e r i z = stL S G opF ctT (liN S B G h opF ctT d (k + 1)) k q L e r i z := by
          unfold stL
          by_cases q0 : 0 ≤ qEnd S (94 + 2 * i) q
          case neg =>
            rw [if_neg (fun y => q0 y.1), if_neg (fun y => q0 y.1)]
          by_cases o : 0 < L i
          case neg =>
            rw [if_neg (fun y => o (g1 L i iB y.2.1)), if_neg (fun y => o (of_decide_eq_true y.2.1))]
          rw [if_pos (show 0 ≤ qEnd S (94 + 2 * i) q ∧ opF L i = true ∧ ctT k (qEnd S (94 + 2 * i) q) e z.1 = true from ⟨q0, decide_eq_true o, rfl⟩)]
          cases hg : g L i with
          | false =>
            rw [if_neg (fun y => absurd y.2.1 (by decide))]
            obtain ⟨c, c1, c2, c3⟩ := g2 L i iB o hg
            refine (liN_keep d (k + 1) _ _ _ _ z (fun v hv => ?_)).symm
            have y := hh c c1 (by rw [c2 q]; exact q0) c3 v (by
              rw [c2 q]
              exact wkL_swap (show i ≠ c by omega) iB (fun q => (c2 q).symm) d (k + 1) _ L v (by omega) (by omega) hv)
            rw [c2 q] at y
            exact y
          | true =>
            cases hc : ctC S L0 B n G h k (qEnd S (94 + 2 * i) q) e z.1 with
            | true =>
              rw [if_pos ⟨q0, rfl, rfl⟩]
              exact ih (k + 1) _ _ _ _ z (by omega) (lsL i)
            | false =>
              rw [if_neg (fun y => absurd y.2.2 (by decide))]
              exact (ctC_no hG hd (lsL i) hc _).symm
        rw [same]
        refine ihm (i + 1) _ (by omega) (fun b hb hq ho v hv => ?_)
        by_cases bi : b = i
        · subst bi
          unfold stL
          rw [if_pos ⟨hq, decide_eq_true ho, rfl⟩]
          exact liN_get d (k + 1) _ _ _ _ z v hv
        · have y := hh b (by omega) hq ho v hv
          have mo : z.1 ≤ (stL S G opF ctT (liN S B G h opF ctT d (k + 1)) k q L e r i z).1 := by
            unfold stL
            split
            · exact liN_mono _ _ _ _ _ _ _
            · exact Int.le_refl _
          omega
    exact C B 0 _ (by omega) (fun b hb => by omega)
