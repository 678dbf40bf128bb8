/-! what was taken tells where one is -/
def tch (S : Nat → Int) (v : Int) (b : Nat) : Prop := S (94 + 2 * b) = v ∨ S (95 + 2 * b) = v
def parS (S : Nat → Int) (B : Nat) (home : Int) (O : Nat → Nat) (q : Int) (L : Nat → Int) : Prop := ∀ v : Int, (sumU (fun b => if S (94 + 2 * b) = v ∨ S (95 + 2 * b) = v then (O b : Int) - L b else 0) B 0 + (if v = home then 1 else 0) + (if v = q then 1 else 0)) % 2 = 0
theorem par_go {S : Nat → Int} {B : Nat} {home : Int} {O : Nat → Nat} {q : Int} {L : Nat → Int} (h : parS S B home O q L) {b : Nat} (hb : b < B) (ne : S (94 + 2 * b) ≠ S (95 + 2 * b)) {q' : Int} (hq : qEnd S (94 + 2 * b) q = q') (q0 : 0 ≤ q') : parS S B home O q' (lsA L b) := by
  intro v
  have h0 := h v
  have e95 : 94 + 2 * b + 1 = 95 + 2 * b := by omega
  have cs := qEnd_cases hq q0
  rw [e95] at cs
  have a := sumU_add (fun c => if S (94 + 2 * c) = v ∨ S (95 + 2 * c) = v then (O c : Int) - L c else 0) (fun c => if (b : Int) = (c : Int) ∧ (S (94 + 2 * c) = v ∨ S (95 + 2 * c) = v) then 1 else 0) B 0
  have o := sumU_one (b : Int) 1 (fun c => S (94 + 2 * c) = v ∨ S (95 + 2 * c) = v) B 0
  have c := sumU_cg (fun c => (if S (94 + 2 * c) = v ∨ S (95 + 2 * c) = v then (O c : Int) - L c else 0) + (if (b : Int) = (c : Int) ∧ (S (94 + 2 * c) = v ∨ S (95 + 2 * c) = v) then (1 : Int) else 0)) (fun c => if S (94 + 2 * c) = v ∨ S (95 + 2 * c) = v then (O c : Int) - lsA L b c else 0) B 0 (fun c _ _ => by
    show (if S (94 + 2 * c) = v ∨ S (95 + 2 * c) = v then (O c : Int) - L c else 0) + (if (b : Int) = (c : Int) ∧ (S (94 + 2 * c) = v ∨ S (95 + 2 * c) = v) then (1 : Int) else 0) = (if S (94 + 2 * c) = v ∨ S (95 + 2 * c) = v then (O c : Int) - lsA L b c else 0)
    by_cases t : S (94 + 2 * c) = v ∨ S (95 + 2 * c) = v
    · rw [if_pos t, if_pos t]
      by_cases e : c = b
      · subst e
        rw [if_pos ⟨rfl, t⟩, lsA_s]
        omega
      · rw [if_neg (fun y => e (by omega)), lsA_n e, Int.add_zero]
    · rw [if_neg t, if_neg t, if_neg (fun y => t y.2)]
      rfl)
  have o' : sumU (fun c => if (b : Int) = (c : Int) ∧ (S (94 + 2 * c) = v ∨ S (95 + 2 * c) = v) then 1 else 0) B 0 = if S (94 + 2 * b) = v ∨ S (95 + 2 * b) = v then 1 else 0 := by
    refine Eq.trans o ?_
    by_cases t : S (94 + 2 * b) = v ∨ S (95 + 2 * b) = v
    · rw [if_pos t, if_pos ⟨⟨by omega, by omega⟩, by rw [Int.toNat_natCast]; exact t⟩]
    · rw [if_neg t, if_neg (fun y => t (by
        have z := y.2
        rw [Int.toNat_natCast] at z
        exact z))]
  have tot : sumU (fun c => if S (94 + 2 * c) = v ∨ S (95 + 2 * c) = v then (O c : Int) - lsA L b c else 0) B 0 = sumU (fun c => if S (94 + 2 * c) = v ∨ S (95 + 2 * c) = v then (O c : Int) - L c else 0) B 0 + (if S (94 + 2 * b) = v ∨ S (95 + 2 * b) = v then 1 else 0) := by
    rw [← c, a, o']
  rw [tot]
  obtain ⟨sg, hsg⟩ : ∃ x, x = sumU (fun c => if S (94 + 2 * c) = v ∨ S (95 + 2 * c) = v then (O c : Int) - L c else 0) B 0 := ⟨_, rfl⟩
  rw [← hsg] at h0 ⊢
  have qq : q ≠ q' := by
    rcases cs with ⟨c1, c2⟩ | ⟨c1, c2⟩
    · rw [← c1, ← c2]
      exact ne
    · rw [← c1, ← c2]
      exact Ne.symm ne
  have tq : (S (94 + 2 * b) = v ∨ S (95 + 2 * b) = v) ↔ (v = q ∨ v = q') := by
    rcases cs with ⟨c1, c2⟩ | ⟨c1, c2⟩
    · rw [c1, c2]
      constructor
      · rintro (y | y)
        · exact Or.inl y.symm
        · exact Or.inr y.symm
      · rintro (y | y)
        · exact Or.inl y.symm
        · exact Or.inr y.symm
    · rw [c1, c2]
      constructor
      · rintro (y | y)
        · exact Or.inr y.symm
        · exact Or.inl y.symm
      · rintro (y | y)
        · exact Or.inr y.symm
        · exact Or.inl y.symm
  by_cases v1 : v = q
  · rw [if_pos (tq.mpr (Or.inl v1)), if_neg (show ¬ v = q' from fun y => qq (v1.symm.trans y))]
    rw [if_pos v1] at h0
    omega
  · rw [if_neg v1] at h0
    by_cases v2 : v = q'
    · rw [if_pos (tq.mpr (Or.inr v2)), if_pos v2]
      omega
    · rw [if_neg (fun y => by
        rcases tq.mp y with y | y
        · exact v1 y
        · exact v2 y), if_neg v2]
      omega
theorem par_one {S : Nat → Int} {B : Nat} {home : Int} {O : Nat → Nat} {q q' : Int} {L L' : Nat → Int} (e : ∀ b, b < B → L b = L' b) (h : parS S B home O q L) (h' : parS S B home O q' L') : q = q' := by
  have a := h q
  have b := h' q
  have c := sumU_cg (fun b => if S (94 + 2 * b) = q ∨ S (95 + 2 * b) = q then (O b : Int) - L b else 0) (fun b => if S (94 + 2 * b) = q ∨ S (95 + 2 * b) = q then (O b : Int) - L' b else 0) B 0 (fun b _ hb => by
    show (if S (94 + 2 * b) = q ∨ S (95 + 2 * b) = q then (O b : Int) - L b else 0) = (if S (94 + 2 * b) = q ∨ S (95 + 2 * b) = q then (O b : Int) - L' b else 0)
    rw [e b (by omega)])
  rw [c, if_pos rfl] at a
  by_cases y : q = q'
  · exact y
  · rw [if_neg y] at b
    omega
theorem par_0 {S : Nat → Int} {B : Nat} {home : Int} {O : Nat → Nat} {L : Nat → Int} (h : ∀ b, b < B → L b = (O b : Int)) : parS S B home O home L := by
  intro v
  have c := sumU_cg (fun b => if S (94 + 2 * b) = v ∨ S (95 + 2 * b) = v then (O b : Int) - L b else 0) (fun _ => 0) B 0 (fun b _ hb => by
    show (if S (94 + 2 * b) = v ∨ S (95 + 2 * b) = v then (O b : Int) - L b else 0) = 0
    rw [h b (by omega)]
    split <;> omega)
  rw [c, sumU_0]
  split <;> rfl
theorem cT_cg {S : Nat → Int} {B : Nat} {fin : Int} : ∀ (d : Nat) (q : Int) (L L' : Nat → Int), (∀ b, b < B → L b = L' b) → cT S B fin d q L = cT S B fin d q L' := by
  intro d
  induction d with
  | zero =>
    intro q L L' _
    rfl
  | succ d ih =>
    intro q L L' h
    rw [cT_s, cT_s]
    have C : ∀ k i z, i + k = B → foC S (cT S B fin d) d q L k i z = foC S (cT S B fin d) d q L' k i z := by
      intro k
      induction k with
      | zero =>
        intro i z _
        rfl
      | succ k ihk =>
        intro i z hi
        have e : cT S B fin d (qEnd S (94 + 2 * i) q) (lsA L i) = cT S B fin d (qEnd S (94 + 2 * i) q) (lsA L' i) := ih _ _ _ (fun b hb => by
          by_cases x : b = i
          · rw [x, lsA_s, lsA_s, h i (by omega)]
          · rw [lsA_n x, lsA_n x]
            exact h b hb)
        have s : stC S (cT S B fin d) d q L i z = stC S (cT S B fin d) d q L' i z := by
          unfold stC
          rw [e, h i (by omega)]
        rw [foC_s, foC_s, s, ihk (i + 1) _ (by omega)]
    exact C B 0 _ (by omega)
/-! heaps of what is left -/
def usd (O : Nat → Nat) (L : Nat → Int) : Nat → Nat := fun b => O b - (L b).toNat
def vlL (B : Nat) (O : Nat → Nat) (L : Nat → Int) : Prop := ∀ b, b < B → 0 ≤ L b ∧ L b ≤ (O b : Int)
def hpL (O : Nat → Nat) (B : Nat) (L : Nat → Int) : Nat := hpS O (usd O L) B
theorem hpL_inj {O : Nat → Nat} {B : Nat} {L L' : Nat → Int} (v : vlL B O L) (v' : vlL B O L') (e : hpL O B L = hpL O B L') : ∀ b, b < B → L b = L' b := by
  have z := hpS_inj B (fun c hc => show usd O L c ≤ O c by unfold usd; omega) (fun c hc => show usd O L' c ≤ O c by unfold usd; omega) e
  intro b hb
  have y := z b hb
  have a := v b hb
  have a' := v' b hb
  unfold usd at y
  omega
theorem hpS_cg {O u v : Nat → Nat} : ∀ b, (∀ c, c < b → u c = v c) → hpS O u b = hpS O v b := by
  intro b
  induction b with
  | zero =>
    intro _
    rfl
  | succ b ih =>
    intro h
    show hpS O u b + u b * hpW O b = hpS O v b + v b * hpW O b
    rw [ih (fun c hc => h c (by omega)), h b (by omega)]
theorem hpL_go {O : Nat → Nat} {L : Nat → Int} {i : Nat} (o : 0 < L i) (o2 : L i ≤ (O i : Int)) : ∀ b, hpS O (usd O (lsA L i)) b = hpS O (usd O L) b + (if i < b then hpW O i else 0) := by
  intro b
  induction b with
  | zero =>
    show 0 = 0 + (if i < 0 then hpW O i else 0)
    rw [if_neg (by omega)]
  | succ b ih =>
    show hpS O (usd O (lsA L i)) b + usd O (lsA L i) b * hpW O b = hpS O (usd O L) b + usd O L b * hpW O b + (if i < b + 1 then hpW O i else 0)
    rw [ih]
    by_cases e : b = i
    · subst e
      have u1 : usd O (lsA L b) b = usd O L b + 1 := by
        unfold usd
        rw [lsA_s]
        omega
      rw [if_neg (by omega), if_pos (by omega), u1, Nat.succ_mul]
      omega
    · have u1 : usd O (lsA L i) b = usd O L b := by
        unfold usd
        rw [lsA_n e]
      rw [u1]
      by_cases x : i < b
      · rw [if_pos x, if_pos (by omega)]
        omega
      · rw [if_neg x, if_neg (by omega)]
        omega
/-- the heap of everything -/
theorem hpS_full (O : Nat → Nat) : ∀ b, hpS O O b + 1 = hpW O b := by
  intro b
  induction b with
  | zero => rfl
  | succ b ih =>
    show hpS O O b + O b * hpW O b + 1 = hpW O b * (O b + 1)
    rw [Nat.mul_succ, Nat.mul_comm (hpW O b) (O b)]
    omega
theorem sum_0 {L : Nat → Int} : ∀ k i, (∀ b, i ≤ b → b < i + k → 0 ≤ L b) → sumU L k i = 0 → ∀ b, i ≤ b → b < i + k → L b = 0 := by
  intro k
  induction k with
  | zero =>
    intro i _ _ b h1 h2
    omega
  | succ k ih =>
    intro i h s b h1 h2
    rw [sumU_s] at s
    have a := h i (by omega) (by omega)
    have r := sumU_mono (fun _ => 0) L k (i + 1) (fun c h3 h4 => h c (by omega) (by omega))
    rw [sumU_0] at r
    by_cases e : b = i
    · rw [e]
      omega
    · exact ih (i + 1) (fun c h3 h4 => h c (by omega) (by omega)) (by omega) b (by omega) (by omega)
theorem sum_ls {L : Nat → Int} {i : Nat} : ∀ k j, sumU (lsA L i) k j = sumU L k j - (if j ≤ i ∧ i < j + k then 1 else 0) := by
  intro k
  induction k with
  | zero =>
    intro j
    show (0 : Int) = 0 - (if j ≤ i ∧ i < j + 0 then 1 else 0)
    rw [if_neg (by omega)]
    rfl
  | succ k ih =>
    intro j
    rw [sumU_s, sumU_s, ih (j + 1)]
    by_cases e : j = i
    · subst e
      rw [lsA_s, if_neg (by omega), if_pos (by omega)]
      omega
    · rw [lsA_n e]
      by_cases x : j + 1 ≤ i ∧ i < j + 1 + k
      · rw [if_pos x, if_pos (by omega)]
        omega
      · rw [if_neg x, if_neg (by omega)]
        omega
/-- all is taken where the heap is full -/
theorem full_iff {O : Nat → Nat} {B : Nat} {L : Nat → Int} (v : vlL B O L) : hpL O B L + 1 = hpW O B ↔ sumU L B 0 = 0 := by
  have f := hpS_full O B
  constructor
  · intro h
    have e : hpS O (usd O L) B = hpS O O B := by
      unfold hpL at h
      omega
    have z := hpS_inj B (fun c hc => show usd O L c ≤ O c by unfold usd; omega) (fun c _ => Nat.le_refl _) e
    have c := sumU_cg L (fun _ => 0) B 0 (fun b _ hb => by
      have y := z b (by omega)
      have a := v b (by omega)
      unfold usd at y
      show L b = 0
      omega)
    rw [c, sumU_0]
  · intro h
    have z := sum_0 B 0 (fun b _ hb => (v b (by omega)).1) h
    have e : hpS O (usd O L) B = hpS O O B := hpS_cg B (fun c hc => by
      have y := z c (by omega) (by omega)
      unfold usd
      omega)
    unfold hpL
    omega
