/-! by which ways one came -/
abbrev cZ : Type := Int × Nat × Int
/-- one bridge more: d are left behind it -/
def stC (S : Nat → Int) (rc : Int → (Nat → Int) → cZ) (d : Nat) (q : Int) (L : Nat → Int) (b : Nat) (z : cZ) : cZ := if (0 ≤ qEnd S (94 + 2 * b) q ∧ 0 < L b) ∧ 0 < (rc (qEnd S (94 + 2 * b) q) (lsA L b)).1 then (z.1 + (rc (qEnd S (94 + 2 * b) q) (lsA L b)).1, z.2.1 ||| (if d = 0 then 2 ^ b else (rc (qEnd S (94 + 2 * b) q) (lsA L b)).2.1), if z.1 = 0 then (if d = 0 then (b : Int) else (rc (qEnd S (94 + 2 * b) q) (lsA L b)).2.2) else z.2.2) else z
def foC (S : Nat → Int) (rc : Int → (Nat → Int) → cZ) (d : Nat) (q : Int) (L : Nat → Int) : Nat → Nat → cZ → cZ
  | 0, _, z => z
  | k + 1, i, z => foC S rc d q L k (i + 1) (stC S rc d q L i z)
theorem foC_s (S : Nat → Int) (rc : Int → (Nat → Int) → cZ) (d : Nat) (q : Int) (L : Nat → Int) (k i : Nat) (z : cZ) : foC S rc d q L (k + 1) i z = foC S rc d q L k (i + 1) (stC S rc d q L i z) := rfl
def cT (S : Nat → Int) (B : Nat) (fin : Int) : Nat → Int → (Nat → Int) → cZ
  | 0, q, _ => (if q = fin then 1 else 0, 0, -2)
  | d + 1, q, L => foC S (cT S B fin d) d q L B 0 (0, 0, -2)
theorem cT_s (S : Nat → Int) (B : Nat) (fin : Int) (d : Nat) (q : Int) (L : Nat → Int) : cT S B fin (d + 1) q L = foC S (cT S B fin d) d q L B 0 (0, 0, -2) := rfl
/-- numbers stay small -/
def czIn (m : Int) (z : cZ) : Prop := 0 ≤ z.1 ∧ z.1 ≤ m ∧ z.2.1 < 512 ∧ -2 ≤ z.2.2 ∧ z.2.2 < 9
def pw9 : Nat → Int
  | 0 => 1
  | d + 1 => 9 * pw9 d
theorem pw9_pos : ∀ d, 1 ≤ pw9 d := by
  intro d
  induction d with
  | zero => exact Int.le_refl _
  | succ d ih =>
    show 1 ≤ 9 * pw9 d
    omega
theorem foC_in {S : Nat → Int} {B d : Nat} {q : Int} {L : Nat → Int} {rc : Int → (Nat → Int) → cZ} (B9 : B ≤ 9) (hrc : ∀ q L, czIn (pw9 d) (rc q L)) : ∀ k i z, i + k ≤ B → czIn ((i : Int) * pw9 d) z → czIn (((i + k : Nat) : Int) * pw9 d) (foC S rc d q L k i z) := by
  have p1 := pw9_pos d
  intro k
  induction k with
  | zero =>
    intro i z _ h
    exact h
  | succ k ih =>
    intro i z hi h
    rw [foC_s]
    have e : i + (k + 1) = i + 1 + k := by omega
    rw [e]
    refine ih (i + 1) _ (by omega) ?_
    obtain ⟨h1, h2, h3, h4, h5⟩ := h
    obtain ⟨r1, r2, r3, r4, r5⟩ := hrc (qEnd S (94 + 2 * i) q) (lsA L i)
    have ex : ((i + 1 : Nat) : Int) * pw9 d = (i : Int) * pw9 d + pw9 d := by
      rw [show ((i + 1 : Nat) : Int) = (i : Int) + 1 by omega, Int.add_mul, Int.one_mul]
    unfold stC
    split
    · refine ⟨?_, ?_, ?_, ?_, ?_⟩
      · show 0 ≤ z.1 + (rc (qEnd S (94 + 2 * i) q) (lsA L i)).1
        omega
      · show z.1 + (rc (qEnd S (94 + 2 * i) q) (lsA L i)).1 ≤ _
        rw [ex]
        omega
      · show z.2.1 ||| (if d = 0 then 2 ^ i else (rc (qEnd S (94 + 2 * i) q) (lsA L i)).2.1) < 512
        refine Nat.or_lt_two_pow (n := 9) h3 ?_
        split
        · exact p2lt (by omega)
        · exact r3
      · show -2 ≤ (if z.1 = 0 then (if d = 0 then (i : Int) else (rc (qEnd S (94 + 2 * i) q) (lsA L i)).2.2) else z.2.2)
        split
        · split
          · omega
          · exact r4
        · exact h4
      · show (if z.1 = 0 then (if d = 0 then (i : Int) else (rc (qEnd S (94 + 2 * i) q) (lsA L i)).2.2) else z.2.2) < 9
        split
        · split
          · omega
          · exact r5
        · exact h5
    · exact ⟨h1, by rw [ex]; omega, h3, h4, h5⟩
theorem cT_in {S : Nat → Int} {B : Nat} {fin : Int} (B9 : B ≤ 9) : ∀ (d : Nat) (q : Int) (L : Nat → Int), czIn (pw9 d) (cT S B fin d q L) := by
  intro d
  induction d with
  | zero =>
    intro q L
    show czIn 1 (if q = fin then 1 else 0, 0, -2)
    refine ⟨?_, ?_, show (0 : Nat) < 512 by decide, show (-2 : Int) ≤ -2 by decide, show (-2 : Int) < 9 by decide⟩
    · show 0 ≤ (if q = fin then (1 : Int) else 0)
      split <;> decide
    · show (if q = fin then (1 : Int) else 0) ≤ 1
      split <;> decide
  | succ d ih =>
    intro q L
    rw [cT_s]
    have p1 := pw9_pos d
    have z := foC_in (S := S) (B := B) (d := d) (q := q) (L := L) B9 ih B 0 (0, 0, -2) (by omega) ⟨by decide, by simp, by decide, by decide, by decide⟩
    have le : ((0 + B : Nat) : Int) * pw9 d ≤ pw9 (d + 1) := by
      show _ ≤ 9 * pw9 d
      exact Int.mul_le_mul_of_nonneg_right (by omega) (by omega)
    exact ⟨z.1, Int.le_trans z.2.1 le, z.2.2⟩
/-! the reference counts them one by one -/
def jnC (z t : cZ) : cZ := if t.1 = 0 then z else (z.1 + t.1, z.2.1 ||| t.2.1, if z.1 = 0 then t.2.2 else z.2.2)
def rsC (S : Nat → Int) (fin : Int) (rc : Int → (Nat → Int) → cZ → cZ) (d : Nat) (q : Int) (L : Nat → Int) (b : Nat) (z : cZ) : cZ := if 0 ≤ qEnd S (94 + 2 * b) q ∧ 0 < L b then (if d = 0 then (if qEnd S (94 + 2 * b) q = fin then (z.1 + 1, z.2.1 ||| 2 ^ b, if z.1 = 0 then (b : Int) else z.2.2) else z) else rc (qEnd S (94 + 2 * b) q) (lsA L b) z) else z
def rfC (S : Nat → Int) (fin : Int) (rc : Int → (Nat → Int) → cZ → cZ) (d : Nat) (q : Int) (L : Nat → Int) : Nat → Nat → cZ → cZ
  | 0, _, z => z
  | k + 1, i, z => rfC S fin rc d q L k (i + 1) (rsC S fin rc d q L i z)
theorem rfC_s (S : Nat → Int) (fin : Int) (rc : Int → (Nat → Int) → cZ → cZ) (d : Nat) (q : Int) (L : Nat → Int) (k i : Nat) (z : cZ) : rfC S fin rc d q L (k + 1) i z = rfC S fin rc d q L k (i + 1) (rsC S fin rc d q L i z) := rfl
/-- d + 1 crossings are left -/
def rN (S : Nat → Int) (B : Nat) (fin : Int) : Nat → Int → (Nat → Int) → cZ → cZ
  | 0, q, L, z => rfC S fin (fun _ _ z => z) 0 q L B 0 z
  | d + 1, q, L, z => rfC S fin (rN S B fin d) (d + 1) q L B 0 z
theorem jn_st {S : Nat → Int} {B : Nat} {fin : Int} (B9 : B ≤ 9) {d : Nat} {rc : Int → (Nat → Int) → cZ → cZ} (hrc : d ≠ 0 → ∀ q L z, 0 ≤ z.1 → rc q L z = jnC z (cT S B fin d q L)) (q : Int) (L : Nat → Int) (b : Nat) (z t : cZ) (z0 : 0 ≤ z.1) (t0 : 0 ≤ t.1) (ht : t.1 = 0 → t = (0, 0, -2)) : rsC S fin rc d q L b (jnC z t) = jnC z (stC S (cT S B fin d) d q L b t) ∧ 0 ≤ (stC S (cT S B fin d) d q L b t).1 ∧ ((stC S (cT S B fin d) d q L b t).1 = 0 → stC S (cT S B fin d) d q L b t = (0, 0, -2)) := by
  obtain ⟨c1, c2, c3, c4, c5⟩ := cT_in (S := S) (B := B) (fin := fin) B9 d (qEnd S (94 + 2 * b) q) (lsA L b)
  by_cases o : 0 ≤ qEnd S (94 + 2 * b) q ∧ 0 < L b
  case neg =>
    have e1 : ∀ y, rsC S fin rc d q L b y = y := fun y => by
      unfold rsC
      rw [if_neg o]
    have e2 : stC S (cT S B fin d) d q L b t = t := by
      unfold stC
      rw [if_neg (fun y => o y.1)]
    rw [e1, e2]
    exact ⟨rfl, t0, ht⟩
  obtain ⟨T, hT⟩ : ∃ T, T = cT S B fin d (qEnd S (94 + 2 * b) q) (lsA L b) := ⟨_, rfl⟩
  rw [← hT] at c1
  have j0 : 0 ≤ (jnC z t).1 := by
    unfold jnC
    split
    · exact z0
    · show 0 ≤ z.1 + t.1
      omega
  have e1 : rsC S fin rc d q L b (jnC z t) = (if T.1 = 0 then jnC z t else ((jnC z t).1 + T.1, (jnC z t).2.1 ||| (if d = 0 then 2 ^ b else T.2.1), if (jnC z t).1 = 0 then (if d = 0 then (b : Int) else T.2.2) else (jnC z t).2.2)) := by
    unfold rsC
    rw [if_pos o]
    by_cases d0 : d = 0
    · have e : T = (if qEnd S (94 + 2 * b) q = fin then 1 else 0, 0, -2) := by
        rw [hT, d0]
        rfl
      rw [if_pos d0, if_pos d0, if_pos d0, e]
      by_cases f : qEnd S (94 + 2 * b) q = fin
      · rw [if_pos f, if_pos f]
        rfl
      · rw [if_neg f, if_neg f]
        rfl
    · rw [if_neg d0, hrc d0 _ _ _ j0, ← hT, if_neg d0, if_neg d0]
      rfl
  have e2 : stC S (cT S B fin d) d q L b t = (if T.1 = 0 then t else (t.1 + T.1, t.2.1 ||| (if d = 0 then 2 ^ b else T.2.1), if t.1 = 0 then (if d = 0 then (b : Int) else T.2.2) else t.2.2)) := by
    unfold stC
    rw [← hT]
    by_cases x : T.1 = 0
    · rw [if_neg (fun y => by have := y.2; omega), if_pos x]
    · rw [if_pos ⟨o, by omega⟩, if_neg x]
  rw [e1, e2]
  by_cases T0 : T.1 = 0
  · rw [if_pos T0, if_pos T0]
    exact ⟨rfl, t0, ht⟩
  · rw [if_neg T0, if_neg T0]
    have s0 : ¬ t.1 + T.1 = 0 := by omega
    refine ⟨?_, ?_, fun y => absurd y s0⟩
    · have rhs : jnC z (t.1 + T.1, t.2.1 ||| (if d = 0 then 2 ^ b else T.2.1), if t.1 = 0 then (if d = 0 then (b : Int) else T.2.2) else t.2.2) = (z.1 + (t.1 + T.1), z.2.1 ||| (t.2.1 ||| (if d = 0 then 2 ^ b else T.2.1)), if z.1 = 0 then (if t.1 = 0 then (if d = 0 then (b : Int) else T.2.2) else t.2.2) else z.2.2) := by
        unfold jnC
        rw [if_neg s0]
      rw [rhs]
      by_cases t1 : t.1 = 0
      · have te := ht t1
        have jz : jnC z t = z := by
          unfold jnC
          rw [if_pos t1]
        rw [jz, te]
        show _ = (z.1 + (0 + T.1), z.2.1 ||| (0 ||| (if d = 0 then 2 ^ b else T.2.1)), if z.1 = 0 then (if (0 : Int) = 0 then (if d = 0 then (b : Int) else T.2.2) else -2) else z.2.2)
        rw [Int.zero_add, Nat.zero_or, if_pos (show (0 : Int) = 0 from rfl)]
      · have jz : jnC z t = (z.1 + t.1, z.2.1 ||| t.2.1, if z.1 = 0 then t.2.2 else z.2.2) := by
          unfold jnC
          rw [if_neg t1]
        rw [jz]
        show (z.1 + t.1 + T.1, (z.2.1 ||| t.2.1) ||| (if d = 0 then 2 ^ b else T.2.1), if z.1 + t.1 = 0 then (if d = 0 then (b : Int) else T.2.2) else (if z.1 = 0 then t.2.2 else z.2.2)) = _
        rw [if_neg (show ¬ z.1 + t.1 = 0 by omega), if_neg t1, Nat.or_assoc, Int.add_assoc]
    · show 0 ≤ t.1 + T.1
      omega
theorem rN_cT {S : Nat → Int} {B : Nat} {fin : Int} (B9 : B ≤ 9) : ∀ (d : Nat) (q : Int) (L : Nat → Int) (z : cZ), 0 ≤ z.1 → rN S B fin d q L z = jnC z (cT S B fin (d + 1) q L) := by
  have C : ∀ (d : Nat) (rc : Int → (Nat → Int) → cZ → cZ) (hrc : d ≠ 0 → ∀ q L z, 0 ≤ z.1 → rc q L z = jnC z (cT S B fin d q L)) (q : Int) (L : Nat → Int) (z : cZ), 0 ≤ z.1 → ∀ k i (t : cZ), 0 ≤ t.1 → (t.1 = 0 → t = (0, 0, -2)) → rfC S fin rc d q L k i (jnC z t) = jnC z (foC S (cT S B fin d) d q L k i t) := by
    intro d rc hrc q L z z0 k
    induction k with
    | zero =>
      intro i t _ _
      rfl
    | succ k ih =>
      intro i t t0 ht
      have s := jn_st B9 hrc q L i z t z0 t0 ht
      rw [rfC_s, foC_s, s.1]
      exact ih (i + 1) _ s.2.1 s.2.2
  have j00 : ∀ z : cZ, jnC z (0, 0, -2) = z := fun z => by
    unfold jnC
    rw [if_pos rfl]
  intro d
  induction d with
  | zero =>
    intro q L z z0
    have c := C 0 (fun _ _ z => z) (fun y => absurd rfl y) q L z z0 B 0 (0, 0, -2) (Int.le_refl _) (fun _ => rfl)
    rw [j00] at c
    exact c
  | succ d ih =>
    intro q L z z0
    have c := C (d + 1) (rN S B fin d) (fun _ q L z hz => ih q L z hz) q L z z0 B 0 (0, 0, -2) (Int.le_refl _) (fun _ => rfl)
    rw [j00] at c
    exact c
/-! heaps: how often each bridge was taken -/
def hpW (O : Nat → Nat) : Nat → Nat
  | 0 => 1
  | b + 1 => hpW O b * (O b + 1)
/-- the heap of what was taken, u, of bridges below b -/
def hpS (O u : Nat → Nat) : Nat → Nat
  | 0 => 0
  | b + 1 => hpS O u b + u b * hpW O b
theorem hpW_pos (O : Nat → Nat) : ∀ b, 1 ≤ hpW O b := by
  intro b
  induction b with
  | zero => exact Nat.le_refl _
  | succ b ih =>
    show 1 ≤ hpW O b * (O b + 1)
    exact Nat.le_trans ih (Nat.le_mul_of_pos_right _ (by omega))
theorem hpS_lt {O u : Nat → Nat} : ∀ b, (∀ c, c < b → u c ≤ O c) → hpS O u b < hpW O b := by
  intro b
  induction b with
  | zero =>
    intro _
    show 0 < 1
    omega
  | succ b ih =>
    intro h
    have i := ih (fun c hc => h c (by omega))
    have ub := h b (by omega)
    show hpS O u b + u b * hpW O b < hpW O b * (O b + 1)
    have e : u b * hpW O b ≤ O b * hpW O b := Nat.mul_le_mul_right _ ub
    rw [Nat.mul_succ, Nat.mul_comm (hpW O b) (O b)]
    omega
theorem hpS_inj {O u v : Nat → Nat} : ∀ b, (∀ c, c < b → u c ≤ O c) → (∀ c, c < b → v c ≤ O c) → hpS O u b = hpS O v b → ∀ c, c < b → u c = v c := by
  intro b
  induction b with
  | zero =>
    intro _ _ _ c hc
    omega
  | succ b ih =>
    intro hu hv e c hc
    have lu := hpS_lt b (fun c hc => hu c (by omega))
    have lv := hpS_lt b (fun c hc => hv c (by omega))
    have e' : hpS O u b + u b * hpW O b = hpS O v b + v b * hpW O b := e
    have top : u b = v b := by
      rcases Nat.lt_trichotomy (u b) (v b) with h | h | h
      · have m : (u b + 1) * hpW O b ≤ v b * hpW O b := Nat.mul_le_mul_right _ h
        rw [Nat.succ_mul] at m
        omega
      · exact h
      · have m : (v b + 1) * hpW O b ≤ u b * hpW O b := Nat.mul_le_mul_right _ h
        rw [Nat.succ_mul] at m
        omega
    rw [top] at e'
    by_cases cb : c = b
    · rw [cb]
      exact top
    · exact ih (fun c hc => hu c (by omega)) (fun c hc => hv c (by omega)) (by omega) c (by omega)
