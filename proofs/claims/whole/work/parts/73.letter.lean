/-! letters: who can meet whom -/
def sy (a b c d e g : Bool) (p q : Nat) : Bool :=
  if p = q then true else if p + q = 1 then a else if p + q = 2 then b else if p + q = 5 then g else if p + q = 4 then e else if p = 0 ∨ q = 0 then c else d
def hdT (M : Nat → Nat → Bool) (rd gv : Nat) : Nat → Nat → (Nat → Nat) → Nat → Nat
  | 0, _, H => H
  | k + 1, i, H => hdT M rd gv k (i + 1) (if H i + 1 = rd ∧ H gv = 99 ∧ M gv i = true then (fun j => if j = gv then rd else H j) else H)
def hdG (M : Nat → Nat → Bool) (rd n : Nat) : Nat → Nat → (Nat → Nat) → Nat → Nat
  | 0, _, H => H
  | k + 1, i, H => hdG M rd n k (i + 1) (hdT M rd i n 0 H)
def hdR (M : Nat → Nat → Bool) (n : Nat) : Nat → Nat → (Nat → Nat) → Nat → Nat
  | 0, _, H => H
  | k + 1, i, H => hdR M n k (i + 1) (hdG M i n n 0 H)
def hd (M : Nat → Nat → Bool) (n to : Nat) : Nat → Nat := hdR M n (n - 1) 1 (fun j => if j = to then 0 else 99)
/-- the first holder one nearer -/
def nxt (M : Nat → Nat → Bool) (H : Nat → Nat) (h : Nat) : Nat → Nat → Nat
  | 0, _ => h
  | k + 1, i => if H i + 1 = H h ∧ M h i = true then i else nxt M H h k (i + 1)
def fi1 (M : Nat → Nat → Bool) (a b : Nat) : Nat → Nat → Option Nat
  | 0, _ => none
  | k + 1, i => if i ≠ a ∧ i ≠ b ∧ M a i = true ∧ M i b = true then some i else fi1 M a b k (i + 1)
def fi2 (M : Nat → Nat → Bool) (a b i : Nat) : Nat → Nat → Option (Nat × Nat)
  | 0, _ => none
  | k + 1, j => if i ≠ a ∧ i ≠ b ∧ j ≠ a ∧ j ≠ b ∧ i ≠ j ∧ M a i = true ∧ M i j = true ∧ M j b = true then some (i, j) else fi2 M a b i k (j + 1)
def fi3 (M : Nat → Nat → Bool) (a b n : Nat) : Nat → Nat → Option (Nat × Nat)
  | 0, _ => none
  | k + 1, i => match fi2 M a b i n 0 with
    | some z => some z
    | none => fi3 M a b n k (i + 1)
def lt2 (M : Nat → Nat → Bool) (n a b w : Nat) : Int :=
  if M a b = true then (if w = 0 then 0 else -2) else
  match fi1 M a b n 0 with
  | some i => if w = 0 then 1 else if w = 1 then (i : Int) else -2
  | none => match fi3 M a b n n 0 with
    | some (i, j) => if w = 0 then 2 else if w = 1 then (i : Int) else (j : Int)
    | none => -2
def lt1 (M : Nat → Nat → Bool) (n a b w : Nat) : Int :=
  let H := hd M n b
  if H a = 99 then -2 else if w = 0 then (H a : Int) - 1 else if w + 1 ≤ H a then (if w = 1 then (nxt M H a n 0 : Int) else (nxt M H (nxt M H a n 0) n 0 : Int)) else -2
set_option maxRecDepth 100000 in
theorem lt_eq : ∀ a b c d e g : Bool, ∀ n : Nat, n < 5 → ∀ p : Nat, p < n → ∀ q : Nat, q < n → p ≠ q → ∀ w : Nat, w < 3 → lt1 (sy a b c d e g) n p q w = lt2 (sy a b c d e g) n p q w := by decide +kernel
set_option maxRecDepth 100000 in
theorem hd_le : ∀ a b c d e g : Bool, ∀ n : Nat, n < 5 → ∀ p : Nat, p < n → ∀ q : Nat, q < n → hd (sy a b c d e g) n p q ≤ 99 := by decide +kernel
