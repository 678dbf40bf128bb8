/-! numbers of the walk: an int is an Int in range -/
def inI (x : Int) : Prop := -2147483648 ≤ x ∧ x < 2147483648
def inL (x : Int) : Prop := -9223372036854775808 ≤ x ∧ x < 9223372036854775808
def w32 (x : Int) : Int := x.bmod 4294967296
def w64 (x : Int) : Int := x.bmod 18446744073709551616
def vI (x : Int) : Value := .int (Int32.ofInt x)
def vL (x : Int) : Value := .long (Int64.ofInt x)
def vR (B x : Nat) : Value := if x = 0 then .null else .ref (B + x)
theorem toI_in (i : Int32) : inI i.toInt := ⟨Int32.le_toInt i, Int32.toInt_lt i⟩
theorem toL_in (i : Int64) : inL i.toInt := ⟨Int64.le_toInt i, Int64.toInt_lt i⟩
theorem ofI_to {x : Int} (h : inI x) : (Int32.ofInt x).toInt = x := Int32.toInt_ofInt_of_le h.1 h.2
theorem ofL_to {x : Int} (h : inL x) : (Int64.ofInt x).toInt = x := Int64.toInt_ofInt_of_le h.1 h.2
theorem w32_eq (x : Int) : w32 x = (Int32.ofInt x).toInt := by rw [Int32.toInt_ofInt]; rfl
theorem w64_eq (x : Int) : w64 x = (Int64.ofInt x).toInt := by rw [Int64.toInt_ofInt]; rfl
theorem w32_in (x : Int) : inI (w32 x) := by rw [w32_eq]; exact toI_in _
theorem w64_in (x : Int) : inL (w64 x) := by rw [w64_eq]; exact toL_in _
theorem w32_id {x : Int} (h : inI x) : w32 x = x := by rw [w32_eq]; exact ofI_to h
theorem w64_id {x : Int} (h : inL x) : w64 x = x := by rw [w64_eq]; exact ofL_to h
theorem of_w32 (x : Int) : Int32.ofInt (w32 x) = Int32.ofInt x := by rw [w32_eq]; exact Int32.ofInt_toInt _
theorem of_w64 (x : Int) : Int64.ofInt (w64 x) = Int64.ofInt x := by rw [w64_eq]; exact Int64.ofInt_toInt _
theorem of_inj {x y : Int} (hx : inI x) (hy : inI y) : Int32.ofInt x = Int32.ofInt y ↔ x = y :=
  ⟨fun h => by rw [← ofI_to hx, ← ofI_to hy, h], fun h => by rw [h]⟩
theorem of_lt {x y : Int} (hx : inI x) (hy : inI y) : Int32.ofInt x < Int32.ofInt y ↔ x < y := by
  rw [Int32.lt_iff_toInt_lt, ofI_to hx, ofI_to hy]
theorem of_le {x y : Int} (hx : inI x) (hy : inI y) : Int32.ofInt x ≤ Int32.ofInt y ↔ x ≤ y := by
  rw [Int32.le_iff_toInt_le, ofI_to hx, ofI_to hy]
theorem inI_c (n : Int) (h : decide (-2147483648 ≤ n ∧ n < 2147483648) = true) : inI n := by unfold inI; exact of_decide_eq_true h
theorem inL_c (n : Int) (h : decide (-9223372036854775808 ≤ n ∧ n < 9223372036854775808) = true) : inL n := by unfold inL; exact of_decide_eq_true h
theorem inL_of {x : Int} (h : inI x) : inL x := ⟨by have := h.1; omega, by have := h.2; omega⟩
theorem inI_clamp {x : Int} (h0 : 0 ≤ x) (hx : inI x) : (Int32.ofInt x).toNatClampNeg = x.toNat := Int32.toNatClampNeg_ofInt_of_le hx.1 hx.2
/-! what the instructions reckon -/
def iandZ (x y : Int) : Int := (Int32.ofInt x &&& Int32.ofInt y).toInt
def iorZ (x y : Int) : Int := (Int32.ofInt x ||| Int32.ofInt y).toInt
def ixorZ (x y : Int) : Int := (Int32.ofInt x ^^^ Int32.ofInt y).toInt
def ishlZ (x y : Int) : Int := (Int32.ofInt x <<< (Int32.ofInt y &&& 31)).toInt
def ishrZ (x y : Int) : Int := (Int32.ofInt x >>> (Int32.ofInt y &&& 31)).toInt
def iushrZ (x y : Int) : Int := ((Int32.ofInt x).toUInt32 >>> ((Int32.ofInt y).toUInt32 &&& Int32.toUInt32 31)).toInt32.toInt
def landZ (x y : Int) : Int := (Int64.ofInt x &&& Int64.ofInt y).toInt
def lorZ (x y : Int) : Int := (Int64.ofInt x ||| Int64.ofInt y).toInt
def lshlZ (x y : Int) : Int := (Int64.ofInt x <<< ((Int32.ofInt y).toInt64 &&& 63)).toInt
def i2bZ (x : Int) : Int := (Int32.ofInt x).toInt8.toInt32.toInt
def i2cZ (x : Int) : Int := ((Int32.ofInt x).toUInt32 % 65536).toInt32.toInt
def lcmpZ (x y : Int) : Int := if y < x then 1 else if x = y then 0 else -1
def iremZ (x y : Int) : Int := x.tmod y
def ldivZ (x y : Int) : Int := w64 (x.tdiv y)
def lremZ (x y : Int) : Int := x.tmod y
/-! the memory of the walk: kinds, lengths, numbers, references (0: null), the next free place -/
abbrev hS : Type := (Nat → Nat) × (Nat → Nat) × (Nat → Nat → Int) × (Nat → Nat → Nat) × Nat
def hK (u : hS) (a : Nat) : Nat := u.1 a
def hN (u : hS) (a : Nat) : Nat := u.2.1 a
def hV (u : hS) (a i : Nat) : Int := u.2.2.1 a i
def hF (u : hS) (a i : Nat) : Nat := u.2.2.2.1 a i
def hB (u : hS) : Nat := u.2.2.2.2
def hsetV (u : hS) (a i : Nat) (x : Int) : hS := (u.1, u.2.1, (fun b j => if b = a ∧ j = i then x else u.2.2.1 b j), u.2.2.2.1, u.2.2.2.2)
def hsetF (u : hS) (a i : Nat) (x : Nat) : hS := (u.1, u.2.1, u.2.2.1, (fun b j => if b = a ∧ j = i then x else u.2.2.2.1 b j), u.2.2.2.2)
def hmake (u : hS) (k n : Nat) : hS := ((fun b => if b = u.2.2.2.2 then k else u.1 b), (fun b => if b = u.2.2.2.2 then n else u.2.1 b), (fun b j => if b = u.2.2.2.2 then 0 else u.2.2.1 b j), (fun b j => if b = u.2.2.2.2 then 0 else u.2.2.2.1 b j), u.2.2.2.2 + 1)
/-- a copy of n numbers from row a at p to row b at q -/
def hcopy (u : hS) (a p b q n : Nat) : hS := (u.1, u.2.1, (fun c j => if c = b ∧ q ≤ j ∧ j < q + n then u.2.2.1 a (p + (j - q)) else u.2.2.1 c j), u.2.2.2.1, u.2.2.2.2)
abbrev hM : Type := hS → Option (Int × hS)
abbrev hok (u : hS) (a k : Nat) : Prop := 0 < a ∧ a < hB u ∧ hK u a = k
def hlet {A : Type} (x : A) (f : A → hM) : hM := f x
def hret (x : Int) : hM := fun u => some (x, u)
def hretZ (x : Int) : hM := fun u => if x = 0 ∨ x = 1 then some (x, u) else none
def hif (c : Prop) [Decidable c] (t f : hM) : hM := fun u => if c then t u else f u
def hnz (y : Int) (f : hM) : hM := fun u => if y = 0 then none else f u
def hgI (k a i : Nat) (f : Int → hM) : hM := fun u => if hok u a k then f (hV u a i) u else none
def hgR (k a i : Nat) (f : Nat → hM) : hM := fun u => if hok u a k then f (hF u a i) u else none
def hpI (k a i : Nat) (x : Int) (f : hM) : hM := fun u => if hok u a k then f (hsetV u a i x) else none
def hpZ (k a i : Nat) (x : Int) (f : hM) : hM := fun u => if hok u a k ∧ (x = 0 ∨ x = 1) then f (hsetV u a i x) else none
def hpR (k a i : Nat) (x : Nat) (f : hM) : hM := fun u => if hok u a k then f (hsetF u a i x) else none
def haI (k a : Nat) (i : Int) (f : Int → hM) : hM := fun u => if hok u a k ∧ 0 ≤ i ∧ i < (hN u a : Int) then f (hV u a i.toNat) u else none
def haR (k a : Nat) (i : Int) (f : Nat → hM) : hM := fun u => if hok u a k ∧ 0 ≤ i ∧ i < (hN u a : Int) then f (hF u a i.toNat) u else none
def hsI (k a : Nat) (i x : Int) (f : hM) : hM := fun u => if hok u a k ∧ 0 ≤ i ∧ i < (hN u a : Int) then f (hsetV u a i.toNat x) else none
def hsZ (k a : Nat) (i x : Int) (f : hM) : hM := fun u => if (hok u a k ∧ 0 ≤ i ∧ i < (hN u a : Int)) ∧ (x = 0 ∨ x = 1) then f (hsetV u a i.toNat x) else none
def hsR (k a : Nat) (i : Int) (c x : Nat) (f : hM) : hM := fun u => if (hok u a k ∧ 0 ≤ i ∧ i < (hN u a : Int)) ∧ hok u x c then f (hsetF u a i.toNat x) else none
def hlen (k a : Nat) (f : Int → hM) : hM := fun u => if hok u a k then f (hN u a : Int) u else none
def hnew (k : Nat) (f : Nat → hM) : hM := fun u => f (hB u) (hmake u k 0)
def hnewA (k : Nat) (n : Nat) (f : Nat → hM) : hM := fun u => f (hB u) (hmake u k n)
def hcall (g : hM) (f : Int → hM) : hM := fun u => match g u with
  | some (r, u1) => f r u1
  | none => none
def hcallV (k a : Nat) (g : hM) (f : Int → hM) : hM := fun u => if hok u a k then hcall g f u else none
/-- a copy by System.arraycopy, between int rows -/
def hcpy (a : Nat) (p : Int) (b : Nat) (q n : Int) (f : hM) : hM := fun u => if hok u a 20 ∧ hok u b 20 ∧ 0 ≤ p ∧ 0 ≤ q ∧ 0 ≤ n ∧ p + n ≤ (hN u a : Int) ∧ q + n ≤ (hN u b : Int) then f (hcopy u a p.toNat b q.toNat n.toNat) else none
/-! the machine's heap holds this memory -/
def tyOf (c k : Nat) : FieldType := match c with
  | 0 => tyX0 k
  | 1 => tyX1 k
  | 2 => tyX2 k
  | 3 => tyX3 k
  | 4 => tyX4 k
  | 5 => tyX5 k
  | 6 => tyX6 k
  | 7 => tyX7 k
  | 8 => tyX8 k
  | 9 => tyX9 k
  | _ => tyX10 k
def etOf (k : Nat) : FieldType := match k with
  | 20 => .int
  | 21 => .long
  | 22 => .byte
  | 23 => .boolean
  | 24 => .object RX3
  | 25 => .object RX4
  | _ => .object RX0
def hval (ty : FieldType) (B : Nat) (x : Int) (q : Nat) : Value := match ty with
  | .long => vL x
  | .object _ => vR B q
  | .array _ => vR B q
  | _ => vI x
def hin (ty : FieldType) (x : Int) : Prop := match ty with
  | .long => inL x
  | .byte => -128 ≤ x ∧ x ≤ 127
  | .boolean => x = 0 ∨ x = 1
  | .object _ => True
  | .array _ => True
  | _ => inI x
/-- the launch's own: the last place before ours, the heap at the start, the tables' numbers, the strings -/
abbrev hG : Type := Nat × Heap × va_G × (Nat → ClassId) × (Nat → Nat) × (Nat → Nat)
def hobj (G : hG) (u : hS) (a : Nat) (H : Heap) : Prop := ∃ q : vw_C, vwCl[hK u a]? = some q ∧ t_OB (G.1 + a) (G.2.2.1.1 (hK u a)) q.2.2 (G.2.2.1.2 (hK u a)) H (fun k => hval (tyOf (hK u a) k) G.1 (hV u a k) (hF u a k)) ∧ ∀ k, k < q.2.2 → hin (tyOf (hK u a) k) (hV u a k)
def hrow (G : hG) (u : hS) (a : Nat) (H : Heap) : Prop := (hK u a < 27 ∧ hN u a < 2147483648) ∧ H[G.1 + a]? = some (arrV (G.2.2.2.1 (hK u a)) (hN u a) (fun i => hval (etOf (hK u a)) G.1 (hV u a i) (hF u a i))) ∧ ∀ i, i < hN u a → hin (etOf (hK u a)) (hV u a i)
def hcell (G : hG) (u : hS) (a : Nat) (H : Heap) : Prop := (hK u a < 20 → hobj G u a H) ∧ (20 ≤ hK u a → hrow G u a H)
def hR (G : hG) (u : hS) (H : Heap) : Prop := H.size = G.1 + hB u ∧ 0 < hB u ∧ (∀ q : Nat, q ≤ G.1 → H[q]? = G.2.1[q]?) ∧ ∀ a, 0 < a → a < hB u → hcell G u a H
