/-! steps of hM as equations -/
theorem hgI_ok {k a i : Nat} {f : Int → hM} {u : hS} (h : hok u a k) : hgI k a i f u = f (hV u a i) u := if_pos h
theorem hgR_ok {k a i : Nat} {f : Nat → hM} {u : hS} (h : hok u a k) : hgR k a i f u = f (hF u a i) u := if_pos h
theorem hpI_ok {k a i : Nat} {x : Int} {f : hM} {u : hS} (h : hok u a k) : hpI k a i x f u = f (hsetV u a i x) := if_pos h
theorem hpR_ok {k a i x : Nat} {f : hM} {u : hS} (h : hok u a k) : hpR k a i x f u = f (hsetF u a i x) := if_pos h
theorem hpZ_ok {k a i : Nat} {x : Int} {f : hM} {u : hS} (h : hok u a k) (hx : x = 0 ∨ x = 1) : hpZ k a i x f u = f (hsetV u a i x) := if_pos ⟨h, hx⟩
theorem haI_ok {k a : Nat} {i : Int} {f : Int → hM} {u : hS} (h : hok u a k) (h0 : 0 ≤ i) (h1 : i < (hN u a : Int)) : haI k a i f u = f (hV u a i.toNat) u := if_pos ⟨h, h0, h1⟩
theorem haR_ok {k a : Nat} {i : Int} {f : Nat → hM} {u : hS} (h : hok u a k) (h0 : 0 ≤ i) (h1 : i < (hN u a : Int)) : haR k a i f u = f (hF u a i.toNat) u := if_pos ⟨h, h0, h1⟩
theorem hsI_ok {k a : Nat} {i x : Int} {f : hM} {u : hS} (h : hok u a k) (h0 : 0 ≤ i) (h1 : i < (hN u a : Int)) : hsI k a i x f u = f (hsetV u a i.toNat x) := if_pos ⟨h, h0, h1⟩
theorem hsZ_ok {k a : Nat} {i x : Int} {f : hM} {u : hS} (h : hok u a k) (h0 : 0 ≤ i) (h1 : i < (hN u a : Int)) (hx : x = 0 ∨ x = 1) : hsZ k a i x f u = f (hsetV u a i.toNat x) := if_pos ⟨⟨h, h0, h1⟩, hx⟩
theorem hlen_ok {k a : Nat} {f : Int → hM} {u : hS} (h : hok u a k) : hlen k a f u = f (hN u a : Int) u := if_pos h
theorem hcall_ok {g : hM} {f : Int → hM} {u u1 : hS} {r : Int} (h : g u = some (r, u1)) : hcall g f u = f r u1 := by unfold hcall; rw [h]
theorem hcallV_ok {k a : Nat} {g : hM} {f : Int → hM} {u u1 : hS} {r : Int} (h0 : hok u a k) (h : g u = some (r, u1)) : hcallV k a g f u = f r u1 := by
  unfold hcallV
  rw [if_pos h0]
  exact hcall_ok h
theorem hif_t {c : Prop} [Decidable c] {t f : hM} {u : hS} (h : c) : hif c t f u = t u := if_pos h
theorem hif_f {c : Prop} [Decidable c] {t f : hM} {u : hS} (h : ¬ c) : hif c t f u = f u := if_neg h
theorem hif_e {c : Prop} [Decidable c] {t f : hM} {u : hS} : hif c t f u = if c then t u else f u := rfl
theorem hlet_e {A : Type} {x : A} {f : A → hM} {u : hS} : hlet x f u = f x u := rfl
theorem hret_e {x : Int} {u : hS} : hret x u = some (x, u) := rfl
theorem hretZ_0 {u : hS} : hretZ 0 u = some (0, u) := rfl
theorem hretZ_1 {u : hS} : hretZ 1 u = some (1, u) := rfl
theorem hretZ_ok {x : Int} {u : hS} (h : x = 0 ∨ x = 1) : hretZ x u = some (x, u) := if_pos h
theorem hassert_ok {c : Prop} [Decidable c] {P : hM} {u : hS} (h : c) : hassert c P u = P u := if_pos h
theorem hnz_ok {y : Int} {P : hM} {u : hS} (h : ¬ y = 0) : hnz y P u = P u := if_neg h
theorem hcpy_ok {a b : Nat} {x y n : Int} {P : hM} {u : hS} (ha : hok u a 20) (hb : hok u b 20) (h : 0 ≤ x ∧ 0 ≤ y ∧ 0 ≤ n ∧ x + n ≤ (hN u a : Int) ∧ y + n ≤ (hN u b : Int)) : hcpy a x b y n P u = P (hcopy u a x.toNat b y.toNat n.toNat) := if_pos ⟨ha, hb, h⟩
/-! the shape: kinds, lengths, references that never change -/
def kL : List Nat := [0, 9, 6, 22, 24, 25, 26, 21, 20, 20, 20, 20, 7, 1, 20, 20, 20, 1, 20, 20, 20, 20, 20, 20, 20, 20, 20, 20, 20, 20, 4, 20, 20, 20, 20, 4, 20, 20, 20, 20, 2, 20, 20, 20, 20, 20, 8, 20, 5, 20, 20, 20, 20, 20, 3, 20, 20, 20, 20, 20, 21, 3, 20, 20, 20, 20, 20, 21, 3, 20, 20, 20, 20, 20, 21, 3, 20, 20, 20, 20, 20, 21, 3, 20, 20, 20, 20, 20, 21, 3, 20, 20, 20, 20, 20, 21, 4, 20, 20, 20, 20, 4, 20, 20, 20, 20, 4, 20, 20, 20, 20, 4, 20, 20, 20, 20, 4, 20, 20, 20, 20, 4, 20, 20, 20, 20, 4, 20, 20, 20, 20, 4, 20, 20, 20, 20, 4, 20, 20, 20, 20, 4, 20, 20, 20, 20, 4, 20, 20, 20, 20, 4, 20, 20, 20, 20, 4, 20, 20, 20, 20, 4, 20, 20, 20, 20, 4, 20, 20, 20, 20, 4, 20, 20, 20, 20, 4, 20, 20, 20, 20, 4, 20, 20, 20, 20, 4, 20, 20, 20, 20, 4, 20, 20, 20, 20, 0, 4, 20, 20, 20, 20, 0, 4, 20, 20, 20, 20, 0, 4, 20, 20, 20, 20, 0, 4, 20, 20, 20, 20, 10, 22, 20, 20, 20, 20, 20, 20, 21, 21, 20, 20, 20, 20, 20, 20, 20, 20, 20, 20, 20, 20, 23]
def nLs : List Nat := [0, 0, 0, 400, 6, 20, 4, 12, 8, 8, 4, 4, 0, 0, 9, 9, 9, 0, 4, 4, 4, 4, 4, 4, 36, 8, 8, 8, 8, 64, 0, 4, 4, 36, 36, 0, 4, 4, 36, 36, 0, 9, 48, 56, 6, 6, 0, 9, 0, 9, 9, 256, 256, 256, 0, 400, 400, 12, 12, 12, 60, 0, 400, 400, 12, 12, 12, 60, 0, 400, 400, 12, 12, 12, 60, 0, 400, 400, 12, 12, 12, 60, 0, 400, 400, 12, 12, 12, 60, 0, 400, 400, 12, 12, 12, 60, 0, 4, 4, 36, 36, 0, 4, 4, 36, 36, 0, 4, 4, 36, 36, 0, 4, 4, 36, 36, 0, 4, 4, 36, 36, 0, 4, 4, 36, 36, 0, 4, 4, 36, 36, 0, 4, 4, 36, 36, 0, 4, 4, 36, 36, 0, 4, 4, 36, 36, 0, 4, 4, 36, 36, 0, 4, 4, 36, 36, 0, 4, 4, 36, 36, 0, 4, 4, 36, 36, 0, 4, 4, 36, 36, 0, 4, 4, 36, 36, 0, 4, 4, 36, 36, 0, 4, 4, 36, 36, 0, 4, 4, 36, 36, 0, 4, 4, 36, 36, 0, 0, 4, 4, 36, 36, 0, 0, 4, 4, 36, 36, 0, 0, 4, 4, 36, 36, 0, 0, 4, 4, 36, 36, 0, 400, 2400, 7, 288, 6, 160, 400, 64, 12, 160, 9, 8, 1880, 8, 8, 72, 2, 9, 94, 640, 4, 4]
def refL : List (Nat × Nat × Nat) := [(1, 0, 2), (1, 1, 4), (1, 3, 30), (1, 4, 35), (1, 5, 5), (1, 8, 6), (1, 10, 40), (1, 11, 46), (1, 12, 48), (1, 13, 7), (1, 14, 8), (1, 15, 9), (1, 16, 10), (1, 17, 11), (2, 0, 3), (4, 0, 54), (4, 1, 61), (4, 2, 68), (4, 3, 75), (4, 4, 82), (4, 5, 89), (5, 0, 96), (5, 1, 101), (5, 2, 106), (5, 3, 111), (5, 4, 116), (5, 5, 121), (5, 6, 126), (5, 7, 131), (5, 8, 136), (5, 9, 141), (5, 10, 146), (5, 11, 151), (5, 12, 156), (5, 13, 161), (5, 14, 166), (5, 15, 171), (5, 16, 176), (5, 17, 181), (5, 18, 186), (5, 19, 191), (6, 0, 196), (6, 1, 202), (6, 2, 208), (6, 3, 214), (30, 2, 31), (30, 3, 32), (30, 4, 33), (30, 5, 34), (35, 2, 36), (35, 3, 37), (35, 4, 38), (35, 5, 39), (40, 0, 41), (40, 1, 42), (40, 2, 43), (40, 3, 44), (40, 4, 45), (46, 0, 47), (48, 0, 49), (48, 1, 50), (48, 2, 51), (48, 3, 52), (48, 4, 53), (54, 0, 55), (54, 1, 56), (54, 2, 57), (54, 3, 58), (54, 4, 59), (54, 5, 60), (61, 0, 62), (61, 1, 63), (61, 2, 64), (61, 3, 65), (61, 4, 66), (61, 5, 67), (68, 0, 69), (68, 1, 70), (68, 2, 71), (68, 3, 72), (68, 4, 73), (68, 5, 74), (75, 0, 76), (75, 1, 77), (75, 2, 78), (75, 3, 79), (75, 4, 80), (75, 5, 81), (82, 0, 83), (82, 1, 84), (82, 2, 85), (82, 3, 86), (82, 4, 87), (82, 5, 88), (89, 0, 90), (89, 1, 91), (89, 2, 92), (89, 3, 93), (89, 4, 94), (89, 5, 95), (96, 2, 97), (96, 3, 98), (96, 4, 99), (96, 5, 100), (101, 2, 102), (101, 3, 103), (101, 4, 104), (101, 5, 105), (106, 2, 107), (106, 3, 108), (106, 4, 109), (106, 5, 110), (111, 2, 112), (111, 3, 113), (111, 4, 114), (111, 5, 115), (116, 2, 117), (116, 3, 118), (116, 4, 119), (116, 5, 120), (121, 2, 122), (121, 3, 123), (121, 4, 124), (121, 5, 125), (126, 2, 127), (126, 3, 128), (126, 4, 129), (126, 5, 130), (131, 2, 132), (131, 3, 133), (131, 4, 134), (131, 5, 135), (136, 2, 137), (136, 3, 138), (136, 4, 139), (136, 5, 140), (141, 2, 142), (141, 3, 143), (141, 4, 144), (141, 5, 145), (146, 2, 147), (146, 3, 148), (146, 4, 149), (146, 5, 150), (151, 2, 152), (151, 3, 153), (151, 4, 154), (151, 5, 155), (156, 2, 157), (156, 3, 158), (156, 4, 159), (156, 5, 160), (161, 2, 162), (161, 3, 163), (161, 4, 164), (161, 5, 165), (166, 2, 167), (166, 3, 168), (166, 4, 169), (166, 5, 170), (171, 2, 172), (171, 3, 173), (171, 4, 174), (171, 5, 175), (176, 2, 177), (176, 3, 178), (176, 4, 179), (176, 5, 180), (181, 2, 182), (181, 3, 183), (181, 4, 184), (181, 5, 185), (186, 2, 187), (186, 3, 188), (186, 4, 189), (186, 5, 190), (191, 2, 192), (191, 3, 193), (191, 4, 194), (191, 5, 195), (196, 0, 197), (197, 2, 198), (197, 3, 199), (197, 4, 200), (197, 5, 201), (202, 0, 203), (203, 2, 204), (203, 3, 205), (203, 4, 206), (203, 5, 207), (208, 0, 209), (209, 2, 210), (209, 3, 211), (209, 4, 212), (209, 5, 213), (214, 0, 215), (215, 2, 216), (215, 3, 217), (215, 4, 218), (215, 5, 219), (220, 0, 221), (220, 3, 222), (220, 4, 223), (220, 5, 224), (220, 6, 225), (220, 7, 226), (220, 15, 227), (220, 17, 228), (220, 19, 229), (220, 20, 230), (220, 22, 231), (220, 23, 232), (220, 24, 233), (220, 26, 234), (220, 27, 235), (220, 29, 236), (220, 32, 237), (220, 33, 238), (220, 38, 239), (220, 40, 240), (220, 41, 241), (220, 42, 242)]
def shp (u : hS) : Prop := 243 ≤ hB u ∧ (∀ a, a < 243 → hK u a = kL.getD a 0 ∧ hN u a = nLs.getD a 0) ∧ ∀ q ∈ refL, hF u q.1 q.2.1 = q.2.2
theorem shp.ok {u : hS} (h : shp u) (a k : Nat) (h0 : 0 < a) (h1 : a < 243) (h2 : kL.getD a 0 = k) : hok u a k := ⟨h0, Nat.lt_of_lt_of_le h1 h.1, by rw [(h.2.1 a h1).1]; exact h2⟩
theorem shp.len {u : hS} (h : shp u) (a n : Nat) (h1 : a < 243) (h2 : nLs.getD a 0 = n) : hN u a = n := by rw [(h.2.1 a h1).2]; exact h2
/-- a memory with the same kinds, lengths, references and end -/
def sameS (u v : hS) : Prop := v.1 = u.1 ∧ v.2.1 = u.2.1 ∧ v.2.2.2 = u.2.2.2
theorem sameS.rf (u : hS) : sameS u u := ⟨rfl, rfl, rfl⟩
theorem sameS.tr {u v w : hS} (h : sameS u v) (k : sameS v w) : sameS u w := ⟨k.1.trans h.1, k.2.1.trans h.2.1, k.2.2.trans h.2.2⟩
theorem sameS.setV (u : hS) (a i : Nat) (x : Int) : sameS u (hsetV u a i x) := ⟨rfl, rfl, rfl⟩
theorem sameS.copy (u : hS) (a p b q n : Nat) : sameS u (hcopy u a p b q n) := ⟨rfl, rfl, rfl⟩
theorem sameS.K {u v : hS} (h : sameS u v) : hK v = hK u := by unfold hK; rw [h.1]
theorem sameS.N {u v : hS} (h : sameS u v) : hN v = hN u := by unfold hN; rw [h.2.1]
theorem sameS.F {u v : hS} (h : sameS u v) : hF v = hF u := by unfold hF; rw [h.2.2]
theorem sameS.B {u v : hS} (h : sameS u v) : hB v = hB u := by unfold hB; rw [h.2.2]
theorem sameS.ok {u v : hS} (h : sameS u v) {a k : Nat} (h1 : hok u a k) : hok v a k := by
  unfold hok
  rw [h.K, h.B]
  exact h1
theorem sameS.shp {u v : hS} (h : sameS u v) (h1 : shp u) : shp v := by
  show _ ∧ _ ∧ _
  rw [h.K, h.N, h.F, h.B]
  exact h1
theorem ok_1 {u : hS} (h : shp u) : hok u 1 9 := h.ok 1 9 (by decide) (by decide) rfl
theorem ok_2 {u : hS} (h : shp u) : hok u 2 6 := h.ok 2 6 (by decide) (by decide) rfl
theorem ok_3 {u : hS} (h : shp u) : hok u 3 22 := h.ok 3 22 (by decide) (by decide) rfl
theorem ln_3 {u : hS} (h : shp u) : hN u 3 = 400 := h.len 3 400 (by decide) rfl
theorem ok_4 {u : hS} (h : shp u) : hok u 4 24 := h.ok 4 24 (by decide) (by decide) rfl
theorem ln_4 {u : hS} (h : shp u) : hN u 4 = 6 := h.len 4 6 (by decide) rfl
theorem ok_5 {u : hS} (h : shp u) : hok u 5 25 := h.ok 5 25 (by decide) (by decide) rfl
theorem ln_5 {u : hS} (h : shp u) : hN u 5 = 20 := h.len 5 20 (by decide) rfl
theorem ok_6 {u : hS} (h : shp u) : hok u 6 26 := h.ok 6 26 (by decide) (by decide) rfl
theorem ln_6 {u : hS} (h : shp u) : hN u 6 = 4 := h.len 6 4 (by decide) rfl
theorem ok_7 {u : hS} (h : shp u) : hok u 7 21 := h.ok 7 21 (by decide) (by decide) rfl
theorem ln_7 {u : hS} (h : shp u) : hN u 7 = 12 := h.len 7 12 (by decide) rfl
theorem ok_8 {u : hS} (h : shp u) : hok u 8 20 := h.ok 8 20 (by decide) (by decide) rfl
theorem ln_8 {u : hS} (h : shp u) : hN u 8 = 8 := h.len 8 8 (by decide) rfl
theorem ok_9 {u : hS} (h : shp u) : hok u 9 20 := h.ok 9 20 (by decide) (by decide) rfl
theorem ln_9 {u : hS} (h : shp u) : hN u 9 = 8 := h.len 9 8 (by decide) rfl
theorem ok_10 {u : hS} (h : shp u) : hok u 10 20 := h.ok 10 20 (by decide) (by decide) rfl
theorem ln_10 {u : hS} (h : shp u) : hN u 10 = 4 := h.len 10 4 (by decide) rfl
theorem ok_11 {u : hS} (h : shp u) : hok u 11 20 := h.ok 11 20 (by decide) (by decide) rfl
theorem ln_11 {u : hS} (h : shp u) : hN u 11 = 4 := h.len 11 4 (by decide) rfl
theorem ok_30 {u : hS} (h : shp u) : hok u 30 4 := h.ok 30 4 (by decide) (by decide) rfl
theorem ok_31 {u : hS} (h : shp u) : hok u 31 20 := h.ok 31 20 (by decide) (by decide) rfl
theorem ln_31 {u : hS} (h : shp u) : hN u 31 = 4 := h.len 31 4 (by decide) rfl
theorem ok_32 {u : hS} (h : shp u) : hok u 32 20 := h.ok 32 20 (by decide) (by decide) rfl
theorem ln_32 {u : hS} (h : shp u) : hN u 32 = 4 := h.len 32 4 (by decide) rfl
theorem ok_33 {u : hS} (h : shp u) : hok u 33 20 := h.ok 33 20 (by decide) (by decide) rfl
theorem ln_33 {u : hS} (h : shp u) : hN u 33 = 36 := h.len 33 36 (by decide) rfl
theorem ok_34 {u : hS} (h : shp u) : hok u 34 20 := h.ok 34 20 (by decide) (by decide) rfl
theorem ln_34 {u : hS} (h : shp u) : hN u 34 = 36 := h.len 34 36 (by decide) rfl
theorem ok_35 {u : hS} (h : shp u) : hok u 35 4 := h.ok 35 4 (by decide) (by decide) rfl
theorem ok_36 {u : hS} (h : shp u) : hok u 36 20 := h.ok 36 20 (by decide) (by decide) rfl
theorem ln_36 {u : hS} (h : shp u) : hN u 36 = 4 := h.len 36 4 (by decide) rfl
theorem ok_37 {u : hS} (h : shp u) : hok u 37 20 := h.ok 37 20 (by decide) (by decide) rfl
theorem ln_37 {u : hS} (h : shp u) : hN u 37 = 4 := h.len 37 4 (by decide) rfl
theorem ok_38 {u : hS} (h : shp u) : hok u 38 20 := h.ok 38 20 (by decide) (by decide) rfl
theorem ln_38 {u : hS} (h : shp u) : hN u 38 = 36 := h.len 38 36 (by decide) rfl
theorem ok_39 {u : hS} (h : shp u) : hok u 39 20 := h.ok 39 20 (by decide) (by decide) rfl
theorem ln_39 {u : hS} (h : shp u) : hN u 39 = 36 := h.len 39 36 (by decide) rfl
theorem ok_40 {u : hS} (h : shp u) : hok u 40 2 := h.ok 40 2 (by decide) (by decide) rfl
theorem ok_41 {u : hS} (h : shp u) : hok u 41 20 := h.ok 41 20 (by decide) (by decide) rfl
theorem ln_41 {u : hS} (h : shp u) : hN u 41 = 9 := h.len 41 9 (by decide) rfl
theorem ok_42 {u : hS} (h : shp u) : hok u 42 20 := h.ok 42 20 (by decide) (by decide) rfl
theorem ln_42 {u : hS} (h : shp u) : hN u 42 = 48 := h.len 42 48 (by decide) rfl
theorem ok_43 {u : hS} (h : shp u) : hok u 43 20 := h.ok 43 20 (by decide) (by decide) rfl
theorem ln_43 {u : hS} (h : shp u) : hN u 43 = 56 := h.len 43 56 (by decide) rfl
theorem ok_44 {u : hS} (h : shp u) : hok u 44 20 := h.ok 44 20 (by decide) (by decide) rfl
theorem ln_44 {u : hS} (h : shp u) : hN u 44 = 6 := h.len 44 6 (by decide) rfl
theorem ok_45 {u : hS} (h : shp u) : hok u 45 20 := h.ok 45 20 (by decide) (by decide) rfl
theorem ln_45 {u : hS} (h : shp u) : hN u 45 = 6 := h.len 45 6 (by decide) rfl
theorem ok_46 {u : hS} (h : shp u) : hok u 46 8 := h.ok 46 8 (by decide) (by decide) rfl
theorem ok_47 {u : hS} (h : shp u) : hok u 47 20 := h.ok 47 20 (by decide) (by decide) rfl
theorem ln_47 {u : hS} (h : shp u) : hN u 47 = 9 := h.len 47 9 (by decide) rfl
theorem ok_48 {u : hS} (h : shp u) : hok u 48 5 := h.ok 48 5 (by decide) (by decide) rfl
theorem ok_49 {u : hS} (h : shp u) : hok u 49 20 := h.ok 49 20 (by decide) (by decide) rfl
theorem ln_49 {u : hS} (h : shp u) : hN u 49 = 9 := h.len 49 9 (by decide) rfl
theorem ok_50 {u : hS} (h : shp u) : hok u 50 20 := h.ok 50 20 (by decide) (by decide) rfl
theorem ln_50 {u : hS} (h : shp u) : hN u 50 = 9 := h.len 50 9 (by decide) rfl
theorem ok_51 {u : hS} (h : shp u) : hok u 51 20 := h.ok 51 20 (by decide) (by decide) rfl
theorem ln_51 {u : hS} (h : shp u) : hN u 51 = 256 := h.len 51 256 (by decide) rfl
theorem ok_52 {u : hS} (h : shp u) : hok u 52 20 := h.ok 52 20 (by decide) (by decide) rfl
theorem ln_52 {u : hS} (h : shp u) : hN u 52 = 256 := h.len 52 256 (by decide) rfl
theorem ok_53 {u : hS} (h : shp u) : hok u 53 20 := h.ok 53 20 (by decide) (by decide) rfl
theorem ln_53 {u : hS} (h : shp u) : hN u 53 = 256 := h.len 53 256 (by decide) rfl
theorem ok_54 {u : hS} (h : shp u) : hok u 54 3 := h.ok 54 3 (by decide) (by decide) rfl
theorem ok_55 {u : hS} (h : shp u) : hok u 55 20 := h.ok 55 20 (by decide) (by decide) rfl
theorem ln_55 {u : hS} (h : shp u) : hN u 55 = 400 := h.len 55 400 (by decide) rfl
theorem ok_56 {u : hS} (h : shp u) : hok u 56 20 := h.ok 56 20 (by decide) (by decide) rfl
theorem ln_56 {u : hS} (h : shp u) : hN u 56 = 400 := h.len 56 400 (by decide) rfl
theorem ok_57 {u : hS} (h : shp u) : hok u 57 20 := h.ok 57 20 (by decide) (by decide) rfl
theorem ln_57 {u : hS} (h : shp u) : hN u 57 = 12 := h.len 57 12 (by decide) rfl
theorem ok_58 {u : hS} (h : shp u) : hok u 58 20 := h.ok 58 20 (by decide) (by decide) rfl
theorem ln_58 {u : hS} (h : shp u) : hN u 58 = 12 := h.len 58 12 (by decide) rfl
theorem ok_59 {u : hS} (h : shp u) : hok u 59 20 := h.ok 59 20 (by decide) (by decide) rfl
theorem ln_59 {u : hS} (h : shp u) : hN u 59 = 12 := h.len 59 12 (by decide) rfl
theorem ok_60 {u : hS} (h : shp u) : hok u 60 21 := h.ok 60 21 (by decide) (by decide) rfl
theorem ln_60 {u : hS} (h : shp u) : hN u 60 = 60 := h.len 60 60 (by decide) rfl
theorem ok_61 {u : hS} (h : shp u) : hok u 61 3 := h.ok 61 3 (by decide) (by decide) rfl
theorem ok_62 {u : hS} (h : shp u) : hok u 62 20 := h.ok 62 20 (by decide) (by decide) rfl
theorem ln_62 {u : hS} (h : shp u) : hN u 62 = 400 := h.len 62 400 (by decide) rfl
theorem ok_63 {u : hS} (h : shp u) : hok u 63 20 := h.ok 63 20 (by decide) (by decide) rfl
theorem ln_63 {u : hS} (h : shp u) : hN u 63 = 400 := h.len 63 400 (by decide) rfl
theorem ok_64 {u : hS} (h : shp u) : hok u 64 20 := h.ok 64 20 (by decide) (by decide) rfl
theorem ln_64 {u : hS} (h : shp u) : hN u 64 = 12 := h.len 64 12 (by decide) rfl
theorem ok_65 {u : hS} (h : shp u) : hok u 65 20 := h.ok 65 20 (by decide) (by decide) rfl
theorem ln_65 {u : hS} (h : shp u) : hN u 65 = 12 := h.len 65 12 (by decide) rfl
theorem ok_66 {u : hS} (h : shp u) : hok u 66 20 := h.ok 66 20 (by decide) (by decide) rfl
theorem ln_66 {u : hS} (h : shp u) : hN u 66 = 12 := h.len 66 12 (by decide) rfl
theorem ok_67 {u : hS} (h : shp u) : hok u 67 21 := h.ok 67 21 (by decide) (by decide) rfl
theorem ln_67 {u : hS} (h : shp u) : hN u 67 = 60 := h.len 67 60 (by decide) rfl
theorem ok_68 {u : hS} (h : shp u) : hok u 68 3 := h.ok 68 3 (by decide) (by decide) rfl
theorem ok_69 {u : hS} (h : shp u) : hok u 69 20 := h.ok 69 20 (by decide) (by decide) rfl
theorem ln_69 {u : hS} (h : shp u) : hN u 69 = 400 := h.len 69 400 (by decide) rfl
theorem ok_70 {u : hS} (h : shp u) : hok u 70 20 := h.ok 70 20 (by decide) (by decide) rfl
theorem ln_70 {u : hS} (h : shp u) : hN u 70 = 400 := h.len 70 400 (by decide) rfl
theorem ok_71 {u : hS} (h : shp u) : hok u 71 20 := h.ok 71 20 (by decide) (by decide) rfl
theorem ln_71 {u : hS} (h : shp u) : hN u 71 = 12 := h.len 71 12 (by decide) rfl
theorem ok_72 {u : hS} (h : shp u) : hok u 72 20 := h.ok 72 20 (by decide) (by decide) rfl
theorem ln_72 {u : hS} (h : shp u) : hN u 72 = 12 := h.len 72 12 (by decide) rfl
theorem ok_73 {u : hS} (h : shp u) : hok u 73 20 := h.ok 73 20 (by decide) (by decide) rfl
theorem ln_73 {u : hS} (h : shp u) : hN u 73 = 12 := h.len 73 12 (by decide) rfl
theorem ok_74 {u : hS} (h : shp u) : hok u 74 21 := h.ok 74 21 (by decide) (by decide) rfl
theorem ln_74 {u : hS} (h : shp u) : hN u 74 = 60 := h.len 74 60 (by decide) rfl
theorem ok_75 {u : hS} (h : shp u) : hok u 75 3 := h.ok 75 3 (by decide) (by decide) rfl
theorem ok_76 {u : hS} (h : shp u) : hok u 76 20 := h.ok 76 20 (by decide) (by decide) rfl
theorem ln_76 {u : hS} (h : shp u) : hN u 76 = 400 := h.len 76 400 (by decide) rfl
theorem ok_77 {u : hS} (h : shp u) : hok u 77 20 := h.ok 77 20 (by decide) (by decide) rfl
theorem ln_77 {u : hS} (h : shp u) : hN u 77 = 400 := h.len 77 400 (by decide) rfl
theorem ok_78 {u : hS} (h : shp u) : hok u 78 20 := h.ok 78 20 (by decide) (by decide) rfl
theorem ln_78 {u : hS} (h : shp u) : hN u 78 = 12 := h.len 78 12 (by decide) rfl
theorem ok_79 {u : hS} (h : shp u) : hok u 79 20 := h.ok 79 20 (by decide) (by decide) rfl
theorem ln_79 {u : hS} (h : shp u) : hN u 79 = 12 := h.len 79 12 (by decide) rfl
theorem ok_80 {u : hS} (h : shp u) : hok u 80 20 := h.ok 80 20 (by decide) (by decide) rfl
theorem ln_80 {u : hS} (h : shp u) : hN u 80 = 12 := h.len 80 12 (by decide) rfl
theorem ok_81 {u : hS} (h : shp u) : hok u 81 21 := h.ok 81 21 (by decide) (by decide) rfl
theorem ln_81 {u : hS} (h : shp u) : hN u 81 = 60 := h.len 81 60 (by decide) rfl
theorem ok_82 {u : hS} (h : shp u) : hok u 82 3 := h.ok 82 3 (by decide) (by decide) rfl
theorem ok_83 {u : hS} (h : shp u) : hok u 83 20 := h.ok 83 20 (by decide) (by decide) rfl
theorem ln_83 {u : hS} (h : shp u) : hN u 83 = 400 := h.len 83 400 (by decide) rfl
theorem ok_84 {u : hS} (h : shp u) : hok u 84 20 := h.ok 84 20 (by decide) (by decide) rfl
theorem ln_84 {u : hS} (h : shp u) : hN u 84 = 400 := h.len 84 400 (by decide) rfl
theorem ok_85 {u : hS} (h : shp u) : hok u 85 20 := h.ok 85 20 (by decide) (by decide) rfl
theorem ln_85 {u : hS} (h : shp u) : hN u 85 = 12 := h.len 85 12 (by decide) rfl
theorem ok_86 {u : hS} (h : shp u) : hok u 86 20 := h.ok 86 20 (by decide) (by decide) rfl
theorem ln_86 {u : hS} (h : shp u) : hN u 86 = 12 := h.len 86 12 (by decide) rfl
theorem ok_87 {u : hS} (h : shp u) : hok u 87 20 := h.ok 87 20 (by decide) (by decide) rfl
theorem ln_87 {u : hS} (h : shp u) : hN u 87 = 12 := h.len 87 12 (by decide) rfl
theorem ok_88 {u : hS} (h : shp u) : hok u 88 21 := h.ok 88 21 (by decide) (by decide) rfl
theorem ln_88 {u : hS} (h : shp u) : hN u 88 = 60 := h.len 88 60 (by decide) rfl
theorem ok_89 {u : hS} (h : shp u) : hok u 89 3 := h.ok 89 3 (by decide) (by decide) rfl
theorem ok_90 {u : hS} (h : shp u) : hok u 90 20 := h.ok 90 20 (by decide) (by decide) rfl
theorem ln_90 {u : hS} (h : shp u) : hN u 90 = 400 := h.len 90 400 (by decide) rfl
theorem ok_91 {u : hS} (h : shp u) : hok u 91 20 := h.ok 91 20 (by decide) (by decide) rfl
theorem ln_91 {u : hS} (h : shp u) : hN u 91 = 400 := h.len 91 400 (by decide) rfl
theorem ok_92 {u : hS} (h : shp u) : hok u 92 20 := h.ok 92 20 (by decide) (by decide) rfl
theorem ln_92 {u : hS} (h : shp u) : hN u 92 = 12 := h.len 92 12 (by decide) rfl
theorem ok_93 {u : hS} (h : shp u) : hok u 93 20 := h.ok 93 20 (by decide) (by decide) rfl
theorem ln_93 {u : hS} (h : shp u) : hN u 93 = 12 := h.len 93 12 (by decide) rfl
theorem ok_94 {u : hS} (h : shp u) : hok u 94 20 := h.ok 94 20 (by decide) (by decide) rfl
theorem ln_94 {u : hS} (h : shp u) : hN u 94 = 12 := h.len 94 12 (by decide) rfl
theorem ok_95 {u : hS} (h : shp u) : hok u 95 21 := h.ok 95 21 (by decide) (by decide) rfl
theorem ln_95 {u : hS} (h : shp u) : hN u 95 = 60 := h.len 95 60 (by decide) rfl
theorem ok_96 {u : hS} (h : shp u) : hok u 96 4 := h.ok 96 4 (by decide) (by decide) rfl
theorem ok_97 {u : hS} (h : shp u) : hok u 97 20 := h.ok 97 20 (by decide) (by decide) rfl
theorem ln_97 {u : hS} (h : shp u) : hN u 97 = 4 := h.len 97 4 (by decide) rfl
theorem ok_98 {u : hS} (h : shp u) : hok u 98 20 := h.ok 98 20 (by decide) (by decide) rfl
theorem ln_98 {u : hS} (h : shp u) : hN u 98 = 4 := h.len 98 4 (by decide) rfl
theorem ok_99 {u : hS} (h : shp u) : hok u 99 20 := h.ok 99 20 (by decide) (by decide) rfl
theorem ln_99 {u : hS} (h : shp u) : hN u 99 = 36 := h.len 99 36 (by decide) rfl
theorem ok_100 {u : hS} (h : shp u) : hok u 100 20 := h.ok 100 20 (by decide) (by decide) rfl
theorem ln_100 {u : hS} (h : shp u) : hN u 100 = 36 := h.len 100 36 (by decide) rfl
theorem ok_101 {u : hS} (h : shp u) : hok u 101 4 := h.ok 101 4 (by decide) (by decide) rfl
theorem ok_102 {u : hS} (h : shp u) : hok u 102 20 := h.ok 102 20 (by decide) (by decide) rfl
theorem ln_102 {u : hS} (h : shp u) : hN u 102 = 4 := h.len 102 4 (by decide) rfl
theorem ok_103 {u : hS} (h : shp u) : hok u 103 20 := h.ok 103 20 (by decide) (by decide) rfl
theorem ln_103 {u : hS} (h : shp u) : hN u 103 = 4 := h.len 103 4 (by decide) rfl
theorem ok_104 {u : hS} (h : shp u) : hok u 104 20 := h.ok 104 20 (by decide) (by decide) rfl
theorem ln_104 {u : hS} (h : shp u) : hN u 104 = 36 := h.len 104 36 (by decide) rfl
theorem ok_105 {u : hS} (h : shp u) : hok u 105 20 := h.ok 105 20 (by decide) (by decide) rfl
theorem ln_105 {u : hS} (h : shp u) : hN u 105 = 36 := h.len 105 36 (by decide) rfl
theorem ok_106 {u : hS} (h : shp u) : hok u 106 4 := h.ok 106 4 (by decide) (by decide) rfl
theorem ok_107 {u : hS} (h : shp u) : hok u 107 20 := h.ok 107 20 (by decide) (by decide) rfl
theorem ln_107 {u : hS} (h : shp u) : hN u 107 = 4 := h.len 107 4 (by decide) rfl
theorem ok_108 {u : hS} (h : shp u) : hok u 108 20 := h.ok 108 20 (by decide) (by decide) rfl
theorem ln_108 {u : hS} (h : shp u) : hN u 108 = 4 := h.len 108 4 (by decide) rfl
theorem ok_109 {u : hS} (h : shp u) : hok u 109 20 := h.ok 109 20 (by decide) (by decide) rfl
theorem ln_109 {u : hS} (h : shp u) : hN u 109 = 36 := h.len 109 36 (by decide) rfl
theorem ok_110 {u : hS} (h : shp u) : hok u 110 20 := h.ok 110 20 (by decide) (by decide) rfl
theorem ln_110 {u : hS} (h : shp u) : hN u 110 = 36 := h.len 110 36 (by decide) rfl
theorem ok_111 {u : hS} (h : shp u) : hok u 111 4 := h.ok 111 4 (by decide) (by decide) rfl
theorem ok_112 {u : hS} (h : shp u) : hok u 112 20 := h.ok 112 20 (by decide) (by decide) rfl
theorem ln_112 {u : hS} (h : shp u) : hN u 112 = 4 := h.len 112 4 (by decide) rfl
theorem ok_113 {u : hS} (h : shp u) : hok u 113 20 := h.ok 113 20 (by decide) (by decide) rfl
theorem ln_113 {u : hS} (h : shp u) : hN u 113 = 4 := h.len 113 4 (by decide) rfl
theorem ok_114 {u : hS} (h : shp u) : hok u 114 20 := h.ok 114 20 (by decide) (by decide) rfl
theorem ln_114 {u : hS} (h : shp u) : hN u 114 = 36 := h.len 114 36 (by decide) rfl
theorem ok_115 {u : hS} (h : shp u) : hok u 115 20 := h.ok 115 20 (by decide) (by decide) rfl
theorem ln_115 {u : hS} (h : shp u) : hN u 115 = 36 := h.len 115 36 (by decide) rfl
theorem ok_116 {u : hS} (h : shp u) : hok u 116 4 := h.ok 116 4 (by decide) (by decide) rfl
theorem ok_117 {u : hS} (h : shp u) : hok u 117 20 := h.ok 117 20 (by decide) (by decide) rfl
theorem ln_117 {u : hS} (h : shp u) : hN u 117 = 4 := h.len 117 4 (by decide) rfl
theorem ok_118 {u : hS} (h : shp u) : hok u 118 20 := h.ok 118 20 (by decide) (by decide) rfl
theorem ln_118 {u : hS} (h : shp u) : hN u 118 = 4 := h.len 118 4 (by decide) rfl
theorem ok_119 {u : hS} (h : shp u) : hok u 119 20 := h.ok 119 20 (by decide) (by decide) rfl
theorem ln_119 {u : hS} (h : shp u) : hN u 119 = 36 := h.len 119 36 (by decide) rfl
theorem ok_120 {u : hS} (h : shp u) : hok u 120 20 := h.ok 120 20 (by decide) (by decide) rfl
theorem ln_120 {u : hS} (h : shp u) : hN u 120 = 36 := h.len 120 36 (by decide) rfl
theorem ok_121 {u : hS} (h : shp u) : hok u 121 4 := h.ok 121 4 (by decide) (by decide) rfl
theorem ok_122 {u : hS} (h : shp u) : hok u 122 20 := h.ok 122 20 (by decide) (by decide) rfl
theorem ln_122 {u : hS} (h : shp u) : hN u 122 = 4 := h.len 122 4 (by decide) rfl
theorem ok_123 {u : hS} (h : shp u) : hok u 123 20 := h.ok 123 20 (by decide) (by decide) rfl
theorem ln_123 {u : hS} (h : shp u) : hN u 123 = 4 := h.len 123 4 (by decide) rfl
theorem ok_124 {u : hS} (h : shp u) : hok u 124 20 := h.ok 124 20 (by decide) (by decide) rfl
theorem ln_124 {u : hS} (h : shp u) : hN u 124 = 36 := h.len 124 36 (by decide) rfl
theorem ok_125 {u : hS} (h : shp u) : hok u 125 20 := h.ok 125 20 (by decide) (by decide) rfl
theorem ln_125 {u : hS} (h : shp u) : hN u 125 = 36 := h.len 125 36 (by decide) rfl
theorem ok_126 {u : hS} (h : shp u) : hok u 126 4 := h.ok 126 4 (by decide) (by decide) rfl
theorem ok_127 {u : hS} (h : shp u) : hok u 127 20 := h.ok 127 20 (by decide) (by decide) rfl
theorem ln_127 {u : hS} (h : shp u) : hN u 127 = 4 := h.len 127 4 (by decide) rfl
theorem ok_128 {u : hS} (h : shp u) : hok u 128 20 := h.ok 128 20 (by decide) (by decide) rfl
theorem ln_128 {u : hS} (h : shp u) : hN u 128 = 4 := h.len 128 4 (by decide) rfl
theorem ok_129 {u : hS} (h : shp u) : hok u 129 20 := h.ok 129 20 (by decide) (by decide) rfl
theorem ln_129 {u : hS} (h : shp u) : hN u 129 = 36 := h.len 129 36 (by decide) rfl
theorem ok_130 {u : hS} (h : shp u) : hok u 130 20 := h.ok 130 20 (by decide) (by decide) rfl
theorem ln_130 {u : hS} (h : shp u) : hN u 130 = 36 := h.len 130 36 (by decide) rfl
theorem ok_131 {u : hS} (h : shp u) : hok u 131 4 := h.ok 131 4 (by decide) (by decide) rfl
theorem ok_132 {u : hS} (h : shp u) : hok u 132 20 := h.ok 132 20 (by decide) (by decide) rfl
theorem ln_132 {u : hS} (h : shp u) : hN u 132 = 4 := h.len 132 4 (by decide) rfl
theorem ok_133 {u : hS} (h : shp u) : hok u 133 20 := h.ok 133 20 (by decide) (by decide) rfl
theorem ln_133 {u : hS} (h : shp u) : hN u 133 = 4 := h.len 133 4 (by decide) rfl
theorem ok_134 {u : hS} (h : shp u) : hok u 134 20 := h.ok 134 20 (by decide) (by decide) rfl
theorem ln_134 {u : hS} (h : shp u) : hN u 134 = 36 := h.len 134 36 (by decide) rfl
theorem ok_135 {u : hS} (h : shp u) : hok u 135 20 := h.ok 135 20 (by decide) (by decide) rfl
theorem ln_135 {u : hS} (h : shp u) : hN u 135 = 36 := h.len 135 36 (by decide) rfl
theorem ok_136 {u : hS} (h : shp u) : hok u 136 4 := h.ok 136 4 (by decide) (by decide) rfl
theorem ok_137 {u : hS} (h : shp u) : hok u 137 20 := h.ok 137 20 (by decide) (by decide) rfl
theorem ln_137 {u : hS} (h : shp u) : hN u 137 = 4 := h.len 137 4 (by decide) rfl
theorem ok_138 {u : hS} (h : shp u) : hok u 138 20 := h.ok 138 20 (by decide) (by decide) rfl
theorem ln_138 {u : hS} (h : shp u) : hN u 138 = 4 := h.len 138 4 (by decide) rfl
theorem ok_139 {u : hS} (h : shp u) : hok u 139 20 := h.ok 139 20 (by decide) (by decide) rfl
theorem ln_139 {u : hS} (h : shp u) : hN u 139 = 36 := h.len 139 36 (by decide) rfl
theorem ok_140 {u : hS} (h : shp u) : hok u 140 20 := h.ok 140 20 (by decide) (by decide) rfl
theorem ln_140 {u : hS} (h : shp u) : hN u 140 = 36 := h.len 140 36 (by decide) rfl
theorem ok_141 {u : hS} (h : shp u) : hok u 141 4 := h.ok 141 4 (by decide) (by decide) rfl
theorem ok_142 {u : hS} (h : shp u) : hok u 142 20 := h.ok 142 20 (by decide) (by decide) rfl
theorem ln_142 {u : hS} (h : shp u) : hN u 142 = 4 := h.len 142 4 (by decide) rfl
theorem ok_143 {u : hS} (h : shp u) : hok u 143 20 := h.ok 143 20 (by decide) (by decide) rfl
theorem ln_143 {u : hS} (h : shp u) : hN u 143 = 4 := h.len 143 4 (by decide) rfl
theorem ok_144 {u : hS} (h : shp u) : hok u 144 20 := h.ok 144 20 (by decide) (by decide) rfl
theorem ln_144 {u : hS} (h : shp u) : hN u 144 = 36 := h.len 144 36 (by decide) rfl
theorem ok_145 {u : hS} (h : shp u) : hok u 145 20 := h.ok 145 20 (by decide) (by decide) rfl
theorem ln_145 {u : hS} (h : shp u) : hN u 145 = 36 := h.len 145 36 (by decide) rfl
theorem ok_146 {u : hS} (h : shp u) : hok u 146 4 := h.ok 146 4 (by decide) (by decide) rfl
theorem ok_147 {u : hS} (h : shp u) : hok u 147 20 := h.ok 147 20 (by decide) (by decide) rfl
theorem ln_147 {u : hS} (h : shp u) : hN u 147 = 4 := h.len 147 4 (by decide) rfl
theorem ok_148 {u : hS} (h : shp u) : hok u 148 20 := h.ok 148 20 (by decide) (by decide) rfl
theorem ln_148 {u : hS} (h : shp u) : hN u 148 = 4 := h.len 148 4 (by decide) rfl
theorem ok_149 {u : hS} (h : shp u) : hok u 149 20 := h.ok 149 20 (by decide) (by decide) rfl
theorem ln_149 {u : hS} (h : shp u) : hN u 149 = 36 := h.len 149 36 (by decide) rfl
theorem ok_150 {u : hS} (h : shp u) : hok u 150 20 := h.ok 150 20 (by decide) (by decide) rfl
theorem ln_150 {u : hS} (h : shp u) : hN u 150 = 36 := h.len 150 36 (by decide) rfl
theorem ok_151 {u : hS} (h : shp u) : hok u 151 4 := h.ok 151 4 (by decide) (by decide) rfl
theorem ok_152 {u : hS} (h : shp u) : hok u 152 20 := h.ok 152 20 (by decide) (by decide) rfl
theorem ln_152 {u : hS} (h : shp u) : hN u 152 = 4 := h.len 152 4 (by decide) rfl
theorem ok_153 {u : hS} (h : shp u) : hok u 153 20 := h.ok 153 20 (by decide) (by decide) rfl
theorem ln_153 {u : hS} (h : shp u) : hN u 153 = 4 := h.len 153 4 (by decide) rfl
theorem ok_154 {u : hS} (h : shp u) : hok u 154 20 := h.ok 154 20 (by decide) (by decide) rfl
theorem ln_154 {u : hS} (h : shp u) : hN u 154 = 36 := h.len 154 36 (by decide) rfl
theorem ok_155 {u : hS} (h : shp u) : hok u 155 20 := h.ok 155 20 (by decide) (by decide) rfl
theorem ln_155 {u : hS} (h : shp u) : hN u 155 = 36 := h.len 155 36 (by decide) rfl
theorem ok_156 {u : hS} (h : shp u) : hok u 156 4 := h.ok 156 4 (by decide) (by decide) rfl
theorem ok_157 {u : hS} (h : shp u) : hok u 157 20 := h.ok 157 20 (by decide) (by decide) rfl
theorem ln_157 {u : hS} (h : shp u) : hN u 157 = 4 := h.len 157 4 (by decide) rfl
theorem ok_158 {u : hS} (h : shp u) : hok u 158 20 := h.ok 158 20 (by decide) (by decide) rfl
theorem ln_158 {u : hS} (h : shp u) : hN u 158 = 4 := h.len 158 4 (by decide) rfl
theorem ok_159 {u : hS} (h : shp u) : hok u 159 20 := h.ok 159 20 (by decide) (by decide) rfl
theorem ln_159 {u : hS} (h : shp u) : hN u 159 = 36 := h.len 159 36 (by decide) rfl
theorem ok_160 {u : hS} (h : shp u) : hok u 160 20 := h.ok 160 20 (by decide) (by decide) rfl
theorem ln_160 {u : hS} (h : shp u) : hN u 160 = 36 := h.len 160 36 (by decide) rfl
theorem ok_161 {u : hS} (h : shp u) : hok u 161 4 := h.ok 161 4 (by decide) (by decide) rfl
theorem ok_162 {u : hS} (h : shp u) : hok u 162 20 := h.ok 162 20 (by decide) (by decide) rfl
theorem ln_162 {u : hS} (h : shp u) : hN u 162 = 4 := h.len 162 4 (by decide) rfl
theorem ok_163 {u : hS} (h : shp u) : hok u 163 20 := h.ok 163 20 (by decide) (by decide) rfl
theorem ln_163 {u : hS} (h : shp u) : hN u 163 = 4 := h.len 163 4 (by decide) rfl
theorem ok_164 {u : hS} (h : shp u) : hok u 164 20 := h.ok 164 20 (by decide) (by decide) rfl
theorem ln_164 {u : hS} (h : shp u) : hN u 164 = 36 := h.len 164 36 (by decide) rfl
theorem ok_165 {u : hS} (h : shp u) : hok u 165 20 := h.ok 165 20 (by decide) (by decide) rfl
theorem ln_165 {u : hS} (h : shp u) : hN u 165 = 36 := h.len 165 36 (by decide) rfl
theorem ok_166 {u : hS} (h : shp u) : hok u 166 4 := h.ok 166 4 (by decide) (by decide) rfl
theorem ok_167 {u : hS} (h : shp u) : hok u 167 20 := h.ok 167 20 (by decide) (by decide) rfl
theorem ln_167 {u : hS} (h : shp u) : hN u 167 = 4 := h.len 167 4 (by decide) rfl
theorem ok_168 {u : hS} (h : shp u) : hok u 168 20 := h.ok 168 20 (by decide) (by decide) rfl
theorem ln_168 {u : hS} (h : shp u) : hN u 168 = 4 := h.len 168 4 (by decide) rfl
theorem ok_169 {u : hS} (h : shp u) : hok u 169 20 := h.ok 169 20 (by decide) (by decide) rfl
theorem ln_169 {u : hS} (h : shp u) : hN u 169 = 36 := h.len 169 36 (by decide) rfl
theorem ok_170 {u : hS} (h : shp u) : hok u 170 20 := h.ok 170 20 (by decide) (by decide) rfl
theorem ln_170 {u : hS} (h : shp u) : hN u 170 = 36 := h.len 170 36 (by decide) rfl
theorem ok_171 {u : hS} (h : shp u) : hok u 171 4 := h.ok 171 4 (by decide) (by decide) rfl
theorem ok_172 {u : hS} (h : shp u) : hok u 172 20 := h.ok 172 20 (by decide) (by decide) rfl
theorem ln_172 {u : hS} (h : shp u) : hN u 172 = 4 := h.len 172 4 (by decide) rfl
theorem ok_173 {u : hS} (h : shp u) : hok u 173 20 := h.ok 173 20 (by decide) (by decide) rfl
theorem ln_173 {u : hS} (h : shp u) : hN u 173 = 4 := h.len 173 4 (by decide) rfl
theorem ok_174 {u : hS} (h : shp u) : hok u 174 20 := h.ok 174 20 (by decide) (by decide) rfl
theorem ln_174 {u : hS} (h : shp u) : hN u 174 = 36 := h.len 174 36 (by decide) rfl
theorem ok_175 {u : hS} (h : shp u) : hok u 175 20 := h.ok 175 20 (by decide) (by decide) rfl
theorem ln_175 {u : hS} (h : shp u) : hN u 175 = 36 := h.len 175 36 (by decide) rfl
theorem ok_176 {u : hS} (h : shp u) : hok u 176 4 := h.ok 176 4 (by decide) (by decide) rfl
theorem ok_177 {u : hS} (h : shp u) : hok u 177 20 := h.ok 177 20 (by decide) (by decide) rfl
theorem ln_177 {u : hS} (h : shp u) : hN u 177 = 4 := h.len 177 4 (by decide) rfl
theorem ok_178 {u : hS} (h : shp u) : hok u 178 20 := h.ok 178 20 (by decide) (by decide) rfl
theorem ln_178 {u : hS} (h : shp u) : hN u 178 = 4 := h.len 178 4 (by decide) rfl
theorem ok_179 {u : hS} (h : shp u) : hok u 179 20 := h.ok 179 20 (by decide) (by decide) rfl
theorem ln_179 {u : hS} (h : shp u) : hN u 179 = 36 := h.len 179 36 (by decide) rfl
theorem ok_180 {u : hS} (h : shp u) : hok u 180 20 := h.ok 180 20 (by decide) (by decide) rfl
theorem ln_180 {u : hS} (h : shp u) : hN u 180 = 36 := h.len 180 36 (by decide) rfl
theorem ok_181 {u : hS} (h : shp u) : hok u 181 4 := h.ok 181 4 (by decide) (by decide) rfl
theorem ok_182 {u : hS} (h : shp u) : hok u 182 20 := h.ok 182 20 (by decide) (by decide) rfl
theorem ln_182 {u : hS} (h : shp u) : hN u 182 = 4 := h.len 182 4 (by decide) rfl
theorem ok_183 {u : hS} (h : shp u) : hok u 183 20 := h.ok 183 20 (by decide) (by decide) rfl
theorem ln_183 {u : hS} (h : shp u) : hN u 183 = 4 := h.len 183 4 (by decide) rfl
theorem ok_184 {u : hS} (h : shp u) : hok u 184 20 := h.ok 184 20 (by decide) (by decide) rfl
theorem ln_184 {u : hS} (h : shp u) : hN u 184 = 36 := h.len 184 36 (by decide) rfl
theorem ok_185 {u : hS} (h : shp u) : hok u 185 20 := h.ok 185 20 (by decide) (by decide) rfl
theorem ln_185 {u : hS} (h : shp u) : hN u 185 = 36 := h.len 185 36 (by decide) rfl
theorem ok_186 {u : hS} (h : shp u) : hok u 186 4 := h.ok 186 4 (by decide) (by decide) rfl
theorem ok_187 {u : hS} (h : shp u) : hok u 187 20 := h.ok 187 20 (by decide) (by decide) rfl
theorem ln_187 {u : hS} (h : shp u) : hN u 187 = 4 := h.len 187 4 (by decide) rfl
theorem ok_188 {u : hS} (h : shp u) : hok u 188 20 := h.ok 188 20 (by decide) (by decide) rfl
theorem ln_188 {u : hS} (h : shp u) : hN u 188 = 4 := h.len 188 4 (by decide) rfl
theorem ok_189 {u : hS} (h : shp u) : hok u 189 20 := h.ok 189 20 (by decide) (by decide) rfl
theorem ln_189 {u : hS} (h : shp u) : hN u 189 = 36 := h.len 189 36 (by decide) rfl
theorem ok_190 {u : hS} (h : shp u) : hok u 190 20 := h.ok 190 20 (by decide) (by decide) rfl
theorem ln_190 {u : hS} (h : shp u) : hN u 190 = 36 := h.len 190 36 (by decide) rfl
theorem ok_191 {u : hS} (h : shp u) : hok u 191 4 := h.ok 191 4 (by decide) (by decide) rfl
theorem ok_192 {u : hS} (h : shp u) : hok u 192 20 := h.ok 192 20 (by decide) (by decide) rfl
theorem ln_192 {u : hS} (h : shp u) : hN u 192 = 4 := h.len 192 4 (by decide) rfl
theorem ok_193 {u : hS} (h : shp u) : hok u 193 20 := h.ok 193 20 (by decide) (by decide) rfl
theorem ln_193 {u : hS} (h : shp u) : hN u 193 = 4 := h.len 193 4 (by decide) rfl
theorem ok_194 {u : hS} (h : shp u) : hok u 194 20 := h.ok 194 20 (by decide) (by decide) rfl
theorem ln_194 {u : hS} (h : shp u) : hN u 194 = 36 := h.len 194 36 (by decide) rfl
theorem ok_195 {u : hS} (h : shp u) : hok u 195 20 := h.ok 195 20 (by decide) (by decide) rfl
theorem ln_195 {u : hS} (h : shp u) : hN u 195 = 36 := h.len 195 36 (by decide) rfl
theorem ok_196 {u : hS} (h : shp u) : hok u 196 0 := h.ok 196 0 (by decide) (by decide) rfl
theorem ok_197 {u : hS} (h : shp u) : hok u 197 4 := h.ok 197 4 (by decide) (by decide) rfl
theorem ok_198 {u : hS} (h : shp u) : hok u 198 20 := h.ok 198 20 (by decide) (by decide) rfl
theorem ln_198 {u : hS} (h : shp u) : hN u 198 = 4 := h.len 198 4 (by decide) rfl
theorem ok_199 {u : hS} (h : shp u) : hok u 199 20 := h.ok 199 20 (by decide) (by decide) rfl
theorem ln_199 {u : hS} (h : shp u) : hN u 199 = 4 := h.len 199 4 (by decide) rfl
theorem ok_200 {u : hS} (h : shp u) : hok u 200 20 := h.ok 200 20 (by decide) (by decide) rfl
theorem ln_200 {u : hS} (h : shp u) : hN u 200 = 36 := h.len 200 36 (by decide) rfl
theorem ok_201 {u : hS} (h : shp u) : hok u 201 20 := h.ok 201 20 (by decide) (by decide) rfl
theorem ln_201 {u : hS} (h : shp u) : hN u 201 = 36 := h.len 201 36 (by decide) rfl
theorem ok_202 {u : hS} (h : shp u) : hok u 202 0 := h.ok 202 0 (by decide) (by decide) rfl
theorem ok_203 {u : hS} (h : shp u) : hok u 203 4 := h.ok 203 4 (by decide) (by decide) rfl
theorem ok_204 {u : hS} (h : shp u) : hok u 204 20 := h.ok 204 20 (by decide) (by decide) rfl
theorem ln_204 {u : hS} (h : shp u) : hN u 204 = 4 := h.len 204 4 (by decide) rfl
theorem ok_205 {u : hS} (h : shp u) : hok u 205 20 := h.ok 205 20 (by decide) (by decide) rfl
theorem ln_205 {u : hS} (h : shp u) : hN u 205 = 4 := h.len 205 4 (by decide) rfl
theorem ok_206 {u : hS} (h : shp u) : hok u 206 20 := h.ok 206 20 (by decide) (by decide) rfl
theorem ln_206 {u : hS} (h : shp u) : hN u 206 = 36 := h.len 206 36 (by decide) rfl
theorem ok_207 {u : hS} (h : shp u) : hok u 207 20 := h.ok 207 20 (by decide) (by decide) rfl
theorem ln_207 {u : hS} (h : shp u) : hN u 207 = 36 := h.len 207 36 (by decide) rfl
theorem ok_208 {u : hS} (h : shp u) : hok u 208 0 := h.ok 208 0 (by decide) (by decide) rfl
theorem ok_209 {u : hS} (h : shp u) : hok u 209 4 := h.ok 209 4 (by decide) (by decide) rfl
theorem ok_210 {u : hS} (h : shp u) : hok u 210 20 := h.ok 210 20 (by decide) (by decide) rfl
theorem ln_210 {u : hS} (h : shp u) : hN u 210 = 4 := h.len 210 4 (by decide) rfl
theorem ok_211 {u : hS} (h : shp u) : hok u 211 20 := h.ok 211 20 (by decide) (by decide) rfl
theorem ln_211 {u : hS} (h : shp u) : hN u 211 = 4 := h.len 211 4 (by decide) rfl
theorem ok_212 {u : hS} (h : shp u) : hok u 212 20 := h.ok 212 20 (by decide) (by decide) rfl
theorem ln_212 {u : hS} (h : shp u) : hN u 212 = 36 := h.len 212 36 (by decide) rfl
theorem ok_213 {u : hS} (h : shp u) : hok u 213 20 := h.ok 213 20 (by decide) (by decide) rfl
theorem ln_213 {u : hS} (h : shp u) : hN u 213 = 36 := h.len 213 36 (by decide) rfl
theorem ok_214 {u : hS} (h : shp u) : hok u 214 0 := h.ok 214 0 (by decide) (by decide) rfl
theorem ok_215 {u : hS} (h : shp u) : hok u 215 4 := h.ok 215 4 (by decide) (by decide) rfl
theorem ok_216 {u : hS} (h : shp u) : hok u 216 20 := h.ok 216 20 (by decide) (by decide) rfl
theorem ln_216 {u : hS} (h : shp u) : hN u 216 = 4 := h.len 216 4 (by decide) rfl
theorem ok_217 {u : hS} (h : shp u) : hok u 217 20 := h.ok 217 20 (by decide) (by decide) rfl
theorem ln_217 {u : hS} (h : shp u) : hN u 217 = 4 := h.len 217 4 (by decide) rfl
theorem ok_218 {u : hS} (h : shp u) : hok u 218 20 := h.ok 218 20 (by decide) (by decide) rfl
theorem ln_218 {u : hS} (h : shp u) : hN u 218 = 36 := h.len 218 36 (by decide) rfl
theorem ok_219 {u : hS} (h : shp u) : hok u 219 20 := h.ok 219 20 (by decide) (by decide) rfl
theorem ln_219 {u : hS} (h : shp u) : hN u 219 = 36 := h.len 219 36 (by decide) rfl
theorem ok_220 {u : hS} (h : shp u) : hok u 220 10 := h.ok 220 10 (by decide) (by decide) rfl
theorem ok_221 {u : hS} (h : shp u) : hok u 221 22 := h.ok 221 22 (by decide) (by decide) rfl
theorem ln_221 {u : hS} (h : shp u) : hN u 221 = 400 := h.len 221 400 (by decide) rfl
theorem ok_222 {u : hS} (h : shp u) : hok u 222 20 := h.ok 222 20 (by decide) (by decide) rfl
theorem ln_222 {u : hS} (h : shp u) : hN u 222 = 2400 := h.len 222 2400 (by decide) rfl
theorem ok_223 {u : hS} (h : shp u) : hok u 223 20 := h.ok 223 20 (by decide) (by decide) rfl
theorem ln_223 {u : hS} (h : shp u) : hN u 223 = 7 := h.len 223 7 (by decide) rfl
theorem ok_224 {u : hS} (h : shp u) : hok u 224 20 := h.ok 224 20 (by decide) (by decide) rfl
theorem ln_224 {u : hS} (h : shp u) : hN u 224 = 288 := h.len 224 288 (by decide) rfl
theorem ok_225 {u : hS} (h : shp u) : hok u 225 20 := h.ok 225 20 (by decide) (by decide) rfl
theorem ln_225 {u : hS} (h : shp u) : hN u 225 = 6 := h.len 225 6 (by decide) rfl
theorem ok_226 {u : hS} (h : shp u) : hok u 226 20 := h.ok 226 20 (by decide) (by decide) rfl
theorem ln_226 {u : hS} (h : shp u) : hN u 226 = 160 := h.len 226 160 (by decide) rfl
theorem ok_227 {u : hS} (h : shp u) : hok u 227 20 := h.ok 227 20 (by decide) (by decide) rfl
theorem ln_227 {u : hS} (h : shp u) : hN u 227 = 400 := h.len 227 400 (by decide) rfl
theorem ok_228 {u : hS} (h : shp u) : hok u 228 21 := h.ok 228 21 (by decide) (by decide) rfl
theorem ln_228 {u : hS} (h : shp u) : hN u 228 = 64 := h.len 228 64 (by decide) rfl
theorem ok_229 {u : hS} (h : shp u) : hok u 229 21 := h.ok 229 21 (by decide) (by decide) rfl
theorem ln_229 {u : hS} (h : shp u) : hN u 229 = 12 := h.len 229 12 (by decide) rfl
theorem ok_230 {u : hS} (h : shp u) : hok u 230 20 := h.ok 230 20 (by decide) (by decide) rfl
theorem ln_230 {u : hS} (h : shp u) : hN u 230 = 160 := h.len 230 160 (by decide) rfl
theorem ok_231 {u : hS} (h : shp u) : hok u 231 20 := h.ok 231 20 (by decide) (by decide) rfl
theorem ln_231 {u : hS} (h : shp u) : hN u 231 = 9 := h.len 231 9 (by decide) rfl
theorem ok_232 {u : hS} (h : shp u) : hok u 232 20 := h.ok 232 20 (by decide) (by decide) rfl
theorem ln_232 {u : hS} (h : shp u) : hN u 232 = 8 := h.len 232 8 (by decide) rfl
theorem ok_233 {u : hS} (h : shp u) : hok u 233 20 := h.ok 233 20 (by decide) (by decide) rfl
theorem ln_233 {u : hS} (h : shp u) : hN u 233 = 1880 := h.len 233 1880 (by decide) rfl
theorem ok_234 {u : hS} (h : shp u) : hok u 234 20 := h.ok 234 20 (by decide) (by decide) rfl
theorem ln_234 {u : hS} (h : shp u) : hN u 234 = 8 := h.len 234 8 (by decide) rfl
theorem ok_235 {u : hS} (h : shp u) : hok u 235 20 := h.ok 235 20 (by decide) (by decide) rfl
theorem ln_235 {u : hS} (h : shp u) : hN u 235 = 8 := h.len 235 8 (by decide) rfl
theorem ok_236 {u : hS} (h : shp u) : hok u 236 20 := h.ok 236 20 (by decide) (by decide) rfl
theorem ln_236 {u : hS} (h : shp u) : hN u 236 = 72 := h.len 236 72 (by decide) rfl
theorem ok_237 {u : hS} (h : shp u) : hok u 237 20 := h.ok 237 20 (by decide) (by decide) rfl
theorem ln_237 {u : hS} (h : shp u) : hN u 237 = 2 := h.len 237 2 (by decide) rfl
theorem ok_238 {u : hS} (h : shp u) : hok u 238 20 := h.ok 238 20 (by decide) (by decide) rfl
theorem ln_238 {u : hS} (h : shp u) : hN u 238 = 9 := h.len 238 9 (by decide) rfl
theorem ok_239 {u : hS} (h : shp u) : hok u 239 20 := h.ok 239 20 (by decide) (by decide) rfl
theorem ln_239 {u : hS} (h : shp u) : hN u 239 = 94 := h.len 239 94 (by decide) rfl
theorem ok_240 {u : hS} (h : shp u) : hok u 240 20 := h.ok 240 20 (by decide) (by decide) rfl
theorem ln_240 {u : hS} (h : shp u) : hN u 240 = 640 := h.len 240 640 (by decide) rfl
theorem ok_241 {u : hS} (h : shp u) : hok u 241 20 := h.ok 241 20 (by decide) (by decide) rfl
theorem ln_241 {u : hS} (h : shp u) : hN u 241 = 4 := h.len 241 4 (by decide) rfl
theorem ok_242 {u : hS} (h : shp u) : hok u 242 23 := h.ok 242 23 (by decide) (by decide) rfl
theorem ln_242 {u : hS} (h : shp u) : hN u 242 = 4 := h.len 242 4 (by decide) rfl
theorem rf_1_0 {u : hS} (h : shp u) : hF u 1 0 = 2 := h.2.2 (1, 0, 2) (List.mem_of_getElem? (i := 0) rfl)
theorem rf_1_1 {u : hS} (h : shp u) : hF u 1 1 = 4 := h.2.2 (1, 1, 4) (List.mem_of_getElem? (i := 1) rfl)
theorem rf_1_3 {u : hS} (h : shp u) : hF u 1 3 = 30 := h.2.2 (1, 3, 30) (List.mem_of_getElem? (i := 2) rfl)
theorem rf_1_4 {u : hS} (h : shp u) : hF u 1 4 = 35 := h.2.2 (1, 4, 35) (List.mem_of_getElem? (i := 3) rfl)
theorem rf_1_5 {u : hS} (h : shp u) : hF u 1 5 = 5 := h.2.2 (1, 5, 5) (List.mem_of_getElem? (i := 4) rfl)
theorem rf_1_8 {u : hS} (h : shp u) : hF u 1 8 = 6 := h.2.2 (1, 8, 6) (List.mem_of_getElem? (i := 5) rfl)
theorem rf_1_10 {u : hS} (h : shp u) : hF u 1 10 = 40 := h.2.2 (1, 10, 40) (List.mem_of_getElem? (i := 6) rfl)
theorem rf_1_11 {u : hS} (h : shp u) : hF u 1 11 = 46 := h.2.2 (1, 11, 46) (List.mem_of_getElem? (i := 7) rfl)
theorem rf_1_12 {u : hS} (h : shp u) : hF u 1 12 = 48 := h.2.2 (1, 12, 48) (List.mem_of_getElem? (i := 8) rfl)
theorem rf_1_13 {u : hS} (h : shp u) : hF u 1 13 = 7 := h.2.2 (1, 13, 7) (List.mem_of_getElem? (i := 9) rfl)
theorem rf_1_14 {u : hS} (h : shp u) : hF u 1 14 = 8 := h.2.2 (1, 14, 8) (List.mem_of_getElem? (i := 10) rfl)
theorem rf_1_15 {u : hS} (h : shp u) : hF u 1 15 = 9 := h.2.2 (1, 15, 9) (List.mem_of_getElem? (i := 11) rfl)
theorem rf_1_16 {u : hS} (h : shp u) : hF u 1 16 = 10 := h.2.2 (1, 16, 10) (List.mem_of_getElem? (i := 12) rfl)
theorem rf_1_17 {u : hS} (h : shp u) : hF u 1 17 = 11 := h.2.2 (1, 17, 11) (List.mem_of_getElem? (i := 13) rfl)
theorem rf_2_0 {u : hS} (h : shp u) : hF u 2 0 = 3 := h.2.2 (2, 0, 3) (List.mem_of_getElem? (i := 14) rfl)
theorem rf_4_0 {u : hS} (h : shp u) : hF u 4 0 = 54 := h.2.2 (4, 0, 54) (List.mem_of_getElem? (i := 15) rfl)
theorem rf_4_1 {u : hS} (h : shp u) : hF u 4 1 = 61 := h.2.2 (4, 1, 61) (List.mem_of_getElem? (i := 16) rfl)
theorem rf_4_2 {u : hS} (h : shp u) : hF u 4 2 = 68 := h.2.2 (4, 2, 68) (List.mem_of_getElem? (i := 17) rfl)
theorem rf_4_3 {u : hS} (h : shp u) : hF u 4 3 = 75 := h.2.2 (4, 3, 75) (List.mem_of_getElem? (i := 18) rfl)
theorem rf_4_4 {u : hS} (h : shp u) : hF u 4 4 = 82 := h.2.2 (4, 4, 82) (List.mem_of_getElem? (i := 19) rfl)
theorem rf_4_5 {u : hS} (h : shp u) : hF u 4 5 = 89 := h.2.2 (4, 5, 89) (List.mem_of_getElem? (i := 20) rfl)
theorem rf_5_0 {u : hS} (h : shp u) : hF u 5 0 = 96 := h.2.2 (5, 0, 96) (List.mem_of_getElem? (i := 21) rfl)
theorem rf_5_1 {u : hS} (h : shp u) : hF u 5 1 = 101 := h.2.2 (5, 1, 101) (List.mem_of_getElem? (i := 22) rfl)
theorem rf_5_2 {u : hS} (h : shp u) : hF u 5 2 = 106 := h.2.2 (5, 2, 106) (List.mem_of_getElem? (i := 23) rfl)
theorem rf_5_3 {u : hS} (h : shp u) : hF u 5 3 = 111 := h.2.2 (5, 3, 111) (List.mem_of_getElem? (i := 24) rfl)
theorem rf_5_4 {u : hS} (h : shp u) : hF u 5 4 = 116 := h.2.2 (5, 4, 116) (List.mem_of_getElem? (i := 25) rfl)
theorem rf_5_5 {u : hS} (h : shp u) : hF u 5 5 = 121 := h.2.2 (5, 5, 121) (List.mem_of_getElem? (i := 26) rfl)
theorem rf_5_6 {u : hS} (h : shp u) : hF u 5 6 = 126 := h.2.2 (5, 6, 126) (List.mem_of_getElem? (i := 27) rfl)
theorem rf_5_7 {u : hS} (h : shp u) : hF u 5 7 = 131 := h.2.2 (5, 7, 131) (List.mem_of_getElem? (i := 28) rfl)
theorem rf_5_8 {u : hS} (h : shp u) : hF u 5 8 = 136 := h.2.2 (5, 8, 136) (List.mem_of_getElem? (i := 29) rfl)
theorem rf_5_9 {u : hS} (h : shp u) : hF u 5 9 = 141 := h.2.2 (5, 9, 141) (List.mem_of_getElem? (i := 30) rfl)
theorem rf_5_10 {u : hS} (h : shp u) : hF u 5 10 = 146 := h.2.2 (5, 10, 146) (List.mem_of_getElem? (i := 31) rfl)
theorem rf_5_11 {u : hS} (h : shp u) : hF u 5 11 = 151 := h.2.2 (5, 11, 151) (List.mem_of_getElem? (i := 32) rfl)
theorem rf_5_12 {u : hS} (h : shp u) : hF u 5 12 = 156 := h.2.2 (5, 12, 156) (List.mem_of_getElem? (i := 33) rfl)
theorem rf_5_13 {u : hS} (h : shp u) : hF u 5 13 = 161 := h.2.2 (5, 13, 161) (List.mem_of_getElem? (i := 34) rfl)
theorem rf_5_14 {u : hS} (h : shp u) : hF u 5 14 = 166 := h.2.2 (5, 14, 166) (List.mem_of_getElem? (i := 35) rfl)
theorem rf_5_15 {u : hS} (h : shp u) : hF u 5 15 = 171 := h.2.2 (5, 15, 171) (List.mem_of_getElem? (i := 36) rfl)
theorem rf_5_16 {u : hS} (h : shp u) : hF u 5 16 = 176 := h.2.2 (5, 16, 176) (List.mem_of_getElem? (i := 37) rfl)
theorem rf_5_17 {u : hS} (h : shp u) : hF u 5 17 = 181 := h.2.2 (5, 17, 181) (List.mem_of_getElem? (i := 38) rfl)
theorem rf_5_18 {u : hS} (h : shp u) : hF u 5 18 = 186 := h.2.2 (5, 18, 186) (List.mem_of_getElem? (i := 39) rfl)
theorem rf_5_19 {u : hS} (h : shp u) : hF u 5 19 = 191 := h.2.2 (5, 19, 191) (List.mem_of_getElem? (i := 40) rfl)
theorem rf_6_0 {u : hS} (h : shp u) : hF u 6 0 = 196 := h.2.2 (6, 0, 196) (List.mem_of_getElem? (i := 41) rfl)
theorem rf_6_1 {u : hS} (h : shp u) : hF u 6 1 = 202 := h.2.2 (6, 1, 202) (List.mem_of_getElem? (i := 42) rfl)
theorem rf_6_2 {u : hS} (h : shp u) : hF u 6 2 = 208 := h.2.2 (6, 2, 208) (List.mem_of_getElem? (i := 43) rfl)
theorem rf_6_3 {u : hS} (h : shp u) : hF u 6 3 = 214 := h.2.2 (6, 3, 214) (List.mem_of_getElem? (i := 44) rfl)
theorem rf_30_2 {u : hS} (h : shp u) : hF u 30 2 = 31 := h.2.2 (30, 2, 31) (List.mem_of_getElem? (i := 45) rfl)
theorem rf_30_3 {u : hS} (h : shp u) : hF u 30 3 = 32 := h.2.2 (30, 3, 32) (List.mem_of_getElem? (i := 46) rfl)
theorem rf_30_4 {u : hS} (h : shp u) : hF u 30 4 = 33 := h.2.2 (30, 4, 33) (List.mem_of_getElem? (i := 47) rfl)
theorem rf_30_5 {u : hS} (h : shp u) : hF u 30 5 = 34 := h.2.2 (30, 5, 34) (List.mem_of_getElem? (i := 48) rfl)
theorem rf_35_2 {u : hS} (h : shp u) : hF u 35 2 = 36 := h.2.2 (35, 2, 36) (List.mem_of_getElem? (i := 49) rfl)
theorem rf_35_3 {u : hS} (h : shp u) : hF u 35 3 = 37 := h.2.2 (35, 3, 37) (List.mem_of_getElem? (i := 50) rfl)
theorem rf_35_4 {u : hS} (h : shp u) : hF u 35 4 = 38 := h.2.2 (35, 4, 38) (List.mem_of_getElem? (i := 51) rfl)
theorem rf_35_5 {u : hS} (h : shp u) : hF u 35 5 = 39 := h.2.2 (35, 5, 39) (List.mem_of_getElem? (i := 52) rfl)
theorem rf_40_0 {u : hS} (h : shp u) : hF u 40 0 = 41 := h.2.2 (40, 0, 41) (List.mem_of_getElem? (i := 53) rfl)
theorem rf_40_1 {u : hS} (h : shp u) : hF u 40 1 = 42 := h.2.2 (40, 1, 42) (List.mem_of_getElem? (i := 54) rfl)
theorem rf_40_2 {u : hS} (h : shp u) : hF u 40 2 = 43 := h.2.2 (40, 2, 43) (List.mem_of_getElem? (i := 55) rfl)
theorem rf_40_3 {u : hS} (h : shp u) : hF u 40 3 = 44 := h.2.2 (40, 3, 44) (List.mem_of_getElem? (i := 56) rfl)
theorem rf_40_4 {u : hS} (h : shp u) : hF u 40 4 = 45 := h.2.2 (40, 4, 45) (List.mem_of_getElem? (i := 57) rfl)
theorem rf_46_0 {u : hS} (h : shp u) : hF u 46 0 = 47 := h.2.2 (46, 0, 47) (List.mem_of_getElem? (i := 58) rfl)
theorem rf_48_0 {u : hS} (h : shp u) : hF u 48 0 = 49 := h.2.2 (48, 0, 49) (List.mem_of_getElem? (i := 59) rfl)
theorem rf_48_1 {u : hS} (h : shp u) : hF u 48 1 = 50 := h.2.2 (48, 1, 50) (List.mem_of_getElem? (i := 60) rfl)
theorem rf_48_2 {u : hS} (h : shp u) : hF u 48 2 = 51 := h.2.2 (48, 2, 51) (List.mem_of_getElem? (i := 61) rfl)
theorem rf_48_3 {u : hS} (h : shp u) : hF u 48 3 = 52 := h.2.2 (48, 3, 52) (List.mem_of_getElem? (i := 62) rfl)
theorem rf_48_4 {u : hS} (h : shp u) : hF u 48 4 = 53 := h.2.2 (48, 4, 53) (List.mem_of_getElem? (i := 63) rfl)
theorem rf_54_0 {u : hS} (h : shp u) : hF u 54 0 = 55 := h.2.2 (54, 0, 55) (List.mem_of_getElem? (i := 64) rfl)
theorem rf_54_1 {u : hS} (h : shp u) : hF u 54 1 = 56 := h.2.2 (54, 1, 56) (List.mem_of_getElem? (i := 65) rfl)
theorem rf_54_2 {u : hS} (h : shp u) : hF u 54 2 = 57 := h.2.2 (54, 2, 57) (List.mem_of_getElem? (i := 66) rfl)
theorem rf_54_3 {u : hS} (h : shp u) : hF u 54 3 = 58 := h.2.2 (54, 3, 58) (List.mem_of_getElem? (i := 67) rfl)
theorem rf_54_4 {u : hS} (h : shp u) : hF u 54 4 = 59 := h.2.2 (54, 4, 59) (List.mem_of_getElem? (i := 68) rfl)
theorem rf_54_5 {u : hS} (h : shp u) : hF u 54 5 = 60 := h.2.2 (54, 5, 60) (List.mem_of_getElem? (i := 69) rfl)
theorem rf_61_0 {u : hS} (h : shp u) : hF u 61 0 = 62 := h.2.2 (61, 0, 62) (List.mem_of_getElem? (i := 70) rfl)
theorem rf_61_1 {u : hS} (h : shp u) : hF u 61 1 = 63 := h.2.2 (61, 1, 63) (List.mem_of_getElem? (i := 71) rfl)
theorem rf_61_2 {u : hS} (h : shp u) : hF u 61 2 = 64 := h.2.2 (61, 2, 64) (List.mem_of_getElem? (i := 72) rfl)
theorem rf_61_3 {u : hS} (h : shp u) : hF u 61 3 = 65 := h.2.2 (61, 3, 65) (List.mem_of_getElem? (i := 73) rfl)
theorem rf_61_4 {u : hS} (h : shp u) : hF u 61 4 = 66 := h.2.2 (61, 4, 66) (List.mem_of_getElem? (i := 74) rfl)
theorem rf_61_5 {u : hS} (h : shp u) : hF u 61 5 = 67 := h.2.2 (61, 5, 67) (List.mem_of_getElem? (i := 75) rfl)
theorem rf_68_0 {u : hS} (h : shp u) : hF u 68 0 = 69 := h.2.2 (68, 0, 69) (List.mem_of_getElem? (i := 76) rfl)
theorem rf_68_1 {u : hS} (h : shp u) : hF u 68 1 = 70 := h.2.2 (68, 1, 70) (List.mem_of_getElem? (i := 77) rfl)
theorem rf_68_2 {u : hS} (h : shp u) : hF u 68 2 = 71 := h.2.2 (68, 2, 71) (List.mem_of_getElem? (i := 78) rfl)
theorem rf_68_3 {u : hS} (h : shp u) : hF u 68 3 = 72 := h.2.2 (68, 3, 72) (List.mem_of_getElem? (i := 79) rfl)
theorem rf_68_4 {u : hS} (h : shp u) : hF u 68 4 = 73 := h.2.2 (68, 4, 73) (List.mem_of_getElem? (i := 80) rfl)
theorem rf_68_5 {u : hS} (h : shp u) : hF u 68 5 = 74 := h.2.2 (68, 5, 74) (List.mem_of_getElem? (i := 81) rfl)
theorem rf_75_0 {u : hS} (h : shp u) : hF u 75 0 = 76 := h.2.2 (75, 0, 76) (List.mem_of_getElem? (i := 82) rfl)
theorem rf_75_1 {u : hS} (h : shp u) : hF u 75 1 = 77 := h.2.2 (75, 1, 77) (List.mem_of_getElem? (i := 83) rfl)
theorem rf_75_2 {u : hS} (h : shp u) : hF u 75 2 = 78 := h.2.2 (75, 2, 78) (List.mem_of_getElem? (i := 84) rfl)
theorem rf_75_3 {u : hS} (h : shp u) : hF u 75 3 = 79 := h.2.2 (75, 3, 79) (List.mem_of_getElem? (i := 85) rfl)
theorem rf_75_4 {u : hS} (h : shp u) : hF u 75 4 = 80 := h.2.2 (75, 4, 80) (List.mem_of_getElem? (i := 86) rfl)
theorem rf_75_5 {u : hS} (h : shp u) : hF u 75 5 = 81 := h.2.2 (75, 5, 81) (List.mem_of_getElem? (i := 87) rfl)
theorem rf_82_0 {u : hS} (h : shp u) : hF u 82 0 = 83 := h.2.2 (82, 0, 83) (List.mem_of_getElem? (i := 88) rfl)
theorem rf_82_1 {u : hS} (h : shp u) : hF u 82 1 = 84 := h.2.2 (82, 1, 84) (List.mem_of_getElem? (i := 89) rfl)
theorem rf_82_2 {u : hS} (h : shp u) : hF u 82 2 = 85 := h.2.2 (82, 2, 85) (List.mem_of_getElem? (i := 90) rfl)
theorem rf_82_3 {u : hS} (h : shp u) : hF u 82 3 = 86 := h.2.2 (82, 3, 86) (List.mem_of_getElem? (i := 91) rfl)
theorem rf_82_4 {u : hS} (h : shp u) : hF u 82 4 = 87 := h.2.2 (82, 4, 87) (List.mem_of_getElem? (i := 92) rfl)
theorem rf_82_5 {u : hS} (h : shp u) : hF u 82 5 = 88 := h.2.2 (82, 5, 88) (List.mem_of_getElem? (i := 93) rfl)
theorem rf_89_0 {u : hS} (h : shp u) : hF u 89 0 = 90 := h.2.2 (89, 0, 90) (List.mem_of_getElem? (i := 94) rfl)
theorem rf_89_1 {u : hS} (h : shp u) : hF u 89 1 = 91 := h.2.2 (89, 1, 91) (List.mem_of_getElem? (i := 95) rfl)
theorem rf_89_2 {u : hS} (h : shp u) : hF u 89 2 = 92 := h.2.2 (89, 2, 92) (List.mem_of_getElem? (i := 96) rfl)
theorem rf_89_3 {u : hS} (h : shp u) : hF u 89 3 = 93 := h.2.2 (89, 3, 93) (List.mem_of_getElem? (i := 97) rfl)
theorem rf_89_4 {u : hS} (h : shp u) : hF u 89 4 = 94 := h.2.2 (89, 4, 94) (List.mem_of_getElem? (i := 98) rfl)
theorem rf_89_5 {u : hS} (h : shp u) : hF u 89 5 = 95 := h.2.2 (89, 5, 95) (List.mem_of_getElem? (i := 99) rfl)
theorem rf_96_2 {u : hS} (h : shp u) : hF u 96 2 = 97 := h.2.2 (96, 2, 97) (List.mem_of_getElem? (i := 100) rfl)
theorem rf_96_3 {u : hS} (h : shp u) : hF u 96 3 = 98 := h.2.2 (96, 3, 98) (List.mem_of_getElem? (i := 101) rfl)
theorem rf_96_4 {u : hS} (h : shp u) : hF u 96 4 = 99 := h.2.2 (96, 4, 99) (List.mem_of_getElem? (i := 102) rfl)
theorem rf_96_5 {u : hS} (h : shp u) : hF u 96 5 = 100 := h.2.2 (96, 5, 100) (List.mem_of_getElem? (i := 103) rfl)
theorem rf_101_2 {u : hS} (h : shp u) : hF u 101 2 = 102 := h.2.2 (101, 2, 102) (List.mem_of_getElem? (i := 104) rfl)
theorem rf_101_3 {u : hS} (h : shp u) : hF u 101 3 = 103 := h.2.2 (101, 3, 103) (List.mem_of_getElem? (i := 105) rfl)
theorem rf_101_4 {u : hS} (h : shp u) : hF u 101 4 = 104 := h.2.2 (101, 4, 104) (List.mem_of_getElem? (i := 106) rfl)
theorem rf_101_5 {u : hS} (h : shp u) : hF u 101 5 = 105 := h.2.2 (101, 5, 105) (List.mem_of_getElem? (i := 107) rfl)
theorem rf_106_2 {u : hS} (h : shp u) : hF u 106 2 = 107 := h.2.2 (106, 2, 107) (List.mem_of_getElem? (i := 108) rfl)
theorem rf_106_3 {u : hS} (h : shp u) : hF u 106 3 = 108 := h.2.2 (106, 3, 108) (List.mem_of_getElem? (i := 109) rfl)
theorem rf_106_4 {u : hS} (h : shp u) : hF u 106 4 = 109 := h.2.2 (106, 4, 109) (List.mem_of_getElem? (i := 110) rfl)
theorem rf_106_5 {u : hS} (h : shp u) : hF u 106 5 = 110 := h.2.2 (106, 5, 110) (List.mem_of_getElem? (i := 111) rfl)
theorem rf_111_2 {u : hS} (h : shp u) : hF u 111 2 = 112 := h.2.2 (111, 2, 112) (List.mem_of_getElem? (i := 112) rfl)
theorem rf_111_3 {u : hS} (h : shp u) : hF u 111 3 = 113 := h.2.2 (111, 3, 113) (List.mem_of_getElem? (i := 113) rfl)
theorem rf_111_4 {u : hS} (h : shp u) : hF u 111 4 = 114 := h.2.2 (111, 4, 114) (List.mem_of_getElem? (i := 114) rfl)
theorem rf_111_5 {u : hS} (h : shp u) : hF u 111 5 = 115 := h.2.2 (111, 5, 115) (List.mem_of_getElem? (i := 115) rfl)
theorem rf_116_2 {u : hS} (h : shp u) : hF u 116 2 = 117 := h.2.2 (116, 2, 117) (List.mem_of_getElem? (i := 116) rfl)
theorem rf_116_3 {u : hS} (h : shp u) : hF u 116 3 = 118 := h.2.2 (116, 3, 118) (List.mem_of_getElem? (i := 117) rfl)
theorem rf_116_4 {u : hS} (h : shp u) : hF u 116 4 = 119 := h.2.2 (116, 4, 119) (List.mem_of_getElem? (i := 118) rfl)
theorem rf_116_5 {u : hS} (h : shp u) : hF u 116 5 = 120 := h.2.2 (116, 5, 120) (List.mem_of_getElem? (i := 119) rfl)
theorem rf_121_2 {u : hS} (h : shp u) : hF u 121 2 = 122 := h.2.2 (121, 2, 122) (List.mem_of_getElem? (i := 120) rfl)
theorem rf_121_3 {u : hS} (h : shp u) : hF u 121 3 = 123 := h.2.2 (121, 3, 123) (List.mem_of_getElem? (i := 121) rfl)
theorem rf_121_4 {u : hS} (h : shp u) : hF u 121 4 = 124 := h.2.2 (121, 4, 124) (List.mem_of_getElem? (i := 122) rfl)
theorem rf_121_5 {u : hS} (h : shp u) : hF u 121 5 = 125 := h.2.2 (121, 5, 125) (List.mem_of_getElem? (i := 123) rfl)
theorem rf_126_2 {u : hS} (h : shp u) : hF u 126 2 = 127 := h.2.2 (126, 2, 127) (List.mem_of_getElem? (i := 124) rfl)
theorem rf_126_3 {u : hS} (h : shp u) : hF u 126 3 = 128 := h.2.2 (126, 3, 128) (List.mem_of_getElem? (i := 125) rfl)
theorem rf_126_4 {u : hS} (h : shp u) : hF u 126 4 = 129 := h.2.2 (126, 4, 129) (List.mem_of_getElem? (i := 126) rfl)
theorem rf_126_5 {u : hS} (h : shp u) : hF u 126 5 = 130 := h.2.2 (126, 5, 130) (List.mem_of_getElem? (i := 127) rfl)
theorem rf_131_2 {u : hS} (h : shp u) : hF u 131 2 = 132 := h.2.2 (131, 2, 132) (List.mem_of_getElem? (i := 128) rfl)
theorem rf_131_3 {u : hS} (h : shp u) : hF u 131 3 = 133 := h.2.2 (131, 3, 133) (List.mem_of_getElem? (i := 129) rfl)
theorem rf_131_4 {u : hS} (h : shp u) : hF u 131 4 = 134 := h.2.2 (131, 4, 134) (List.mem_of_getElem? (i := 130) rfl)
theorem rf_131_5 {u : hS} (h : shp u) : hF u 131 5 = 135 := h.2.2 (131, 5, 135) (List.mem_of_getElem? (i := 131) rfl)
theorem rf_136_2 {u : hS} (h : shp u) : hF u 136 2 = 137 := h.2.2 (136, 2, 137) (List.mem_of_getElem? (i := 132) rfl)
theorem rf_136_3 {u : hS} (h : shp u) : hF u 136 3 = 138 := h.2.2 (136, 3, 138) (List.mem_of_getElem? (i := 133) rfl)
theorem rf_136_4 {u : hS} (h : shp u) : hF u 136 4 = 139 := h.2.2 (136, 4, 139) (List.mem_of_getElem? (i := 134) rfl)
theorem rf_136_5 {u : hS} (h : shp u) : hF u 136 5 = 140 := h.2.2 (136, 5, 140) (List.mem_of_getElem? (i := 135) rfl)
theorem rf_141_2 {u : hS} (h : shp u) : hF u 141 2 = 142 := h.2.2 (141, 2, 142) (List.mem_of_getElem? (i := 136) rfl)
theorem rf_141_3 {u : hS} (h : shp u) : hF u 141 3 = 143 := h.2.2 (141, 3, 143) (List.mem_of_getElem? (i := 137) rfl)
theorem rf_141_4 {u : hS} (h : shp u) : hF u 141 4 = 144 := h.2.2 (141, 4, 144) (List.mem_of_getElem? (i := 138) rfl)
theorem rf_141_5 {u : hS} (h : shp u) : hF u 141 5 = 145 := h.2.2 (141, 5, 145) (List.mem_of_getElem? (i := 139) rfl)
theorem rf_146_2 {u : hS} (h : shp u) : hF u 146 2 = 147 := h.2.2 (146, 2, 147) (List.mem_of_getElem? (i := 140) rfl)
theorem rf_146_3 {u : hS} (h : shp u) : hF u 146 3 = 148 := h.2.2 (146, 3, 148) (List.mem_of_getElem? (i := 141) rfl)
theorem rf_146_4 {u : hS} (h : shp u) : hF u 146 4 = 149 := h.2.2 (146, 4, 149) (List.mem_of_getElem? (i := 142) rfl)
theorem rf_146_5 {u : hS} (h : shp u) : hF u 146 5 = 150 := h.2.2 (146, 5, 150) (List.mem_of_getElem? (i := 143) rfl)
theorem rf_151_2 {u : hS} (h : shp u) : hF u 151 2 = 152 := h.2.2 (151, 2, 152) (List.mem_of_getElem? (i := 144) rfl)
theorem rf_151_3 {u : hS} (h : shp u) : hF u 151 3 = 153 := h.2.2 (151, 3, 153) (List.mem_of_getElem? (i := 145) rfl)
theorem rf_151_4 {u : hS} (h : shp u) : hF u 151 4 = 154 := h.2.2 (151, 4, 154) (List.mem_of_getElem? (i := 146) rfl)
theorem rf_151_5 {u : hS} (h : shp u) : hF u 151 5 = 155 := h.2.2 (151, 5, 155) (List.mem_of_getElem? (i := 147) rfl)
theorem rf_156_2 {u : hS} (h : shp u) : hF u 156 2 = 157 := h.2.2 (156, 2, 157) (List.mem_of_getElem? (i := 148) rfl)
theorem rf_156_3 {u : hS} (h : shp u) : hF u 156 3 = 158 := h.2.2 (156, 3, 158) (List.mem_of_getElem? (i := 149) rfl)
theorem rf_156_4 {u : hS} (h : shp u) : hF u 156 4 = 159 := h.2.2 (156, 4, 159) (List.mem_of_getElem? (i := 150) rfl)
theorem rf_156_5 {u : hS} (h : shp u) : hF u 156 5 = 160 := h.2.2 (156, 5, 160) (List.mem_of_getElem? (i := 151) rfl)
theorem rf_161_2 {u : hS} (h : shp u) : hF u 161 2 = 162 := h.2.2 (161, 2, 162) (List.mem_of_getElem? (i := 152) rfl)
theorem rf_161_3 {u : hS} (h : shp u) : hF u 161 3 = 163 := h.2.2 (161, 3, 163) (List.mem_of_getElem? (i := 153) rfl)
theorem rf_161_4 {u : hS} (h : shp u) : hF u 161 4 = 164 := h.2.2 (161, 4, 164) (List.mem_of_getElem? (i := 154) rfl)
theorem rf_161_5 {u : hS} (h : shp u) : hF u 161 5 = 165 := h.2.2 (161, 5, 165) (List.mem_of_getElem? (i := 155) rfl)
theorem rf_166_2 {u : hS} (h : shp u) : hF u 166 2 = 167 := h.2.2 (166, 2, 167) (List.mem_of_getElem? (i := 156) rfl)
theorem rf_166_3 {u : hS} (h : shp u) : hF u 166 3 = 168 := h.2.2 (166, 3, 168) (List.mem_of_getElem? (i := 157) rfl)
theorem rf_166_4 {u : hS} (h : shp u) : hF u 166 4 = 169 := h.2.2 (166, 4, 169) (List.mem_of_getElem? (i := 158) rfl)
theorem rf_166_5 {u : hS} (h : shp u) : hF u 166 5 = 170 := h.2.2 (166, 5, 170) (List.mem_of_getElem? (i := 159) rfl)
theorem rf_171_2 {u : hS} (h : shp u) : hF u 171 2 = 172 := h.2.2 (171, 2, 172) (List.mem_of_getElem? (i := 160) rfl)
theorem rf_171_3 {u : hS} (h : shp u) : hF u 171 3 = 173 := h.2.2 (171, 3, 173) (List.mem_of_getElem? (i := 161) rfl)
theorem rf_171_4 {u : hS} (h : shp u) : hF u 171 4 = 174 := h.2.2 (171, 4, 174) (List.mem_of_getElem? (i := 162) rfl)
theorem rf_171_5 {u : hS} (h : shp u) : hF u 171 5 = 175 := h.2.2 (171, 5, 175) (List.mem_of_getElem? (i := 163) rfl)
theorem rf_176_2 {u : hS} (h : shp u) : hF u 176 2 = 177 := h.2.2 (176, 2, 177) (List.mem_of_getElem? (i := 164) rfl)
theorem rf_176_3 {u : hS} (h : shp u) : hF u 176 3 = 178 := h.2.2 (176, 3, 178) (List.mem_of_getElem? (i := 165) rfl)
theorem rf_176_4 {u : hS} (h : shp u) : hF u 176 4 = 179 := h.2.2 (176, 4, 179) (List.mem_of_getElem? (i := 166) rfl)
theorem rf_176_5 {u : hS} (h : shp u) : hF u 176 5 = 180 := h.2.2 (176, 5, 180) (List.mem_of_getElem? (i := 167) rfl)
theorem rf_181_2 {u : hS} (h : shp u) : hF u 181 2 = 182 := h.2.2 (181, 2, 182) (List.mem_of_getElem? (i := 168) rfl)
theorem rf_181_3 {u : hS} (h : shp u) : hF u 181 3 = 183 := h.2.2 (181, 3, 183) (List.mem_of_getElem? (i := 169) rfl)
theorem rf_181_4 {u : hS} (h : shp u) : hF u 181 4 = 184 := h.2.2 (181, 4, 184) (List.mem_of_getElem? (i := 170) rfl)
theorem rf_181_5 {u : hS} (h : shp u) : hF u 181 5 = 185 := h.2.2 (181, 5, 185) (List.mem_of_getElem? (i := 171) rfl)
theorem rf_186_2 {u : hS} (h : shp u) : hF u 186 2 = 187 := h.2.2 (186, 2, 187) (List.mem_of_getElem? (i := 172) rfl)
theorem rf_186_3 {u : hS} (h : shp u) : hF u 186 3 = 188 := h.2.2 (186, 3, 188) (List.mem_of_getElem? (i := 173) rfl)
theorem rf_186_4 {u : hS} (h : shp u) : hF u 186 4 = 189 := h.2.2 (186, 4, 189) (List.mem_of_getElem? (i := 174) rfl)
theorem rf_186_5 {u : hS} (h : shp u) : hF u 186 5 = 190 := h.2.2 (186, 5, 190) (List.mem_of_getElem? (i := 175) rfl)
theorem rf_191_2 {u : hS} (h : shp u) : hF u 191 2 = 192 := h.2.2 (191, 2, 192) (List.mem_of_getElem? (i := 176) rfl)
theorem rf_191_3 {u : hS} (h : shp u) : hF u 191 3 = 193 := h.2.2 (191, 3, 193) (List.mem_of_getElem? (i := 177) rfl)
theorem rf_191_4 {u : hS} (h : shp u) : hF u 191 4 = 194 := h.2.2 (191, 4, 194) (List.mem_of_getElem? (i := 178) rfl)
theorem rf_191_5 {u : hS} (h : shp u) : hF u 191 5 = 195 := h.2.2 (191, 5, 195) (List.mem_of_getElem? (i := 179) rfl)
theorem rf_196_0 {u : hS} (h : shp u) : hF u 196 0 = 197 := h.2.2 (196, 0, 197) (List.mem_of_getElem? (i := 180) rfl)
theorem rf_197_2 {u : hS} (h : shp u) : hF u 197 2 = 198 := h.2.2 (197, 2, 198) (List.mem_of_getElem? (i := 181) rfl)
theorem rf_197_3 {u : hS} (h : shp u) : hF u 197 3 = 199 := h.2.2 (197, 3, 199) (List.mem_of_getElem? (i := 182) rfl)
theorem rf_197_4 {u : hS} (h : shp u) : hF u 197 4 = 200 := h.2.2 (197, 4, 200) (List.mem_of_getElem? (i := 183) rfl)
theorem rf_197_5 {u : hS} (h : shp u) : hF u 197 5 = 201 := h.2.2 (197, 5, 201) (List.mem_of_getElem? (i := 184) rfl)
theorem rf_202_0 {u : hS} (h : shp u) : hF u 202 0 = 203 := h.2.2 (202, 0, 203) (List.mem_of_getElem? (i := 185) rfl)
theorem rf_203_2 {u : hS} (h : shp u) : hF u 203 2 = 204 := h.2.2 (203, 2, 204) (List.mem_of_getElem? (i := 186) rfl)
theorem rf_203_3 {u : hS} (h : shp u) : hF u 203 3 = 205 := h.2.2 (203, 3, 205) (List.mem_of_getElem? (i := 187) rfl)
theorem rf_203_4 {u : hS} (h : shp u) : hF u 203 4 = 206 := h.2.2 (203, 4, 206) (List.mem_of_getElem? (i := 188) rfl)
theorem rf_203_5 {u : hS} (h : shp u) : hF u 203 5 = 207 := h.2.2 (203, 5, 207) (List.mem_of_getElem? (i := 189) rfl)
theorem rf_208_0 {u : hS} (h : shp u) : hF u 208 0 = 209 := h.2.2 (208, 0, 209) (List.mem_of_getElem? (i := 190) rfl)
theorem rf_209_2 {u : hS} (h : shp u) : hF u 209 2 = 210 := h.2.2 (209, 2, 210) (List.mem_of_getElem? (i := 191) rfl)
theorem rf_209_3 {u : hS} (h : shp u) : hF u 209 3 = 211 := h.2.2 (209, 3, 211) (List.mem_of_getElem? (i := 192) rfl)
theorem rf_209_4 {u : hS} (h : shp u) : hF u 209 4 = 212 := h.2.2 (209, 4, 212) (List.mem_of_getElem? (i := 193) rfl)
theorem rf_209_5 {u : hS} (h : shp u) : hF u 209 5 = 213 := h.2.2 (209, 5, 213) (List.mem_of_getElem? (i := 194) rfl)
theorem rf_214_0 {u : hS} (h : shp u) : hF u 214 0 = 215 := h.2.2 (214, 0, 215) (List.mem_of_getElem? (i := 195) rfl)
theorem rf_215_2 {u : hS} (h : shp u) : hF u 215 2 = 216 := h.2.2 (215, 2, 216) (List.mem_of_getElem? (i := 196) rfl)
theorem rf_215_3 {u : hS} (h : shp u) : hF u 215 3 = 217 := h.2.2 (215, 3, 217) (List.mem_of_getElem? (i := 197) rfl)
theorem rf_215_4 {u : hS} (h : shp u) : hF u 215 4 = 218 := h.2.2 (215, 4, 218) (List.mem_of_getElem? (i := 198) rfl)
theorem rf_215_5 {u : hS} (h : shp u) : hF u 215 5 = 219 := h.2.2 (215, 5, 219) (List.mem_of_getElem? (i := 199) rfl)
theorem rf_220_0 {u : hS} (h : shp u) : hF u 220 0 = 221 := h.2.2 (220, 0, 221) (List.mem_of_getElem? (i := 200) rfl)
theorem rf_220_3 {u : hS} (h : shp u) : hF u 220 3 = 222 := h.2.2 (220, 3, 222) (List.mem_of_getElem? (i := 201) rfl)
theorem rf_220_4 {u : hS} (h : shp u) : hF u 220 4 = 223 := h.2.2 (220, 4, 223) (List.mem_of_getElem? (i := 202) rfl)
theorem rf_220_5 {u : hS} (h : shp u) : hF u 220 5 = 224 := h.2.2 (220, 5, 224) (List.mem_of_getElem? (i := 203) rfl)
theorem rf_220_6 {u : hS} (h : shp u) : hF u 220 6 = 225 := h.2.2 (220, 6, 225) (List.mem_of_getElem? (i := 204) rfl)
theorem rf_220_7 {u : hS} (h : shp u) : hF u 220 7 = 226 := h.2.2 (220, 7, 226) (List.mem_of_getElem? (i := 205) rfl)
theorem rf_220_15 {u : hS} (h : shp u) : hF u 220 15 = 227 := h.2.2 (220, 15, 227) (List.mem_of_getElem? (i := 206) rfl)
theorem rf_220_17 {u : hS} (h : shp u) : hF u 220 17 = 228 := h.2.2 (220, 17, 228) (List.mem_of_getElem? (i := 207) rfl)
theorem rf_220_19 {u : hS} (h : shp u) : hF u 220 19 = 229 := h.2.2 (220, 19, 229) (List.mem_of_getElem? (i := 208) rfl)
theorem rf_220_20 {u : hS} (h : shp u) : hF u 220 20 = 230 := h.2.2 (220, 20, 230) (List.mem_of_getElem? (i := 209) rfl)
theorem rf_220_22 {u : hS} (h : shp u) : hF u 220 22 = 231 := h.2.2 (220, 22, 231) (List.mem_of_getElem? (i := 210) rfl)
theorem rf_220_23 {u : hS} (h : shp u) : hF u 220 23 = 232 := h.2.2 (220, 23, 232) (List.mem_of_getElem? (i := 211) rfl)
theorem rf_220_24 {u : hS} (h : shp u) : hF u 220 24 = 233 := h.2.2 (220, 24, 233) (List.mem_of_getElem? (i := 212) rfl)
theorem rf_220_26 {u : hS} (h : shp u) : hF u 220 26 = 234 := h.2.2 (220, 26, 234) (List.mem_of_getElem? (i := 213) rfl)
theorem rf_220_27 {u : hS} (h : shp u) : hF u 220 27 = 235 := h.2.2 (220, 27, 235) (List.mem_of_getElem? (i := 214) rfl)
theorem rf_220_29 {u : hS} (h : shp u) : hF u 220 29 = 236 := h.2.2 (220, 29, 236) (List.mem_of_getElem? (i := 215) rfl)
theorem rf_220_32 {u : hS} (h : shp u) : hF u 220 32 = 237 := h.2.2 (220, 32, 237) (List.mem_of_getElem? (i := 216) rfl)
theorem rf_220_33 {u : hS} (h : shp u) : hF u 220 33 = 238 := h.2.2 (220, 33, 238) (List.mem_of_getElem? (i := 217) rfl)
theorem rf_220_38 {u : hS} (h : shp u) : hF u 220 38 = 239 := h.2.2 (220, 38, 239) (List.mem_of_getElem? (i := 218) rfl)
theorem rf_220_40 {u : hS} (h : shp u) : hF u 220 40 = 240 := h.2.2 (220, 40, 240) (List.mem_of_getElem? (i := 219) rfl)
theorem rf_220_41 {u : hS} (h : shp u) : hF u 220 41 = 241 := h.2.2 (220, 41, 241) (List.mem_of_getElem? (i := 220) rfl)
theorem rf_220_42 {u : hS} (h : shp u) : hF u 220 42 = 242 := h.2.2 (220, 42, 242) (List.mem_of_getElem? (i := 221) rfl)
