/-! kinds as facts that simp takes whole -/
def okk (u : hS) (a k : Nat) : Prop := hok u a k
theorem hgI_k {k a i : Nat} {f : Int → hM} {u : hS} (h : okk u a k) : hgI k a i f u = f (hV u a i) u := if_pos h
theorem hgR_k {k a i : Nat} {f : Nat → hM} {u : hS} (h : okk u a k) : hgR k a i f u = f (hF u a i) u := if_pos h
theorem hpI_k {k a i : Nat} {x : Int} {f : hM} {u : hS} (h : okk u a k) : hpI k a i x f u = f (hsetV u a i x) := if_pos h
theorem hpR_k {k a i x : Nat} {f : hM} {u : hS} (h : okk u a k) : hpR k a i x f u = f (hsetF u a i x) := if_pos h
theorem hpZ_k {k a i : Nat} {x : Int} {f : hM} {u : hS} (h : okk u a k) (hx : x = 0 ∨ x = 1) : hpZ k a i x f u = f (hsetV u a i x) := if_pos ⟨h, hx⟩
theorem haI_k {k a : Nat} {i : Int} {f : Int → hM} {u : hS} (h : okk u a k) (h0 : 0 ≤ i) (h1 : i < (hN u a : Int)) : haI k a i f u = f (hV u a i.toNat) u := if_pos ⟨h, h0, h1⟩
theorem haR_k {k a : Nat} {i : Int} {f : Nat → hM} {u : hS} (h : okk u a k) (h0 : 0 ≤ i) (h1 : i < (hN u a : Int)) : haR k a i f u = f (hF u a i.toNat) u := if_pos ⟨h, h0, h1⟩
theorem hsI_k {k a : Nat} {i x : Int} {f : hM} {u : hS} (h : okk u a k) (h0 : 0 ≤ i) (h1 : i < (hN u a : Int)) : hsI k a i x f u = f (hsetV u a i.toNat x) := if_pos ⟨h, h0, h1⟩
theorem hsZ_k {k a : Nat} {i x : Int} {f : hM} {u : hS} (h : okk u a k) (h0 : 0 ≤ i) (h1 : i < (hN u a : Int)) (hx : x = 0 ∨ x = 1) : hsZ k a i x f u = f (hsetV u a i.toNat x) := if_pos ⟨⟨h, h0, h1⟩, hx⟩
theorem hlen_k {k a : Nat} {f : Int → hM} {u : hS} (h : okk u a k) : hlen k a f u = f (hN u a : Int) u := if_pos h
theorem hcallV_k {k a : Nat} {g : hM} {f : Int → hM} {u u1 : hS} {r : Int} (h0 : okk u a k) (h : g u = some (r, u1)) : hcallV k a g f u = f r u1 := hcallV_ok h0 h
theorem okk_setV (u : hS) (a i : Nat) (x : Int) (b k : Nat) : okk (hsetV u a i x) b k = okk u b k := propext ⟨fun h => h, fun h => h⟩
theorem okk_setF (u : hS) (a i x : Nat) (b k : Nat) : okk (hsetF u a i x) b k = okk u b k := propext ⟨fun h => h, fun h => h⟩
theorem okk_copy (u : hS) (a p b q n c k : Nat) : okk (hcopy u a p b q n) c k = okk u c k := propext ⟨fun h => h, fun h => h⟩
theorem nV (u : hS) (a i : Nat) (x : Int) : hN (hsetV u a i x) = hN u := Eq.trans (b := hN u) rfl rfl
theorem nF (u : hS) (a i x : Nat) : hN (hsetF u a i x) = hN u := Eq.trans (b := hN u) rfl rfl
theorem fV (u : hS) (a i : Nat) (x : Int) : hF (hsetV u a i x) = hF u := Eq.trans (b := hF u) rfl rfl
theorem vF (u : hS) (a i x : Nat) : hV (hsetF u a i x) = hV u := Eq.trans (b := hV u) rfl rfl
theorem shp_setV (u : hS) (a i : Nat) (x : Int) : shp (hsetV u a i x) = shp u := rfl
theorem shp_copy (u : hS) (a p b q n : Nat) : shp (hcopy u a p b q n) = shp u := rfl
theorem hF_copy (u : hS) (a p b q n : Nat) : hF (hcopy u a p b q n) = hF u := Eq.trans (b := hF u) rfl rfl
theorem hN_copy (u : hS) (a p b q n : Nat) : hN (hcopy u a p b q n) = hN u := Eq.trans (b := hN u) rfl rfl
theorem hB_copy (u : hS) (a p b q n : Nat) : hB (hcopy u a p b q n) = hB u := rfl
theorem hV_copy (u : hS) (a p b q n c j : Nat) : hV (hcopy u a p b q n) c j = if c = b ∧ q ≤ j ∧ j < q + n then hV u a (p + (j - q)) else hV u c j := rfl
theorem hV_setV_s (u : hS) (a i : Nat) (x : Int) : hV (hsetV u a i x) a i = x := if_pos ⟨rfl, rfl⟩
theorem hV_setV_a {u : hS} {a i : Nat} {x : Int} {b j : Nat} (h : b ≠ a) : hV (hsetV u a i x) b j = hV u b j := if_neg (fun z => h z.1)
theorem hV_setV_i {u : hS} {a i : Nat} {x : Int} {b j : Nat} (h : j ≠ i) : hV (hsetV u a i x) b j = hV u b j := if_neg (fun z => h z.2)
theorem hcopy_0 (u : hS) (a p b q : Nat) : hcopy u a p b q 0 = u := by
  obtain ⟨K, N, V, F, B⟩ := u
  unfold hcopy
  simp only [Prod.mk.injEq, and_true, true_and]
  funext c j
  rw [if_neg (by omega)]
theorem hcopy_succ (u : hS) (a p b q n : Nat) : hsetV (hcopy u a p b q n) b (q + n) (hV u a (p + n)) = hcopy u a p b q (n + 1) := by
  obtain ⟨K, N, V, F, B⟩ := u
  unfold hsetV hcopy hV
  simp only [Prod.mk.injEq, and_true, true_and]
  funext c j
  by_cases h1 : c = b ∧ j = q + n
  · rw [if_pos h1, if_pos ⟨h1.1, by omega, by omega⟩, h1.2]
    congr 1
    omega
  · rw [if_neg h1]
    by_cases h2 : c = b ∧ q ≤ j ∧ j < q + n
    · rw [if_pos h2, if_pos ⟨h2.1, h2.2.1, by omega⟩]
    · rw [if_neg h2, if_neg (fun z => by
        by_cases h3 : j = q + n
        · exact h1 ⟨z.1, h3⟩
        · exact h2 ⟨z.1, z.2.1, by omega⟩)]
theorem kk_1 {u : hS} (h : shp u) : okk u 1 9 := ok_1 h
theorem kk_2 {u : hS} (h : shp u) : okk u 2 6 := ok_2 h
theorem kk_3 {u : hS} (h : shp u) : okk u 3 22 := ok_3 h
theorem kk_4 {u : hS} (h : shp u) : okk u 4 24 := ok_4 h
theorem kk_5 {u : hS} (h : shp u) : okk u 5 25 := ok_5 h
theorem kk_6 {u : hS} (h : shp u) : okk u 6 26 := ok_6 h
theorem kk_7 {u : hS} (h : shp u) : okk u 7 21 := ok_7 h
theorem kk_8 {u : hS} (h : shp u) : okk u 8 20 := ok_8 h
theorem kk_9 {u : hS} (h : shp u) : okk u 9 20 := ok_9 h
theorem kk_10 {u : hS} (h : shp u) : okk u 10 20 := ok_10 h
theorem kk_11 {u : hS} (h : shp u) : okk u 11 20 := ok_11 h
theorem kk_30 {u : hS} (h : shp u) : okk u 30 4 := ok_30 h
theorem kk_31 {u : hS} (h : shp u) : okk u 31 20 := ok_31 h
theorem kk_32 {u : hS} (h : shp u) : okk u 32 20 := ok_32 h
theorem kk_33 {u : hS} (h : shp u) : okk u 33 20 := ok_33 h
theorem kk_34 {u : hS} (h : shp u) : okk u 34 20 := ok_34 h
theorem kk_35 {u : hS} (h : shp u) : okk u 35 4 := ok_35 h
theorem kk_36 {u : hS} (h : shp u) : okk u 36 20 := ok_36 h
theorem kk_37 {u : hS} (h : shp u) : okk u 37 20 := ok_37 h
theorem kk_38 {u : hS} (h : shp u) : okk u 38 20 := ok_38 h
theorem kk_39 {u : hS} (h : shp u) : okk u 39 20 := ok_39 h
theorem kk_40 {u : hS} (h : shp u) : okk u 40 2 := ok_40 h
theorem kk_41 {u : hS} (h : shp u) : okk u 41 20 := ok_41 h
theorem kk_42 {u : hS} (h : shp u) : okk u 42 20 := ok_42 h
theorem kk_43 {u : hS} (h : shp u) : okk u 43 20 := ok_43 h
theorem kk_44 {u : hS} (h : shp u) : okk u 44 20 := ok_44 h
theorem kk_45 {u : hS} (h : shp u) : okk u 45 20 := ok_45 h
theorem kk_46 {u : hS} (h : shp u) : okk u 46 8 := ok_46 h
theorem kk_47 {u : hS} (h : shp u) : okk u 47 20 := ok_47 h
theorem kk_48 {u : hS} (h : shp u) : okk u 48 5 := ok_48 h
theorem kk_49 {u : hS} (h : shp u) : okk u 49 20 := ok_49 h
theorem kk_50 {u : hS} (h : shp u) : okk u 50 20 := ok_50 h
theorem kk_51 {u : hS} (h : shp u) : okk u 51 20 := ok_51 h
theorem kk_52 {u : hS} (h : shp u) : okk u 52 20 := ok_52 h
theorem kk_53 {u : hS} (h : shp u) : okk u 53 20 := ok_53 h
theorem kk_54 {u : hS} (h : shp u) : okk u 54 3 := ok_54 h
theorem kk_55 {u : hS} (h : shp u) : okk u 55 20 := ok_55 h
theorem kk_56 {u : hS} (h : shp u) : okk u 56 20 := ok_56 h
theorem kk_57 {u : hS} (h : shp u) : okk u 57 20 := ok_57 h
theorem kk_58 {u : hS} (h : shp u) : okk u 58 20 := ok_58 h
theorem kk_59 {u : hS} (h : shp u) : okk u 59 20 := ok_59 h
theorem kk_60 {u : hS} (h : shp u) : okk u 60 21 := ok_60 h
theorem kk_61 {u : hS} (h : shp u) : okk u 61 3 := ok_61 h
theorem kk_62 {u : hS} (h : shp u) : okk u 62 20 := ok_62 h
theorem kk_63 {u : hS} (h : shp u) : okk u 63 20 := ok_63 h
theorem kk_64 {u : hS} (h : shp u) : okk u 64 20 := ok_64 h
theorem kk_65 {u : hS} (h : shp u) : okk u 65 20 := ok_65 h
theorem kk_66 {u : hS} (h : shp u) : okk u 66 20 := ok_66 h
theorem kk_67 {u : hS} (h : shp u) : okk u 67 21 := ok_67 h
theorem kk_68 {u : hS} (h : shp u) : okk u 68 3 := ok_68 h
theorem kk_69 {u : hS} (h : shp u) : okk u 69 20 := ok_69 h
theorem kk_70 {u : hS} (h : shp u) : okk u 70 20 := ok_70 h
theorem kk_71 {u : hS} (h : shp u) : okk u 71 20 := ok_71 h
theorem kk_72 {u : hS} (h : shp u) : okk u 72 20 := ok_72 h
theorem kk_73 {u : hS} (h : shp u) : okk u 73 20 := ok_73 h
theorem kk_74 {u : hS} (h : shp u) : okk u 74 21 := ok_74 h
theorem kk_75 {u : hS} (h : shp u) : okk u 75 3 := ok_75 h
theorem kk_76 {u : hS} (h : shp u) : okk u 76 20 := ok_76 h
theorem kk_77 {u : hS} (h : shp u) : okk u 77 20 := ok_77 h
theorem kk_78 {u : hS} (h : shp u) : okk u 78 20 := ok_78 h
theorem kk_79 {u : hS} (h : shp u) : okk u 79 20 := ok_79 h
theorem kk_80 {u : hS} (h : shp u) : okk u 80 20 := ok_80 h
theorem kk_81 {u : hS} (h : shp u) : okk u 81 21 := ok_81 h
theorem kk_82 {u : hS} (h : shp u) : okk u 82 3 := ok_82 h
theorem kk_83 {u : hS} (h : shp u) : okk u 83 20 := ok_83 h
theorem kk_84 {u : hS} (h : shp u) : okk u 84 20 := ok_84 h
theorem kk_85 {u : hS} (h : shp u) : okk u 85 20 := ok_85 h
theorem kk_86 {u : hS} (h : shp u) : okk u 86 20 := ok_86 h
theorem kk_87 {u : hS} (h : shp u) : okk u 87 20 := ok_87 h
theorem kk_88 {u : hS} (h : shp u) : okk u 88 21 := ok_88 h
theorem kk_89 {u : hS} (h : shp u) : okk u 89 3 := ok_89 h
theorem kk_90 {u : hS} (h : shp u) : okk u 90 20 := ok_90 h
theorem kk_91 {u : hS} (h : shp u) : okk u 91 20 := ok_91 h
theorem kk_92 {u : hS} (h : shp u) : okk u 92 20 := ok_92 h
theorem kk_93 {u : hS} (h : shp u) : okk u 93 20 := ok_93 h
theorem kk_94 {u : hS} (h : shp u) : okk u 94 20 := ok_94 h
theorem kk_95 {u : hS} (h : shp u) : okk u 95 21 := ok_95 h
theorem kk_96 {u : hS} (h : shp u) : okk u 96 4 := ok_96 h
theorem kk_97 {u : hS} (h : shp u) : okk u 97 20 := ok_97 h
theorem kk_98 {u : hS} (h : shp u) : okk u 98 20 := ok_98 h
theorem kk_99 {u : hS} (h : shp u) : okk u 99 20 := ok_99 h
theorem kk_100 {u : hS} (h : shp u) : okk u 100 20 := ok_100 h
theorem kk_101 {u : hS} (h : shp u) : okk u 101 4 := ok_101 h
theorem kk_102 {u : hS} (h : shp u) : okk u 102 20 := ok_102 h
theorem kk_103 {u : hS} (h : shp u) : okk u 103 20 := ok_103 h
theorem kk_104 {u : hS} (h : shp u) : okk u 104 20 := ok_104 h
theorem kk_105 {u : hS} (h : shp u) : okk u 105 20 := ok_105 h
theorem kk_106 {u : hS} (h : shp u) : okk u 106 4 := ok_106 h
theorem kk_107 {u : hS} (h : shp u) : okk u 107 20 := ok_107 h
theorem kk_108 {u : hS} (h : shp u) : okk u 108 20 := ok_108 h
theorem kk_109 {u : hS} (h : shp u) : okk u 109 20 := ok_109 h
theorem kk_110 {u : hS} (h : shp u) : okk u 110 20 := ok_110 h
theorem kk_111 {u : hS} (h : shp u) : okk u 111 4 := ok_111 h
theorem kk_112 {u : hS} (h : shp u) : okk u 112 20 := ok_112 h
theorem kk_113 {u : hS} (h : shp u) : okk u 113 20 := ok_113 h
theorem kk_114 {u : hS} (h : shp u) : okk u 114 20 := ok_114 h
theorem kk_115 {u : hS} (h : shp u) : okk u 115 20 := ok_115 h
theorem kk_116 {u : hS} (h : shp u) : okk u 116 4 := ok_116 h
theorem kk_117 {u : hS} (h : shp u) : okk u 117 20 := ok_117 h
theorem kk_118 {u : hS} (h : shp u) : okk u 118 20 := ok_118 h
theorem kk_119 {u : hS} (h : shp u) : okk u 119 20 := ok_119 h
theorem kk_120 {u : hS} (h : shp u) : okk u 120 20 := ok_120 h
theorem kk_121 {u : hS} (h : shp u) : okk u 121 4 := ok_121 h
theorem kk_122 {u : hS} (h : shp u) : okk u 122 20 := ok_122 h
theorem kk_123 {u : hS} (h : shp u) : okk u 123 20 := ok_123 h
theorem kk_124 {u : hS} (h : shp u) : okk u 124 20 := ok_124 h
theorem kk_125 {u : hS} (h : shp u) : okk u 125 20 := ok_125 h
theorem kk_126 {u : hS} (h : shp u) : okk u 126 4 := ok_126 h
theorem kk_127 {u : hS} (h : shp u) : okk u 127 20 := ok_127 h
theorem kk_128 {u : hS} (h : shp u) : okk u 128 20 := ok_128 h
theorem kk_129 {u : hS} (h : shp u) : okk u 129 20 := ok_129 h
theorem kk_130 {u : hS} (h : shp u) : okk u 130 20 := ok_130 h
theorem kk_131 {u : hS} (h : shp u) : okk u 131 4 := ok_131 h
theorem kk_132 {u : hS} (h : shp u) : okk u 132 20 := ok_132 h
theorem kk_133 {u : hS} (h : shp u) : okk u 133 20 := ok_133 h
theorem kk_134 {u : hS} (h : shp u) : okk u 134 20 := ok_134 h
theorem kk_135 {u : hS} (h : shp u) : okk u 135 20 := ok_135 h
theorem kk_136 {u : hS} (h : shp u) : okk u 136 4 := ok_136 h
theorem kk_137 {u : hS} (h : shp u) : okk u 137 20 := ok_137 h
theorem kk_138 {u : hS} (h : shp u) : okk u 138 20 := ok_138 h
theorem kk_139 {u : hS} (h : shp u) : okk u 139 20 := ok_139 h
theorem kk_140 {u : hS} (h : shp u) : okk u 140 20 := ok_140 h
theorem kk_141 {u : hS} (h : shp u) : okk u 141 4 := ok_141 h
theorem kk_142 {u : hS} (h : shp u) : okk u 142 20 := ok_142 h
theorem kk_143 {u : hS} (h : shp u) : okk u 143 20 := ok_143 h
theorem kk_144 {u : hS} (h : shp u) : okk u 144 20 := ok_144 h
theorem kk_145 {u : hS} (h : shp u) : okk u 145 20 := ok_145 h
theorem kk_146 {u : hS} (h : shp u) : okk u 146 4 := ok_146 h
theorem kk_147 {u : hS} (h : shp u) : okk u 147 20 := ok_147 h
theorem kk_148 {u : hS} (h : shp u) : okk u 148 20 := ok_148 h
theorem kk_149 {u : hS} (h : shp u) : okk u 149 20 := ok_149 h
theorem kk_150 {u : hS} (h : shp u) : okk u 150 20 := ok_150 h
theorem kk_151 {u : hS} (h : shp u) : okk u 151 4 := ok_151 h
theorem kk_152 {u : hS} (h : shp u) : okk u 152 20 := ok_152 h
theorem kk_153 {u : hS} (h : shp u) : okk u 153 20 := ok_153 h
theorem kk_154 {u : hS} (h : shp u) : okk u 154 20 := ok_154 h
theorem kk_155 {u : hS} (h : shp u) : okk u 155 20 := ok_155 h
theorem kk_156 {u : hS} (h : shp u) : okk u 156 4 := ok_156 h
theorem kk_157 {u : hS} (h : shp u) : okk u 157 20 := ok_157 h
theorem kk_158 {u : hS} (h : shp u) : okk u 158 20 := ok_158 h
theorem kk_159 {u : hS} (h : shp u) : okk u 159 20 := ok_159 h
theorem kk_160 {u : hS} (h : shp u) : okk u 160 20 := ok_160 h
theorem kk_161 {u : hS} (h : shp u) : okk u 161 4 := ok_161 h
theorem kk_162 {u : hS} (h : shp u) : okk u 162 20 := ok_162 h
theorem kk_163 {u : hS} (h : shp u) : okk u 163 20 := ok_163 h
theorem kk_164 {u : hS} (h : shp u) : okk u 164 20 := ok_164 h
theorem kk_165 {u : hS} (h : shp u) : okk u 165 20 := ok_165 h
theorem kk_166 {u : hS} (h : shp u) : okk u 166 4 := ok_166 h
theorem kk_167 {u : hS} (h : shp u) : okk u 167 20 := ok_167 h
theorem kk_168 {u : hS} (h : shp u) : okk u 168 20 := ok_168 h
theorem kk_169 {u : hS} (h : shp u) : okk u 169 20 := ok_169 h
theorem kk_170 {u : hS} (h : shp u) : okk u 170 20 := ok_170 h
theorem kk_171 {u : hS} (h : shp u) : okk u 171 4 := ok_171 h
theorem kk_172 {u : hS} (h : shp u) : okk u 172 20 := ok_172 h
theorem kk_173 {u : hS} (h : shp u) : okk u 173 20 := ok_173 h
theorem kk_174 {u : hS} (h : shp u) : okk u 174 20 := ok_174 h
theorem kk_175 {u : hS} (h : shp u) : okk u 175 20 := ok_175 h
theorem kk_176 {u : hS} (h : shp u) : okk u 176 4 := ok_176 h
theorem kk_177 {u : hS} (h : shp u) : okk u 177 20 := ok_177 h
theorem kk_178 {u : hS} (h : shp u) : okk u 178 20 := ok_178 h
theorem kk_179 {u : hS} (h : shp u) : okk u 179 20 := ok_179 h
theorem kk_180 {u : hS} (h : shp u) : okk u 180 20 := ok_180 h
theorem kk_181 {u : hS} (h : shp u) : okk u 181 4 := ok_181 h
theorem kk_182 {u : hS} (h : shp u) : okk u 182 20 := ok_182 h
theorem kk_183 {u : hS} (h : shp u) : okk u 183 20 := ok_183 h
theorem kk_184 {u : hS} (h : shp u) : okk u 184 20 := ok_184 h
theorem kk_185 {u : hS} (h : shp u) : okk u 185 20 := ok_185 h
theorem kk_186 {u : hS} (h : shp u) : okk u 186 4 := ok_186 h
theorem kk_187 {u : hS} (h : shp u) : okk u 187 20 := ok_187 h
theorem kk_188 {u : hS} (h : shp u) : okk u 188 20 := ok_188 h
theorem kk_189 {u : hS} (h : shp u) : okk u 189 20 := ok_189 h
theorem kk_190 {u : hS} (h : shp u) : okk u 190 20 := ok_190 h
theorem kk_191 {u : hS} (h : shp u) : okk u 191 4 := ok_191 h
theorem kk_192 {u : hS} (h : shp u) : okk u 192 20 := ok_192 h
theorem kk_193 {u : hS} (h : shp u) : okk u 193 20 := ok_193 h
theorem kk_194 {u : hS} (h : shp u) : okk u 194 20 := ok_194 h
theorem kk_195 {u : hS} (h : shp u) : okk u 195 20 := ok_195 h
theorem kk_196 {u : hS} (h : shp u) : okk u 196 0 := ok_196 h
theorem kk_197 {u : hS} (h : shp u) : okk u 197 4 := ok_197 h
theorem kk_198 {u : hS} (h : shp u) : okk u 198 20 := ok_198 h
theorem kk_199 {u : hS} (h : shp u) : okk u 199 20 := ok_199 h
theorem kk_200 {u : hS} (h : shp u) : okk u 200 20 := ok_200 h
theorem kk_201 {u : hS} (h : shp u) : okk u 201 20 := ok_201 h
theorem kk_202 {u : hS} (h : shp u) : okk u 202 0 := ok_202 h
theorem kk_203 {u : hS} (h : shp u) : okk u 203 4 := ok_203 h
theorem kk_204 {u : hS} (h : shp u) : okk u 204 20 := ok_204 h
theorem kk_205 {u : hS} (h : shp u) : okk u 205 20 := ok_205 h
theorem kk_206 {u : hS} (h : shp u) : okk u 206 20 := ok_206 h
theorem kk_207 {u : hS} (h : shp u) : okk u 207 20 := ok_207 h
theorem kk_208 {u : hS} (h : shp u) : okk u 208 0 := ok_208 h
theorem kk_209 {u : hS} (h : shp u) : okk u 209 4 := ok_209 h
theorem kk_210 {u : hS} (h : shp u) : okk u 210 20 := ok_210 h
theorem kk_211 {u : hS} (h : shp u) : okk u 211 20 := ok_211 h
theorem kk_212 {u : hS} (h : shp u) : okk u 212 20 := ok_212 h
theorem kk_213 {u : hS} (h : shp u) : okk u 213 20 := ok_213 h
theorem kk_214 {u : hS} (h : shp u) : okk u 214 0 := ok_214 h
theorem kk_215 {u : hS} (h : shp u) : okk u 215 4 := ok_215 h
theorem kk_216 {u : hS} (h : shp u) : okk u 216 20 := ok_216 h
theorem kk_217 {u : hS} (h : shp u) : okk u 217 20 := ok_217 h
theorem kk_218 {u : hS} (h : shp u) : okk u 218 20 := ok_218 h
theorem kk_219 {u : hS} (h : shp u) : okk u 219 20 := ok_219 h
theorem kk_220 {u : hS} (h : shp u) : okk u 220 10 := ok_220 h
theorem kk_221 {u : hS} (h : shp u) : okk u 221 22 := ok_221 h
theorem kk_222 {u : hS} (h : shp u) : okk u 222 20 := ok_222 h
theorem kk_223 {u : hS} (h : shp u) : okk u 223 20 := ok_223 h
theorem kk_224 {u : hS} (h : shp u) : okk u 224 20 := ok_224 h
theorem kk_225 {u : hS} (h : shp u) : okk u 225 20 := ok_225 h
theorem kk_226 {u : hS} (h : shp u) : okk u 226 20 := ok_226 h
theorem kk_227 {u : hS} (h : shp u) : okk u 227 20 := ok_227 h
theorem kk_228 {u : hS} (h : shp u) : okk u 228 21 := ok_228 h
theorem kk_229 {u : hS} (h : shp u) : okk u 229 21 := ok_229 h
theorem kk_230 {u : hS} (h : shp u) : okk u 230 20 := ok_230 h
theorem kk_231 {u : hS} (h : shp u) : okk u 231 20 := ok_231 h
theorem kk_232 {u : hS} (h : shp u) : okk u 232 20 := ok_232 h
theorem kk_233 {u : hS} (h : shp u) : okk u 233 20 := ok_233 h
theorem kk_234 {u : hS} (h : shp u) : okk u 234 20 := ok_234 h
theorem kk_235 {u : hS} (h : shp u) : okk u 235 20 := ok_235 h
theorem kk_236 {u : hS} (h : shp u) : okk u 236 20 := ok_236 h
theorem kk_237 {u : hS} (h : shp u) : okk u 237 20 := ok_237 h
theorem kk_238 {u : hS} (h : shp u) : okk u 238 20 := ok_238 h
theorem kk_239 {u : hS} (h : shp u) : okk u 239 20 := ok_239 h
theorem kk_240 {u : hS} (h : shp u) : okk u 240 20 := ok_240 h
theorem kk_241 {u : hS} (h : shp u) : okk u 241 20 := ok_241 h
theorem kk_242 {u : hS} (h : shp u) : okk u 242 23 := ok_242 h
/-! `end` -/
theorem x_end (u : hS) (hs : shp u) (n : Int) : m_X9_end 1 n u = if n < 0 then some (-1, u) else if n ≤ hV u 2 1 then some (n, hsetV u 2 1 n) else some (-1, u) := by
  simp only [m_X9_end_L15, m_X9_end, hgI_k, hgR_k, hpI_k, hpR_k, hpZ_k, haI_k, haR_k, hsI_k, hsZ_k, hlen_k, hlet_e, hret_e, hretZ_0, hretZ_1, hif_e, okk_setV, okk_setF, nV, nF, fV, vF, kk_1 hs, kk_2 hs, rf_1_0 hs]
theorem y_end (u : hS) (hs : shp u) (n : Int) : m_X10_end 220 n u = if n < 0 then some (-1, u) else if n ≤ hV u 220 1 then some (n, hsetV u 220 1 n) else some (-1, u) := by
  simp only [m_X10_end_L12, m_X10_end, hgI_k, hgR_k, hpI_k, hpR_k, hpZ_k, haI_k, haR_k, hsI_k, hsZ_k, hlen_k, hlet_e, hret_e, hretZ_0, hretZ_1, hif_e, okk_setV, okk_setF, nV, nF, fV, vF, kk_220 hs]
theorem x_seed (u : hS) (hs : shp u) (n : Int) : m_X9_seed 1 n u = if n ≥ 0 then some (w32 (hV u 1 9), hsetV u 1 9 n) else some (-1, u) := by
  simp only [m_X9_seed, hgI_k, hgR_k, hpI_k, hpR_k, hpZ_k, haI_k, haR_k, hsI_k, hsZ_k, hlen_k, hlet_e, hret_e, hretZ_0, hretZ_1, hif_e, okk_setV, okk_setF, nV, nF, fV, vF, kk_1 hs]
theorem y_seed (u : hS) (hs : shp u) (n : Int) : m_X10_seed 220 n u = if n ≥ 0 then some (hV u 220 21, hsetV u 220 21 n) else some (-1, u) := by
  simp only [m_X10_seed, hgI_k, hgR_k, hpI_k, hpR_k, hpZ_k, haI_k, haR_k, hsI_k, hsZ_k, hlen_k, hlet_e, hret_e, hretZ_0, hretZ_1, hif_e, okk_setV, okk_setF, nV, nF, fV, vF, kk_220 hs]
