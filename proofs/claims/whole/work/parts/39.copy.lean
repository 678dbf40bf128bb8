/-! the places where standings lie -/
def noT (d : Nat) : Prop := ∀ q ∈ refL, ¬ (q.1 = d ∧ q.2.1 = 0)
def StP (d : Nat) : Prop := (∀ u, shp u → StA u d) ∧ noT d ∧ 30 ≤ d ∧ d < 220
theorem noT_of (d : Nat) (h : refL.all (fun q => !(Nat.beq q.1 d && Nat.beq q.2.1 0)) = true) : noT d := by
  intro q hq z
  have h1 := List.all_eq_true.mp h q hq
  rw [z.1, z.2, Nat.beq_refl, Nat.beq_refl] at h1
  exact absurd h1 (by decide)
theorem shp_setF {u : hS} {d x : Nat} (hs : shp u) (h : noT d) : shp (hsetF u d 0 x) := ⟨hs.1, hs.2.1, fun q hq => by
  show (if q.1 = d ∧ q.2.1 = 0 then x else hF u q.1 q.2.1) = q.2.2
  rw [if_neg (h q hq)]
  exact hs.2.2 q hq⟩
set_option maxRecDepth 100000 in
theorem stp_30 : StP 30 := ⟨fun u hs => ⟨kk_30 hs, kk_31 hs, kk_32 hs, kk_33 hs, kk_34 hs, ln_31 hs, ln_32 hs, ln_33 hs, ln_34 hs, rf_30_2 hs, rf_30_3 hs, rf_30_4 hs, rf_30_5 hs⟩, noT_of 30 rfl, by decide, by decide⟩
set_option maxRecDepth 100000 in
theorem stp_35 : StP 35 := ⟨fun u hs => ⟨kk_35 hs, kk_36 hs, kk_37 hs, kk_38 hs, kk_39 hs, ln_36 hs, ln_37 hs, ln_38 hs, ln_39 hs, rf_35_2 hs, rf_35_3 hs, rf_35_4 hs, rf_35_5 hs⟩, noT_of 35 rfl, by decide, by decide⟩
set_option maxRecDepth 100000 in
theorem stp_96 : StP 96 := ⟨fun u hs => ⟨kk_96 hs, kk_97 hs, kk_98 hs, kk_99 hs, kk_100 hs, ln_97 hs, ln_98 hs, ln_99 hs, ln_100 hs, rf_96_2 hs, rf_96_3 hs, rf_96_4 hs, rf_96_5 hs⟩, noT_of 96 rfl, by decide, by decide⟩
set_option maxRecDepth 100000 in
theorem stp_101 : StP 101 := ⟨fun u hs => ⟨kk_101 hs, kk_102 hs, kk_103 hs, kk_104 hs, kk_105 hs, ln_102 hs, ln_103 hs, ln_104 hs, ln_105 hs, rf_101_2 hs, rf_101_3 hs, rf_101_4 hs, rf_101_5 hs⟩, noT_of 101 rfl, by decide, by decide⟩
set_option maxRecDepth 100000 in
theorem stp_106 : StP 106 := ⟨fun u hs => ⟨kk_106 hs, kk_107 hs, kk_108 hs, kk_109 hs, kk_110 hs, ln_107 hs, ln_108 hs, ln_109 hs, ln_110 hs, rf_106_2 hs, rf_106_3 hs, rf_106_4 hs, rf_106_5 hs⟩, noT_of 106 rfl, by decide, by decide⟩
set_option maxRecDepth 100000 in
theorem stp_111 : StP 111 := ⟨fun u hs => ⟨kk_111 hs, kk_112 hs, kk_113 hs, kk_114 hs, kk_115 hs, ln_112 hs, ln_113 hs, ln_114 hs, ln_115 hs, rf_111_2 hs, rf_111_3 hs, rf_111_4 hs, rf_111_5 hs⟩, noT_of 111 rfl, by decide, by decide⟩
set_option maxRecDepth 100000 in
theorem stp_116 : StP 116 := ⟨fun u hs => ⟨kk_116 hs, kk_117 hs, kk_118 hs, kk_119 hs, kk_120 hs, ln_117 hs, ln_118 hs, ln_119 hs, ln_120 hs, rf_116_2 hs, rf_116_3 hs, rf_116_4 hs, rf_116_5 hs⟩, noT_of 116 rfl, by decide, by decide⟩
set_option maxRecDepth 100000 in
theorem stp_121 : StP 121 := ⟨fun u hs => ⟨kk_121 hs, kk_122 hs, kk_123 hs, kk_124 hs, kk_125 hs, ln_122 hs, ln_123 hs, ln_124 hs, ln_125 hs, rf_121_2 hs, rf_121_3 hs, rf_121_4 hs, rf_121_5 hs⟩, noT_of 121 rfl, by decide, by decide⟩
set_option maxRecDepth 100000 in
theorem stp_126 : StP 126 := ⟨fun u hs => ⟨kk_126 hs, kk_127 hs, kk_128 hs, kk_129 hs, kk_130 hs, ln_127 hs, ln_128 hs, ln_129 hs, ln_130 hs, rf_126_2 hs, rf_126_3 hs, rf_126_4 hs, rf_126_5 hs⟩, noT_of 126 rfl, by decide, by decide⟩
set_option maxRecDepth 100000 in
theorem stp_131 : StP 131 := ⟨fun u hs => ⟨kk_131 hs, kk_132 hs, kk_133 hs, kk_134 hs, kk_135 hs, ln_132 hs, ln_133 hs, ln_134 hs, ln_135 hs, rf_131_2 hs, rf_131_3 hs, rf_131_4 hs, rf_131_5 hs⟩, noT_of 131 rfl, by decide, by decide⟩
set_option maxRecDepth 100000 in
theorem stp_136 : StP 136 := ⟨fun u hs => ⟨kk_136 hs, kk_137 hs, kk_138 hs, kk_139 hs, kk_140 hs, ln_137 hs, ln_138 hs, ln_139 hs, ln_140 hs, rf_136_2 hs, rf_136_3 hs, rf_136_4 hs, rf_136_5 hs⟩, noT_of 136 rfl, by decide, by decide⟩
set_option maxRecDepth 100000 in
theorem stp_141 : StP 141 := ⟨fun u hs => ⟨kk_141 hs, kk_142 hs, kk_143 hs, kk_144 hs, kk_145 hs, ln_142 hs, ln_143 hs, ln_144 hs, ln_145 hs, rf_141_2 hs, rf_141_3 hs, rf_141_4 hs, rf_141_5 hs⟩, noT_of 141 rfl, by decide, by decide⟩
set_option maxRecDepth 100000 in
theorem stp_146 : StP 146 := ⟨fun u hs => ⟨kk_146 hs, kk_147 hs, kk_148 hs, kk_149 hs, kk_150 hs, ln_147 hs, ln_148 hs, ln_149 hs, ln_150 hs, rf_146_2 hs, rf_146_3 hs, rf_146_4 hs, rf_146_5 hs⟩, noT_of 146 rfl, by decide, by decide⟩
set_option maxRecDepth 100000 in
theorem stp_151 : StP 151 := ⟨fun u hs => ⟨kk_151 hs, kk_152 hs, kk_153 hs, kk_154 hs, kk_155 hs, ln_152 hs, ln_153 hs, ln_154 hs, ln_155 hs, rf_151_2 hs, rf_151_3 hs, rf_151_4 hs, rf_151_5 hs⟩, noT_of 151 rfl, by decide, by decide⟩
set_option maxRecDepth 100000 in
theorem stp_156 : StP 156 := ⟨fun u hs => ⟨kk_156 hs, kk_157 hs, kk_158 hs, kk_159 hs, kk_160 hs, ln_157 hs, ln_158 hs, ln_159 hs, ln_160 hs, rf_156_2 hs, rf_156_3 hs, rf_156_4 hs, rf_156_5 hs⟩, noT_of 156 rfl, by decide, by decide⟩
set_option maxRecDepth 100000 in
theorem stp_161 : StP 161 := ⟨fun u hs => ⟨kk_161 hs, kk_162 hs, kk_163 hs, kk_164 hs, kk_165 hs, ln_162 hs, ln_163 hs, ln_164 hs, ln_165 hs, rf_161_2 hs, rf_161_3 hs, rf_161_4 hs, rf_161_5 hs⟩, noT_of 161 rfl, by decide, by decide⟩
set_option maxRecDepth 100000 in
theorem stp_166 : StP 166 := ⟨fun u hs => ⟨kk_166 hs, kk_167 hs, kk_168 hs, kk_169 hs, kk_170 hs, ln_167 hs, ln_168 hs, ln_169 hs, ln_170 hs, rf_166_2 hs, rf_166_3 hs, rf_166_4 hs, rf_166_5 hs⟩, noT_of 166 rfl, by decide, by decide⟩
set_option maxRecDepth 100000 in
theorem stp_171 : StP 171 := ⟨fun u hs => ⟨kk_171 hs, kk_172 hs, kk_173 hs, kk_174 hs, kk_175 hs, ln_172 hs, ln_173 hs, ln_174 hs, ln_175 hs, rf_171_2 hs, rf_171_3 hs, rf_171_4 hs, rf_171_5 hs⟩, noT_of 171 rfl, by decide, by decide⟩
set_option maxRecDepth 100000 in
theorem stp_176 : StP 176 := ⟨fun u hs => ⟨kk_176 hs, kk_177 hs, kk_178 hs, kk_179 hs, kk_180 hs, ln_177 hs, ln_178 hs, ln_179 hs, ln_180 hs, rf_176_2 hs, rf_176_3 hs, rf_176_4 hs, rf_176_5 hs⟩, noT_of 176 rfl, by decide, by decide⟩
set_option maxRecDepth 100000 in
theorem stp_181 : StP 181 := ⟨fun u hs => ⟨kk_181 hs, kk_182 hs, kk_183 hs, kk_184 hs, kk_185 hs, ln_182 hs, ln_183 hs, ln_184 hs, ln_185 hs, rf_181_2 hs, rf_181_3 hs, rf_181_4 hs, rf_181_5 hs⟩, noT_of 181 rfl, by decide, by decide⟩
set_option maxRecDepth 100000 in
theorem stp_186 : StP 186 := ⟨fun u hs => ⟨kk_186 hs, kk_187 hs, kk_188 hs, kk_189 hs, kk_190 hs, ln_187 hs, ln_188 hs, ln_189 hs, ln_190 hs, rf_186_2 hs, rf_186_3 hs, rf_186_4 hs, rf_186_5 hs⟩, noT_of 186 rfl, by decide, by decide⟩
set_option maxRecDepth 100000 in
theorem stp_191 : StP 191 := ⟨fun u hs => ⟨kk_191 hs, kk_192 hs, kk_193 hs, kk_194 hs, kk_195 hs, ln_192 hs, ln_193 hs, ln_194 hs, ln_195 hs, rf_191_2 hs, rf_191_3 hs, rf_191_4 hs, rf_191_5 hs⟩, noT_of 191 rfl, by decide, by decide⟩
set_option maxRecDepth 100000 in
theorem stp_197 : StP 197 := ⟨fun u hs => ⟨kk_197 hs, kk_198 hs, kk_199 hs, kk_200 hs, kk_201 hs, ln_198 hs, ln_199 hs, ln_200 hs, ln_201 hs, rf_197_2 hs, rf_197_3 hs, rf_197_4 hs, rf_197_5 hs⟩, noT_of 197 rfl, by decide, by decide⟩
set_option maxRecDepth 100000 in
theorem stp_203 : StP 203 := ⟨fun u hs => ⟨kk_203 hs, kk_204 hs, kk_205 hs, kk_206 hs, kk_207 hs, ln_204 hs, ln_205 hs, ln_206 hs, ln_207 hs, rf_203_2 hs, rf_203_3 hs, rf_203_4 hs, rf_203_5 hs⟩, noT_of 203 rfl, by decide, by decide⟩
set_option maxRecDepth 100000 in
theorem stp_209 : StP 209 := ⟨fun u hs => ⟨kk_209 hs, kk_210 hs, kk_211 hs, kk_212 hs, kk_213 hs, ln_210 hs, ln_211 hs, ln_212 hs, ln_213 hs, rf_209_2 hs, rf_209_3 hs, rf_209_4 hs, rf_209_5 hs⟩, noT_of 209 rfl, by decide, by decide⟩
set_option maxRecDepth 100000 in
theorem stp_215 : StP 215 := ⟨fun u hs => ⟨kk_215 hs, kk_216 hs, kk_217 hs, kk_218 hs, kk_219 hs, ln_216 hs, ln_217 hs, ln_218 hs, ln_219 hs, rf_215_2 hs, rf_215_3 hs, rf_215_4 hs, rf_215_5 hs⟩, noT_of 215 rfl, by decide, by decide⟩
theorem stp_past : ∀ k, k < 20 → StP (96 + 5 * k) := by
  intro k hk
  have h : k = 0 ∨ k = 1 ∨ k = 2 ∨ k = 3 ∨ k = 4 ∨ k = 5 ∨ k = 6 ∨ k = 7 ∨ k = 8 ∨ k = 9 ∨ k = 10 ∨ k = 11 ∨ k = 12 ∨ k = 13 ∨ k = 14 ∨ k = 15 ∨ k = 16 ∨ k = 17 ∨ k = 18 ∨ k = 19 := by omega
  rcases h with rfl | rfl | rfl | rfl | rfl | rfl | rfl | rfl | rfl | rfl | rfl | rfl | rfl | rfl | rfl | rfl | rfl | rfl | rfl | rfl
  · exact stp_96
  · exact stp_101
  · exact stp_106
  · exact stp_111
  · exact stp_116
  · exact stp_121
  · exact stp_126
  · exact stp_131
  · exact stp_136
  · exact stp_141
  · exact stp_146
  · exact stp_151
  · exact stp_156
  · exact stp_161
  · exact stp_166
  · exact stp_171
  · exact stp_176
  · exact stp_181
  · exact stp_186
  · exact stp_191
theorem stp_img : ∀ k, k < 4 → StP (197 + 6 * k) := by
  intro k hk
  have h : k = 0 ∨ k = 1 ∨ k = 2 ∨ k = 3 := by omega
  rcases h with rfl | rfl | rfl | rfl
  · exact stp_197
  · exact stp_203
  · exact stp_209
  · exact stp_215
theorem hcpy_n {a b n : Nat} {f : hM} {u : hS} (ha : okk u a 20) (hb : okk u b 20) (h1 : n ≤ hN u a) (h2 : n ≤ hN u b) : hcpy a 0 b 0 (n : Int) f u = f (hcopy u a 0 b 0 n) := by
  have h : hcpy a 0 b 0 (n : Int) f u = f (hcopy u a (0 : Int).toNat b (0 : Int).toNat (n : Int).toNat) := if_pos ⟨ha, hb, by omega, by omega, by omega, by omega, by omega⟩
  rw [h]
  rfl
def CpF (u v : hS) (d s : Nat) : Prop := ext u v ∧ (∀ a, a < d ∨ d + 4 < a → agr u v a) ∧ hF v d 0 = hF u s 0 ∧ hV v d 1 = hV u s 1 ∧ (∀ i, i < 4 → hV v (d + 1) i = hV u (s + 1) i) ∧ (∀ i, i < 4 → hV v (d + 2) i = hV u (s + 2) i) ∧ (∀ i, i < 36 → hV v (d + 3) i = hV u (s + 3) i) ∧ (∀ i, i < 36 → hV v (d + 4) i = hV u (s + 4) i) ∧ shp v
theorem x_copy {u : hS} {d s : Nat} (hs : shp u) (pd : StP d) (ps : StP s) (dj : d + 5 ≤ s ∨ s + 5 ≤ d) : ∃ v, m_X4_copy d s u = some (0, v) ∧ CpF u v d s := by
  have hv : shp (hsetF u d 0 (hF u s 0)) := shp_setF hs pd.2.1
  have a0 := ps.1 u hs
  have a1 := pd.1 _ hv
  have a2 := ps.1 _ hv
  have k0 := pd.1 u hs
  refine ⟨_, by
    simp only [m_X4_copy, hgR_k (StA.k0 a0), hpR_k (StA.k0 k0), hgI_k (StA.k0 a2), hpI_k (StA.k0 a1)]
    simp only [hgI_k, hgR_k, hpI_k, hpR_k, hpZ_k, haI_k, haR_k, hsI_k, hsZ_k, hlen_k, hlet_e, hret_e, hretZ_0, hretZ_1, hif_e, okk_setV, okk_setF, nV, nF, fV, vF, okk_copy, hF_copy, hN_copy, hcpy_n, StA.k0 a1, StA.k1 a1, StA.k2 a1, StA.k3 a1, StA.k4 a1, StA.n1 a1, StA.n2 a1, StA.n3 a1, StA.n4 a1, StA.f2 a1, StA.f3 a1, StA.f4 a1, StA.f5 a1, StA.k0 a2, StA.k1 a2, StA.k2 a2, StA.k3 a2, StA.k4 a2, StA.n1 a2, StA.n2 a2, StA.n3 a2, StA.n4 a2, StA.f2 a2, StA.f3 a2, StA.f4 a2, StA.f5 a2, StA.k0 a0, StA.k1 a0, StA.k2 a0, StA.k3 a0, StA.k4 a0, StA.n1 a0, StA.n2 a0, StA.n3 a0, StA.n4 a0, StA.f2 a0, StA.f3 a0, StA.f4 a0, StA.f5 a0, StA.k0 k0, StA.k1 k0, StA.k2 k0, StA.k3 k0, StA.k4 k0, StA.n1 k0, StA.n2 k0, StA.n3 k0, StA.n4 k0, StA.f2 k0, StA.f3 k0, StA.f4 k0, StA.f5 k0, Nat.le_refl]
    rfl, ?_⟩
  refine ⟨⟨Nat.le_refl _, fun _ _ => ⟨rfl, rfl⟩⟩, ?_, ?_, ?_, ?_, ?_, ?_, ?_, hv⟩
  · intro a ha i
    constructor
    · rw [hV_copy, if_neg (by omega), hV_copy, if_neg (by omega), hV_copy, if_neg (by omega), hV_copy, if_neg (by omega), hV_setV_a (by omega)]
      rfl
    · show (if a = d ∧ i = 0 then hF u s 0 else hF u a i) = hF u a i
      rw [if_neg (by omega)]
  · show (if d = d ∧ 0 = 0 then hF u s 0 else hF u d 0) = hF u s 0
    rw [if_pos ⟨rfl, rfl⟩]
  · rw [hV_copy, if_neg (by omega), hV_copy, if_neg (by omega), hV_copy, if_neg (by omega), hV_copy, if_neg (by omega), hV_setV_s]
  · intro i hi
    rw [hV_copy, if_neg (by omega), hV_copy, if_neg (by omega), hV_copy, if_neg (by omega), hV_copy, if_pos (by omega), hV_setV_a (by omega), Nat.sub_zero, Nat.zero_add]
    rfl
  · intro i hi
    rw [hV_copy, if_neg (by omega), hV_copy, if_neg (by omega), hV_copy, if_pos (by omega), hV_copy, if_neg (by omega), hV_setV_a (by omega), Nat.sub_zero, Nat.zero_add]
    rfl
  · intro i hi
    rw [hV_copy, if_neg (by omega), hV_copy, if_pos (by omega), hV_copy, if_neg (by omega), hV_copy, if_neg (by omega), hV_setV_a (by omega), Nat.sub_zero, Nat.zero_add]
    rfl
  · intro i hi
    rw [hV_copy, if_pos (by omega), hV_copy, if_neg (by omega), hV_copy, if_neg (by omega), hV_copy, if_neg (by omega), hV_setV_a (by omega), Nat.sub_zero, Nat.zero_add]
    rfl
theorem RepS.cp {u v : hS} {d s t : Nat} {S : Nat → Int} (h : RepS u s t S) (ws : WS S) (pd : StP d) (c : CpF u v d s) (dt : d + 5 ≤ t ∨ t + 18 ≤ d) : RepS v d t S := by
  obtain ⟨e, g, c0, c1, c2, c3, c4, c5, hs⟩ := c
  have w2 := ws.2.2.1
  have w4 := ws.2.2.2.2.1
  have gt : ∀ a, t ≤ a → a ≤ t + 17 → agr u v a := fun a _ _ => g a (by omega)
  exact ⟨pd.1 v hs, h.ht.fr e gt, c0.trans h.to, (gt t (by omega) (by omega) 0).1.trans h.v0, (gt t (by omega) (by omega) 1).1.trans h.v1, (gt (t + 1) (by omega) (by omega) 3).1.trans h.v2, (gt (t + 5) (by omega) (by omega) 3).1.trans h.v3, (gt t (by omega) (by omega) 7).1.trans h.v4, (gt t (by omega) (by omega) 10).1.trans h.v5, c1.trans h.v6, (gt t (by omega) (by omega) 4).1.trans h.v7,
    fun i k => (c2 i (by omega)).trans (h.at i k),
    fun i k => (gt (t + 11) (by omega) (by omega) i).1.trans (h.home i k),
    fun i k => (c3 i (by omega)).trans (h.paid i k),
    fun i j k l => (c4 (9 * i + j) (by omega)).trans (h.cro i j k l),
    fun i j k l => (c5 (9 * i + j) (by omega)).trans (h.sin i j k l),
    fun i k => (gt (t + 2) (by omega) (by omega) i).1.trans (h.br0 i k),
    fun i k => (gt (t + 3) (by omega) (by omega) i).1.trans (h.br1 i k),
    fun i k => (gt (t + 6) (by omega) (by omega) i).1.trans (h.fe0 i k),
    fun i k => (gt (t + 7) (by omega) (by omega) i).1.trans (h.fe1 i k),
    fun i k => (gt (t + 9) (by omega) (by omega) i).1.trans (h.fr0 i k),
    fun i k => (gt (t + 10) (by omega) (by omega) i).1.trans (h.fr1 i k),
    fun i k => (gt (t + 13) (by omega) (by omega) i).1.trans (h.wa0 i k),
    fun i k => (gt (t + 14) (by omega) (by omega) i).1.trans (h.wa1 i k),
    fun i k => (gt (t + 15) (by omega) (by omega) i).1.trans (h.wa2 i k),
    fun i k => (gt (t + 16) (by omega) (by omega) i).1.trans (h.wa3 i k)⟩
theorem RepS.cpo {u v : hS} {d s s' t : Nat} {S : Nat → Int} (h : RepS u s' t S) (c : CpF u v d s) (ds : d + 5 ≤ s' ∨ s' + 5 ≤ d) (dt : d + 5 ≤ t ∨ t + 18 ≤ d) : RepS v s' t S :=
  h.fr c.1 (fun a _ _ => c.2.1 a (by omega)) (fun a _ _ => c.2.1 a (by omega))
