/-! the law's loop, when every call answers alike and keeps what must be kept -/
theorem hscr_ok {L : Nat} {xs : Nat → Int32} {i : Int} {f : Int → hM} {u : hS} (h0 : 0 ≤ i) (h1 : i < (L : Int)) : hscr L xs i f u = f (xs i.toNat).toInt u := if_pos ⟨h0, h1⟩
theorem hnew_e {k : Nat} {f : Nat → hM} {u : hS} : hnew k f u = f (hB u) (hmake u k 0) := rfl
def agree (Iv : hS → Prop) (g1 g2 : hM) (u : hS) : Prop := ∃ r u1 u2, g1 u = some (r, u1) ∧ g2 u1 = some (r, u2) ∧ shp u1 ∧ Iv u2
theorem g_L_c0 {Iv : hS → Prop} (hI : ∀ u, Iv u → shp u) (hc : ∀ u, Iv u → ∀ (a b c d e : Int), inI a → inI b → inI c → inI d → inI e → agree Iv (m_X9_feed 1 a b c d e) (m_X10_feed 220 a b c d e) u) {L : Nat} {xs : Nat → Int32} {k18 : Nat → Nat → Int → hM} {l3 : Int} {u : hS} (hL : L ≤ 3072) (h0 : 0 ≤ l3) (h6 : l3 + 6 ≤ (L : Int)) (hu : Iv u) : ∃ u2, Iv u2 ∧ m_L_c0 L xs k18 1 220 l3 u = k18 1 220 (l3 + 6) u2 := by
  have w1 : w32 (l3 + 1) = l3 + 1 := w32_id ⟨by omega, by omega⟩
  have w2 : w32 (l3 + 2) = l3 + 2 := w32_id ⟨by omega, by omega⟩
  have w3 : w32 (l3 + 3) = l3 + 3 := w32_id ⟨by omega, by omega⟩
  have w4 : w32 (l3 + 4) = l3 + 4 := w32_id ⟨by omega, by omega⟩
  have w5 : w32 (l3 + 5) = l3 + 5 := w32_id ⟨by omega, by omega⟩
  have w6 : w32 (l3 + 6) = l3 + 6 := w32_id ⟨by omega, by omega⟩
  obtain ⟨r, u1, u2, e1, e2, e3, e4⟩ := hc u hu (xs (l3 + 1).toNat).toInt (xs (l3 + 2).toNat).toInt (xs (l3 + 3).toNat).toInt (xs (l3 + 4).toNat).toInt (xs (l3 + 5).toNat).toInt (toI_in _) (toI_in _) (toI_in _) (toI_in _) (toI_in _)
  refine ⟨u2, e4, ?_⟩
  unfold m_L_c0
  simp only [w1, w2, w3, w4, w5, w6]
  rw [hscr_ok (by omega) (by omega), hscr_ok (by omega) (by omega), hscr_ok (by omega) (by omega), hscr_ok (by omega) (by omega), hscr_ok (by omega) (by omega), hcallV_ok (ok_1 (hI u hu)) e1, hscr_ok (by omega) (by omega), hscr_ok (by omega) (by omega), hscr_ok (by omega) (by omega), hscr_ok (by omega) (by omega), hscr_ok (by omega) (by omega), hcallV_ok (ok_220 e3) e2, hif_t rfl]
theorem g_L_c1 {Iv : hS → Prop} (hI : ∀ u, Iv u → shp u) (hc : ∀ u, Iv u → ∀ (a : Int), inI a → agree Iv (m_X9_end 1 a) (m_X10_end 220 a) u) {L : Nat} {xs : Nat → Int32} {k18 : Nat → Nat → Int → hM} {l3 : Int} {u : hS} (hL : L ≤ 3072) (h0 : 0 ≤ l3) (h6 : l3 + 6 ≤ (L : Int)) (hu : Iv u) : ∃ u2, Iv u2 ∧ m_L_c1 L xs k18 1 220 l3 u = k18 1 220 (l3 + 6) u2 := by
  have w1 : w32 (l3 + 1) = l3 + 1 := w32_id ⟨by omega, by omega⟩
  have w6 : w32 (l3 + 6) = l3 + 6 := w32_id ⟨by omega, by omega⟩
  obtain ⟨r, u1, u2, e1, e2, e3, e4⟩ := hc u hu (xs (l3 + 1).toNat).toInt (toI_in _)
  refine ⟨u2, e4, ?_⟩
  unfold m_L_c1
  simp only [w1, w6]
  rw [hscr_ok (by omega) (by omega), hcallV_ok (ok_1 (hI u hu)) e1, hscr_ok (by omega) (by omega), hcallV_ok (ok_220 e3) e2, hif_t rfl]
theorem g_L_c2 {Iv : hS → Prop} (hI : ∀ u, Iv u → shp u) (hc : ∀ u, Iv u →  agree Iv (m_X9_town 1) (m_X10_town 220) u) {L : Nat} {xs : Nat → Int32} {k18 : Nat → Nat → Int → hM} {l3 : Int} {u : hS} (hL : L ≤ 3072) (h0 : 0 ≤ l3) (h6 : l3 + 6 ≤ (L : Int)) (hu : Iv u) : ∃ u2, Iv u2 ∧ m_L_c2 L xs k18 1 220 l3 u = k18 1 220 (l3 + 6) u2 := by
  have w6 : w32 (l3 + 6) = l3 + 6 := w32_id ⟨by omega, by omega⟩
  obtain ⟨r, u1, u2, e1, e2, e3, e4⟩ := hc u hu  
  refine ⟨u2, e4, ?_⟩
  unfold m_L_c2
  simp only [w6]
  rw [hcallV_ok (ok_1 (hI u hu)) e1, hcallV_ok (ok_220 e3) e2, hif_t rfl]
theorem g_L_c3 {Iv : hS → Prop} (hI : ∀ u, Iv u → shp u) (hc : ∀ u, Iv u →  agree Iv (m_X9_rule 1) (m_X10_rule 220) u) {L : Nat} {xs : Nat → Int32} {k18 : Nat → Nat → Int → hM} {l3 : Int} {u : hS} (hL : L ≤ 3072) (h0 : 0 ≤ l3) (h6 : l3 + 6 ≤ (L : Int)) (hu : Iv u) : ∃ u2, Iv u2 ∧ m_L_c3 L xs k18 1 220 l3 u = k18 1 220 (l3 + 6) u2 := by
  have w6 : w32 (l3 + 6) = l3 + 6 := w32_id ⟨by omega, by omega⟩
  obtain ⟨r, u1, u2, e1, e2, e3, e4⟩ := hc u hu  
  refine ⟨u2, e4, ?_⟩
  unfold m_L_c3
  simp only [w6]
  rw [hcallV_ok (ok_1 (hI u hu)) e1, hcallV_ok (ok_220 e3) e2, hif_t rfl]
theorem g_L_c4 {Iv : hS → Prop} (hI : ∀ u, Iv u → shp u) (hc : ∀ u, Iv u → ∀ (a b : Int), inI a → inI b → agree Iv (m_X9_person 1 a b) (m_X10_person 220 a b) u) {L : Nat} {xs : Nat → Int32} {k18 : Nat → Nat → Int → hM} {l3 : Int} {u : hS} (hL : L ≤ 3072) (h0 : 0 ≤ l3) (h6 : l3 + 6 ≤ (L : Int)) (hu : Iv u) : ∃ u2, Iv u2 ∧ m_L_c4 L xs k18 1 220 l3 u = k18 1 220 (l3 + 6) u2 := by
  have w1 : w32 (l3 + 1) = l3 + 1 := w32_id ⟨by omega, by omega⟩
  have w2 : w32 (l3 + 2) = l3 + 2 := w32_id ⟨by omega, by omega⟩
  have w6 : w32 (l3 + 6) = l3 + 6 := w32_id ⟨by omega, by omega⟩
  obtain ⟨r, u1, u2, e1, e2, e3, e4⟩ := hc u hu (xs (l3 + 1).toNat).toInt (xs (l3 + 2).toNat).toInt (toI_in _) (toI_in _)
  refine ⟨u2, e4, ?_⟩
  unfold m_L_c4
  simp only [w1, w2, w6]
  rw [hscr_ok (by omega) (by omega), hscr_ok (by omega) (by omega), hcallV_ok (ok_1 (hI u hu)) e1, hscr_ok (by omega) (by omega), hscr_ok (by omega) (by omega), hcallV_ok (ok_220 e3) e2, hif_t rfl]
theorem g_L_c5 {Iv : hS → Prop} (hI : ∀ u, Iv u → shp u) (hc : ∀ u, Iv u → ∀ (a b : Int), inI a → inI b → agree Iv (m_X9_left 1 a b) (m_X10_left 220 a b) u) {L : Nat} {xs : Nat → Int32} {k18 : Nat → Nat → Int → hM} {l3 : Int} {u : hS} (hL : L ≤ 3072) (h0 : 0 ≤ l3) (h6 : l3 + 6 ≤ (L : Int)) (hu : Iv u) : ∃ u2, Iv u2 ∧ m_L_c5 L xs k18 1 220 l3 u = k18 1 220 (l3 + 6) u2 := by
  have w1 : w32 (l3 + 1) = l3 + 1 := w32_id ⟨by omega, by omega⟩
  have w2 : w32 (l3 + 2) = l3 + 2 := w32_id ⟨by omega, by omega⟩
  have w6 : w32 (l3 + 6) = l3 + 6 := w32_id ⟨by omega, by omega⟩
  obtain ⟨r, u1, u2, e1, e2, e3, e4⟩ := hc u hu (xs (l3 + 1).toNat).toInt (xs (l3 + 2).toNat).toInt (toI_in _) (toI_in _)
  refine ⟨u2, e4, ?_⟩
  unfold m_L_c5
  simp only [w1, w2, w6]
  rw [hscr_ok (by omega) (by omega), hscr_ok (by omega) (by omega), hcallV_ok (ok_1 (hI u hu)) e1, hscr_ok (by omega) (by omega), hscr_ok (by omega) (by omega), hcallV_ok (ok_220 e3) e2, hif_t rfl]
theorem g_L_c6 {Iv : hS → Prop} (hI : ∀ u, Iv u → shp u) (hc : ∀ u, Iv u → ∀ (a b : Int), inI a → inI b → agree Iv (m_X9_bridge 1 a b) (m_X10_bridge 220 a b) u) {L : Nat} {xs : Nat → Int32} {k18 : Nat → Nat → Int → hM} {l3 : Int} {u : hS} (hL : L ≤ 3072) (h0 : 0 ≤ l3) (h6 : l3 + 6 ≤ (L : Int)) (hu : Iv u) : ∃ u2, Iv u2 ∧ m_L_c6 L xs k18 1 220 l3 u = k18 1 220 (l3 + 6) u2 := by
  have w1 : w32 (l3 + 1) = l3 + 1 := w32_id ⟨by omega, by omega⟩
  have w2 : w32 (l3 + 2) = l3 + 2 := w32_id ⟨by omega, by omega⟩
  have w6 : w32 (l3 + 6) = l3 + 6 := w32_id ⟨by omega, by omega⟩
  obtain ⟨r, u1, u2, e1, e2, e3, e4⟩ := hc u hu (xs (l3 + 1).toNat).toInt (xs (l3 + 2).toNat).toInt (toI_in _) (toI_in _)
  refine ⟨u2, e4, ?_⟩
  unfold m_L_c6
  simp only [w1, w2, w6]
  rw [hscr_ok (by omega) (by omega), hscr_ok (by omega) (by omega), hcallV_ok (ok_1 (hI u hu)) e1, hscr_ok (by omega) (by omega), hscr_ok (by omega) (by omega), hcallV_ok (ok_220 e3) e2, hif_t rfl]
theorem g_L_c7 {Iv : hS → Prop} (hI : ∀ u, Iv u → shp u) (hc : ∀ u, Iv u → ∀ (a b : Int), inI a → inI b → agree Iv (m_X9_cross 1 a b) (m_X10_cross 220 a b) u) {L : Nat} {xs : Nat → Int32} {k18 : Nat → Nat → Int → hM} {l3 : Int} {u : hS} (hL : L ≤ 3072) (h0 : 0 ≤ l3) (h6 : l3 + 6 ≤ (L : Int)) (hu : Iv u) : ∃ u2, Iv u2 ∧ m_L_c7 L xs k18 1 220 l3 u = k18 1 220 (l3 + 6) u2 := by
  have w1 : w32 (l3 + 1) = l3 + 1 := w32_id ⟨by omega, by omega⟩
  have w2 : w32 (l3 + 2) = l3 + 2 := w32_id ⟨by omega, by omega⟩
  have w6 : w32 (l3 + 6) = l3 + 6 := w32_id ⟨by omega, by omega⟩
  obtain ⟨r, u1, u2, e1, e2, e3, e4⟩ := hc u hu (xs (l3 + 1).toNat).toInt (xs (l3 + 2).toNat).toInt (toI_in _) (toI_in _)
  refine ⟨u2, e4, ?_⟩
  unfold m_L_c7
  simp only [w1, w2, w6]
  rw [hscr_ok (by omega) (by omega), hscr_ok (by omega) (by omega), hcallV_ok (ok_1 (hI u hu)) e1, hscr_ok (by omega) (by omega), hscr_ok (by omega) (by omega), hcallV_ok (ok_220 e3) e2, hif_t rfl]
theorem g_L_c8 {Iv : hS → Prop} (hI : ∀ u, Iv u → shp u) (hc : ∀ u, Iv u → ∀ (a b : Int), inI a → inI b → agree Iv (m_X9_sail 1 a b) (m_X10_sail 220 a b) u) {L : Nat} {xs : Nat → Int32} {k18 : Nat → Nat → Int → hM} {l3 : Int} {u : hS} (hL : L ≤ 3072) (h0 : 0 ≤ l3) (h6 : l3 + 6 ≤ (L : Int)) (hu : Iv u) : ∃ u2, Iv u2 ∧ m_L_c8 L xs k18 1 220 l3 u = k18 1 220 (l3 + 6) u2 := by
  have w1 : w32 (l3 + 1) = l3 + 1 := w32_id ⟨by omega, by omega⟩
  have w2 : w32 (l3 + 2) = l3 + 2 := w32_id ⟨by omega, by omega⟩
  have w6 : w32 (l3 + 6) = l3 + 6 := w32_id ⟨by omega, by omega⟩
  obtain ⟨r, u1, u2, e1, e2, e3, e4⟩ := hc u hu (xs (l3 + 1).toNat).toInt (xs (l3 + 2).toNat).toInt (toI_in _) (toI_in _)
  refine ⟨u2, e4, ?_⟩
  unfold m_L_c8
  simp only [w1, w2, w6]
  rw [hscr_ok (by omega) (by omega), hscr_ok (by omega) (by omega), hcallV_ok (ok_1 (hI u hu)) e1, hscr_ok (by omega) (by omega), hscr_ok (by omega) (by omega), hcallV_ok (ok_220 e3) e2, hif_t rfl]
theorem g_L_c9 {Iv : hS → Prop} (hI : ∀ u, Iv u → shp u) (hc : ∀ u, Iv u → ∀ (a b c : Int), inI a → inI b → inI c → agree Iv (m_X9_carry 1 a b c) (m_X10_carry 220 a b c) u) {L : Nat} {xs : Nat → Int32} {k18 : Nat → Nat → Int → hM} {l3 : Int} {u : hS} (hL : L ≤ 3072) (h0 : 0 ≤ l3) (h6 : l3 + 6 ≤ (L : Int)) (hu : Iv u) : ∃ u2, Iv u2 ∧ m_L_c9 L xs k18 1 220 l3 u = k18 1 220 (l3 + 6) u2 := by
  have w1 : w32 (l3 + 1) = l3 + 1 := w32_id ⟨by omega, by omega⟩
  have w2 : w32 (l3 + 2) = l3 + 2 := w32_id ⟨by omega, by omega⟩
  have w3 : w32 (l3 + 3) = l3 + 3 := w32_id ⟨by omega, by omega⟩
  have w6 : w32 (l3 + 6) = l3 + 6 := w32_id ⟨by omega, by omega⟩
  obtain ⟨r, u1, u2, e1, e2, e3, e4⟩ := hc u hu (xs (l3 + 1).toNat).toInt (xs (l3 + 2).toNat).toInt (xs (l3 + 3).toNat).toInt (toI_in _) (toI_in _) (toI_in _)
  refine ⟨u2, e4, ?_⟩
  unfold m_L_c9
  simp only [w1, w2, w3, w6]
  rw [hscr_ok (by omega) (by omega), hscr_ok (by omega) (by omega), hscr_ok (by omega) (by omega), hcallV_ok (ok_1 (hI u hu)) e1, hscr_ok (by omega) (by omega), hscr_ok (by omega) (by omega), hscr_ok (by omega) (by omega), hcallV_ok (ok_220 e3) e2, hif_t rfl]
theorem g_L_c10 {Iv : hS → Prop} (hI : ∀ u, Iv u → shp u) (hc : ∀ u, Iv u → ∀ (a : Int), inI a → agree Iv (m_X9_rebuild 1 a) (m_X10_rebuild 220 a) u) {L : Nat} {xs : Nat → Int32} {k18 : Nat → Nat → Int → hM} {l3 : Int} {u : hS} (hL : L ≤ 3072) (h0 : 0 ≤ l3) (h6 : l3 + 6 ≤ (L : Int)) (hu : Iv u) : ∃ u2, Iv u2 ∧ m_L_c10 L xs k18 1 220 l3 u = k18 1 220 (l3 + 6) u2 := by
  have w1 : w32 (l3 + 1) = l3 + 1 := w32_id ⟨by omega, by omega⟩
  have w6 : w32 (l3 + 6) = l3 + 6 := w32_id ⟨by omega, by omega⟩
  obtain ⟨r, u1, u2, e1, e2, e3, e4⟩ := hc u hu (xs (l3 + 1).toNat).toInt (toI_in _)
  refine ⟨u2, e4, ?_⟩
  unfold m_L_c10
  simp only [w1, w6]
  rw [hscr_ok (by omega) (by omega), hcallV_ok (ok_1 (hI u hu)) e1, hscr_ok (by omega) (by omega), hcallV_ok (ok_220 e3) e2, hif_t rfl]
theorem g_L_c11 {Iv : hS → Prop} (hI : ∀ u, Iv u → shp u) (hc : ∀ u, Iv u →  agree Iv (m_X9_day 1) (m_X10_day 220) u) {L : Nat} {xs : Nat → Int32} {k18 : Nat → Nat → Int → hM} {l3 : Int} {u : hS} (hL : L ≤ 3072) (h0 : 0 ≤ l3) (h6 : l3 + 6 ≤ (L : Int)) (hu : Iv u) : ∃ u2, Iv u2 ∧ m_L_c11 L xs k18 1 220 l3 u = k18 1 220 (l3 + 6) u2 := by
  have w6 : w32 (l3 + 6) = l3 + 6 := w32_id ⟨by omega, by omega⟩
  obtain ⟨r, u1, u2, e1, e2, e3, e4⟩ := hc u hu  
  refine ⟨u2, e4, ?_⟩
  unfold m_L_c11
  simp only [w6]
  rw [hcallV_ok (ok_1 (hI u hu)) e1, hcallV_ok (ok_220 e3) e2, hif_t rfl]
theorem g_L_c12 {Iv : hS → Prop} (hI : ∀ u, Iv u → shp u) (hc : ∀ u, Iv u →  agree Iv (m_X9_undo 1) (m_X10_undo 220) u) {L : Nat} {xs : Nat → Int32} {k18 : Nat → Nat → Int → hM} {l3 : Int} {u : hS} (hL : L ≤ 3072) (h0 : 0 ≤ l3) (h6 : l3 + 6 ≤ (L : Int)) (hu : Iv u) : ∃ u2, Iv u2 ∧ m_L_c12 L xs k18 1 220 l3 u = k18 1 220 (l3 + 6) u2 := by
  have w6 : w32 (l3 + 6) = l3 + 6 := w32_id ⟨by omega, by omega⟩
  obtain ⟨r, u1, u2, e1, e2, e3, e4⟩ := hc u hu  
  refine ⟨u2, e4, ?_⟩
  unfold m_L_c12
  simp only [w6]
  rw [hcallV_ok (ok_1 (hI u hu)) e1, hcallV_ok (ok_220 e3) e2, hif_t rfl]
theorem g_L_c13 {Iv : hS → Prop} (hI : ∀ u, Iv u → shp u) (hc : ∀ u, Iv u → ∀ (a b : Int), inI a → inI b → agree Iv (m_X9_run 1 a b) (m_X10_run 220 a b) u) {L : Nat} {xs : Nat → Int32} {k18 : Nat → Nat → Int → hM} {l3 : Int} {u : hS} (hL : L ≤ 3072) (h0 : 0 ≤ l3) (h6 : l3 + 6 ≤ (L : Int)) (hu : Iv u) : ∃ u2, Iv u2 ∧ m_L_c13 L xs k18 1 220 l3 u = k18 1 220 (l3 + 6) u2 := by
  have w1 : w32 (l3 + 1) = l3 + 1 := w32_id ⟨by omega, by omega⟩
  have w2 : w32 (l3 + 2) = l3 + 2 := w32_id ⟨by omega, by omega⟩
  have w6 : w32 (l3 + 6) = l3 + 6 := w32_id ⟨by omega, by omega⟩
  obtain ⟨r, u1, u2, e1, e2, e3, e4⟩ := hc u hu (xs (l3 + 1).toNat).toInt (xs (l3 + 2).toNat).toInt (toI_in _) (toI_in _)
  refine ⟨u2, e4, ?_⟩
  unfold m_L_c13
  simp only [w1, w2, w6]
  rw [hscr_ok (by omega) (by omega), hscr_ok (by omega) (by omega), hcallV_ok (ok_1 (hI u hu)) e1, hscr_ok (by omega) (by omega), hscr_ok (by omega) (by omega), hcallV_ok (ok_220 e3) e2, hif_t rfl]
theorem g_L_c14 {Iv : hS → Prop} (hI : ∀ u, Iv u → shp u) (hc : ∀ u, Iv u → ∀ (a b c : Int), inI a → inI b → inI c → agree Iv (m_X9_way 1 a b c) (m_X10_way 220 a b c) u) {L : Nat} {xs : Nat → Int32} {k18 : Nat → Nat → Int → hM} {l3 : Int} {u : hS} (hL : L ≤ 3072) (h0 : 0 ≤ l3) (h6 : l3 + 6 ≤ (L : Int)) (hu : Iv u) : ∃ u2, Iv u2 ∧ m_L_c14 L xs k18 1 220 l3 u = k18 1 220 (l3 + 6) u2 := by
  have w1 : w32 (l3 + 1) = l3 + 1 := w32_id ⟨by omega, by omega⟩
  have w2 : w32 (l3 + 2) = l3 + 2 := w32_id ⟨by omega, by omega⟩
  have w3 : w32 (l3 + 3) = l3 + 3 := w32_id ⟨by omega, by omega⟩
  have w6 : w32 (l3 + 6) = l3 + 6 := w32_id ⟨by omega, by omega⟩
  obtain ⟨r, u1, u2, e1, e2, e3, e4⟩ := hc u hu (xs (l3 + 1).toNat).toInt (xs (l3 + 2).toNat).toInt (xs (l3 + 3).toNat).toInt (toI_in _) (toI_in _) (toI_in _)
  refine ⟨u2, e4, ?_⟩
  unfold m_L_c14
  simp only [w1, w2, w3, w6]
  rw [hscr_ok (by omega) (by omega), hscr_ok (by omega) (by omega), hscr_ok (by omega) (by omega), hcallV_ok (ok_1 (hI u hu)) e1, hscr_ok (by omega) (by omega), hscr_ok (by omega) (by omega), hscr_ok (by omega) (by omega), hcallV_ok (ok_220 e3) e2, hif_t rfl]
theorem g_L_c15 {Iv : hS → Prop} (hI : ∀ u, Iv u → shp u) (hc : ∀ u, Iv u → ∀ (a b c : Int), inI a → inI b → inI c → agree Iv (m_X9_life 1 a b c) (m_X10_life 220 a b c) u) {L : Nat} {xs : Nat → Int32} {k18 : Nat → Nat → Int → hM} {l3 : Int} {u : hS} (hL : L ≤ 3072) (h0 : 0 ≤ l3) (h6 : l3 + 6 ≤ (L : Int)) (hu : Iv u) : ∃ u2, Iv u2 ∧ m_L_c15 L xs k18 1 220 l3 u = k18 1 220 (l3 + 6) u2 := by
  have w1 : w32 (l3 + 1) = l3 + 1 := w32_id ⟨by omega, by omega⟩
  have w2 : w32 (l3 + 2) = l3 + 2 := w32_id ⟨by omega, by omega⟩
  have w3 : w32 (l3 + 3) = l3 + 3 := w32_id ⟨by omega, by omega⟩
  have w6 : w32 (l3 + 6) = l3 + 6 := w32_id ⟨by omega, by omega⟩
  obtain ⟨r, u1, u2, e1, e2, e3, e4⟩ := hc u hu (xs (l3 + 1).toNat).toInt (xs (l3 + 2).toNat).toInt (xs (l3 + 3).toNat).toInt (toI_in _) (toI_in _) (toI_in _)
  refine ⟨u2, e4, ?_⟩
  unfold m_L_c15
  simp only [w1, w2, w3, w6]
  rw [hscr_ok (by omega) (by omega), hscr_ok (by omega) (by omega), hscr_ok (by omega) (by omega), hcallV_ok (ok_1 (hI u hu)) e1, hscr_ok (by omega) (by omega), hscr_ok (by omega) (by omega), hscr_ok (by omega) (by omega), hcallV_ok (ok_220 e3) e2, hif_t rfl]
theorem g_L_c16 {Iv : hS → Prop} (hI : ∀ u, Iv u → shp u) (hc : ∀ u, Iv u → ∀ (a b c : Int), inI a → inI b → inI c → agree Iv (m_X9_worth 1 a b c) (m_X10_worth 220 a b c) u) {L : Nat} {xs : Nat → Int32} {k18 : Nat → Nat → Int → hM} {l3 : Int} {u : hS} (hL : L ≤ 3072) (h0 : 0 ≤ l3) (h6 : l3 + 6 ≤ (L : Int)) (hu : Iv u) : ∃ u2, Iv u2 ∧ m_L_c16 L xs k18 1 220 l3 u = k18 1 220 (l3 + 6) u2 := by
  have w1 : w32 (l3 + 1) = l3 + 1 := w32_id ⟨by omega, by omega⟩
  have w2 : w32 (l3 + 2) = l3 + 2 := w32_id ⟨by omega, by omega⟩
  have w3 : w32 (l3 + 3) = l3 + 3 := w32_id ⟨by omega, by omega⟩
  have w6 : w32 (l3 + 6) = l3 + 6 := w32_id ⟨by omega, by omega⟩
  obtain ⟨r, u1, u2, e1, e2, e3, e4⟩ := hc u hu (xs (l3 + 1).toNat).toInt (xs (l3 + 2).toNat).toInt (xs (l3 + 3).toNat).toInt (toI_in _) (toI_in _) (toI_in _)
  refine ⟨u2, e4, ?_⟩
  unfold m_L_c16
  simp only [w1, w2, w3, w6]
  rw [hscr_ok (by omega) (by omega), hscr_ok (by omega) (by omega), hscr_ok (by omega) (by omega), hcallV_ok (ok_1 (hI u hu)) e1, hscr_ok (by omega) (by omega), hscr_ok (by omega) (by omega), hscr_ok (by omega) (by omega), hcallV_ok (ok_220 e3) e2, hif_t rfl]
theorem g_L_c17 {Iv : hS → Prop} (hI : ∀ u, Iv u → shp u) (hc : ∀ u, Iv u → ∀ (a b : Int), inI a → inI b → agree Iv (m_X9_more 1 a b) (m_X10_more 220 a b) u) {L : Nat} {xs : Nat → Int32} {k18 : Nat → Nat → Int → hM} {l3 : Int} {u : hS} (hL : L ≤ 3072) (h0 : 0 ≤ l3) (h6 : l3 + 6 ≤ (L : Int)) (hu : Iv u) : ∃ u2, Iv u2 ∧ m_L_c17 L xs k18 1 220 l3 u = k18 1 220 (l3 + 6) u2 := by
  have w1 : w32 (l3 + 1) = l3 + 1 := w32_id ⟨by omega, by omega⟩
  have w2 : w32 (l3 + 2) = l3 + 2 := w32_id ⟨by omega, by omega⟩
  have w6 : w32 (l3 + 6) = l3 + 6 := w32_id ⟨by omega, by omega⟩
  obtain ⟨r, u1, u2, e1, e2, e3, e4⟩ := hc u hu (xs (l3 + 1).toNat).toInt (xs (l3 + 2).toNat).toInt (toI_in _) (toI_in _)
  refine ⟨u2, e4, ?_⟩
  unfold m_L_c17
  simp only [w1, w2, w6]
  rw [hscr_ok (by omega) (by omega), hscr_ok (by omega) (by omega), hcallV_ok (ok_1 (hI u hu)) e1, hscr_ok (by omega) (by omega), hscr_ok (by omega) (by omega), hcallV_ok (ok_220 e3) e2, hif_t rfl]
theorem g_L_c18 {Iv : hS → Prop} (hI : ∀ u, Iv u → shp u) (hc : ∀ u, Iv u → ∀ (a b c : Int), inI a → inI b → inI c → agree Iv (m_X9_meet 1 a b c) (m_X10_meet 220 a b c) u) {L : Nat} {xs : Nat → Int32} {k18 : Nat → Nat → Int → hM} {l3 : Int} {u : hS} (hL : L ≤ 3072) (h0 : 0 ≤ l3) (h6 : l3 + 6 ≤ (L : Int)) (hu : Iv u) : ∃ u2, Iv u2 ∧ m_L_c18 L xs k18 1 220 l3 u = k18 1 220 (l3 + 6) u2 := by
  have w1 : w32 (l3 + 1) = l3 + 1 := w32_id ⟨by omega, by omega⟩
  have w2 : w32 (l3 + 2) = l3 + 2 := w32_id ⟨by omega, by omega⟩
  have w3 : w32 (l3 + 3) = l3 + 3 := w32_id ⟨by omega, by omega⟩
  have w6 : w32 (l3 + 6) = l3 + 6 := w32_id ⟨by omega, by omega⟩
  obtain ⟨r, u1, u2, e1, e2, e3, e4⟩ := hc u hu (xs (l3 + 1).toNat).toInt (xs (l3 + 2).toNat).toInt (xs (l3 + 3).toNat).toInt (toI_in _) (toI_in _) (toI_in _)
  refine ⟨u2, e4, ?_⟩
  unfold m_L_c18
  simp only [w1, w2, w3, w6]
  rw [hscr_ok (by omega) (by omega), hscr_ok (by omega) (by omega), hscr_ok (by omega) (by omega), hcallV_ok (ok_1 (hI u hu)) e1, hscr_ok (by omega) (by omega), hscr_ok (by omega) (by omega), hscr_ok (by omega) (by omega), hcallV_ok (ok_220 e3) e2, hif_t rfl]
theorem g_L_c19 {Iv : hS → Prop} (hI : ∀ u, Iv u → shp u) (hc : ∀ u, Iv u → ∀ (a : Int), inI a → agree Iv (m_X9_best 1 a) (m_X10_best 220 a) u) {L : Nat} {xs : Nat → Int32} {k18 : Nat → Nat → Int → hM} {l3 : Int} {u : hS} (hL : L ≤ 3072) (h0 : 0 ≤ l3) (h6 : l3 + 6 ≤ (L : Int)) (hu : Iv u) : ∃ u2, Iv u2 ∧ m_L_c19 L xs k18 1 220 l3 u = k18 1 220 (l3 + 6) u2 := by
  have w1 : w32 (l3 + 1) = l3 + 1 := w32_id ⟨by omega, by omega⟩
  have w6 : w32 (l3 + 6) = l3 + 6 := w32_id ⟨by omega, by omega⟩
  obtain ⟨r, u1, u2, e1, e2, e3, e4⟩ := hc u hu (xs (l3 + 1).toNat).toInt (toI_in _)
  refine ⟨u2, e4, ?_⟩
  unfold m_L_c19
  simp only [w1, w6]
  rw [hscr_ok (by omega) (by omega), hcallV_ok (ok_1 (hI u hu)) e1, hscr_ok (by omega) (by omega), hcallV_ok (ok_220 e3) e2, hif_t rfl]
theorem g_L_c20 {Iv : hS → Prop} (hI : ∀ u, Iv u → shp u) (hc : ∀ u, Iv u →  agree Iv (m_X9_alone 1) (m_X10_alone 220) u) {L : Nat} {xs : Nat → Int32} {k18 : Nat → Nat → Int → hM} {l3 : Int} {u : hS} (hL : L ≤ 3072) (h0 : 0 ≤ l3) (h6 : l3 + 6 ≤ (L : Int)) (hu : Iv u) : ∃ u2, Iv u2 ∧ m_L_c20 L xs k18 1 220 l3 u = k18 1 220 (l3 + 6) u2 := by
  have w6 : w32 (l3 + 6) = l3 + 6 := w32_id ⟨by omega, by omega⟩
  obtain ⟨r, u1, u2, e1, e2, e3, e4⟩ := hc u hu  
  refine ⟨u2, e4, ?_⟩
  unfold m_L_c20
  simp only [w6]
  rw [hcallV_ok (ok_1 (hI u hu)) e1, hcallV_ok (ok_220 e3) e2, hif_t rfl]
theorem g_L_c21 {Iv : hS → Prop} (hI : ∀ u, Iv u → shp u) (hc : ∀ u, Iv u → ∀ (a b c : Int), inI a → inI b → inI c → agree Iv (m_X9_letter 1 a b c) (m_X10_letter 220 a b c) u) {L : Nat} {xs : Nat → Int32} {k18 : Nat → Nat → Int → hM} {l3 : Int} {u : hS} (hL : L ≤ 3072) (h0 : 0 ≤ l3) (h6 : l3 + 6 ≤ (L : Int)) (hu : Iv u) : ∃ u2, Iv u2 ∧ m_L_c21 L xs k18 1 220 l3 u = k18 1 220 (l3 + 6) u2 := by
  have w1 : w32 (l3 + 1) = l3 + 1 := w32_id ⟨by omega, by omega⟩
  have w2 : w32 (l3 + 2) = l3 + 2 := w32_id ⟨by omega, by omega⟩
  have w3 : w32 (l3 + 3) = l3 + 3 := w32_id ⟨by omega, by omega⟩
  have w6 : w32 (l3 + 6) = l3 + 6 := w32_id ⟨by omega, by omega⟩
  obtain ⟨r, u1, u2, e1, e2, e3, e4⟩ := hc u hu (xs (l3 + 1).toNat).toInt (xs (l3 + 2).toNat).toInt (xs (l3 + 3).toNat).toInt (toI_in _) (toI_in _) (toI_in _)
  refine ⟨u2, e4, ?_⟩
  unfold m_L_c21
  simp only [w1, w2, w3, w6]
  rw [hscr_ok (by omega) (by omega), hscr_ok (by omega) (by omega), hscr_ok (by omega) (by omega), hcallV_ok (ok_1 (hI u hu)) e1, hscr_ok (by omega) (by omega), hscr_ok (by omega) (by omega), hscr_ok (by omega) (by omega), hcallV_ok (ok_220 e3) e2, hif_t rfl]
theorem g_L_c22 {Iv : hS → Prop} (hI : ∀ u, Iv u → shp u) (hc : ∀ u, Iv u → ∀ (a b : Int), inI a → inI b → agree Iv (m_X9_came 1 a b) (m_X10_came 220 a b) u) {L : Nat} {xs : Nat → Int32} {k18 : Nat → Nat → Int → hM} {l3 : Int} {u : hS} (hL : L ≤ 3072) (h0 : 0 ≤ l3) (h6 : l3 + 6 ≤ (L : Int)) (hu : Iv u) : ∃ u2, Iv u2 ∧ m_L_c22 L xs k18 1 220 l3 u = k18 1 220 (l3 + 6) u2 := by
  have w1 : w32 (l3 + 1) = l3 + 1 := w32_id ⟨by omega, by omega⟩
  have w2 : w32 (l3 + 2) = l3 + 2 := w32_id ⟨by omega, by omega⟩
  have w6 : w32 (l3 + 6) = l3 + 6 := w32_id ⟨by omega, by omega⟩
  obtain ⟨r, u1, u2, e1, e2, e3, e4⟩ := hc u hu (xs (l3 + 1).toNat).toInt (xs (l3 + 2).toNat).toInt (toI_in _) (toI_in _)
  refine ⟨u2, e4, ?_⟩
  unfold m_L_c22
  simp only [w1, w2, w6]
  rw [hscr_ok (by omega) (by omega), hscr_ok (by omega) (by omega), hcallV_ok (ok_1 (hI u hu)) e1, hscr_ok (by omega) (by omega), hscr_ok (by omega) (by omega), hcallV_ok (ok_220 e3) e2, hif_t rfl]
theorem g_L_c23 {Iv : hS → Prop} (hI : ∀ u, Iv u → shp u) (hc : ∀ u, Iv u → ∀ (a b : Int), inI a → inI b → agree Iv (m_X9_trail 1 a b) (m_X10_trail 220 a b) u) {L : Nat} {xs : Nat → Int32} {k18 : Nat → Nat → Int → hM} {l3 : Int} {u : hS} (hL : L ≤ 3072) (h0 : 0 ≤ l3) (h6 : l3 + 6 ≤ (L : Int)) (hu : Iv u) : ∃ u2, Iv u2 ∧ m_L_c23 L xs k18 1 220 l3 u = k18 1 220 (l3 + 6) u2 := by
  have w1 : w32 (l3 + 1) = l3 + 1 := w32_id ⟨by omega, by omega⟩
  have w2 : w32 (l3 + 2) = l3 + 2 := w32_id ⟨by omega, by omega⟩
  have w6 : w32 (l3 + 6) = l3 + 6 := w32_id ⟨by omega, by omega⟩
  obtain ⟨r, u1, u2, e1, e2, e3, e4⟩ := hc u hu (xs (l3 + 1).toNat).toInt (xs (l3 + 2).toNat).toInt (toI_in _) (toI_in _)
  refine ⟨u2, e4, ?_⟩
  unfold m_L_c23
  simp only [w1, w2, w6]
  rw [hscr_ok (by omega) (by omega), hscr_ok (by omega) (by omega), hcallV_ok (ok_1 (hI u hu)) e1, hscr_ok (by omega) (by omega), hscr_ok (by omega) (by omega), hcallV_ok (ok_220 e3) e2, hif_t rfl]
theorem g_L_c24 {Iv : hS → Prop} (hI : ∀ u, Iv u → shp u) (hc : ∀ u, Iv u → ∀ (a : Int), inI a → agree Iv (m_X9_seed 1 a) (m_X10_seed 220 a) u) {L : Nat} {xs : Nat → Int32} {k18 : Nat → Nat → Int → hM} {l3 : Int} {u : hS} (hL : L ≤ 3072) (h0 : 0 ≤ l3) (h6 : l3 + 6 ≤ (L : Int)) (hu : Iv u) : ∃ u2, Iv u2 ∧ m_L_c24 L xs k18 1 220 l3 u = k18 1 220 (l3 + 6) u2 := by
  have w1 : w32 (l3 + 1) = l3 + 1 := w32_id ⟨by omega, by omega⟩
  have w6 : w32 (l3 + 6) = l3 + 6 := w32_id ⟨by omega, by omega⟩
  obtain ⟨r, u1, u2, e1, e2, e3, e4⟩ := hc u hu (xs (l3 + 1).toNat).toInt (toI_in _)
  refine ⟨u2, e4, ?_⟩
  unfold m_L_c24
  simp only [w1, w6]
  rw [hscr_ok (by omega) (by omega), hcallV_ok (ok_1 (hI u hu)) e1, hscr_ok (by omega) (by omega), hcallV_ok (ok_220 e3) e2, hif_t rfl]
theorem g_L_c25 {Iv : hS → Prop} (hI : ∀ u, Iv u → shp u) (hc : ∀ u, Iv u → ∀ (a b c : Int), inI a → inI b → inI c → agree Iv (m_X9_lives 1 a b c) (m_X10_lives 220 a b c) u) {L : Nat} {xs : Nat → Int32} {k18 : Nat → Nat → Int → hM} {l3 : Int} {u : hS} (hL : L ≤ 3072) (h0 : 0 ≤ l3) (h6 : l3 + 6 ≤ (L : Int)) (hu : Iv u) : ∃ u2, Iv u2 ∧ m_L_c25 L xs k18 1 220 l3 u = k18 1 220 (l3 + 6) u2 := by
  have w1 : w32 (l3 + 1) = l3 + 1 := w32_id ⟨by omega, by omega⟩
  have w2 : w32 (l3 + 2) = l3 + 2 := w32_id ⟨by omega, by omega⟩
  have w3 : w32 (l3 + 3) = l3 + 3 := w32_id ⟨by omega, by omega⟩
  have w6 : w32 (l3 + 6) = l3 + 6 := w32_id ⟨by omega, by omega⟩
  obtain ⟨r, u1, u2, e1, e2, e3, e4⟩ := hc u hu (xs (l3 + 1).toNat).toInt (xs (l3 + 2).toNat).toInt (xs (l3 + 3).toNat).toInt (toI_in _) (toI_in _) (toI_in _)
  refine ⟨u2, e4, ?_⟩
  unfold m_L_c25
  simp only [w1, w2, w3, w6]
  rw [hscr_ok (by omega) (by omega), hscr_ok (by omega) (by omega), hscr_ok (by omega) (by omega), hcallV_ok (ok_1 (hI u hu)) e1, hscr_ok (by omega) (by omega), hscr_ok (by omega) (by omega), hscr_ok (by omega) (by omega), hcallV_ok (ok_220 e3) e2, hif_t rfl]
theorem g_L_c26 {Iv : hS → Prop} (hI : ∀ u, Iv u → shp u) (hc : ∀ u, Iv u → ∀ (a : Int), inI a → agree Iv (m_X9_count 1 a) (m_X10_count 220 a) u) {L : Nat} {xs : Nat → Int32} {k18 : Nat → Nat → Int → hM} {l3 : Int} {u : hS} (hL : L ≤ 3072) (h0 : 0 ≤ l3) (h6 : l3 + 6 ≤ (L : Int)) (hu : Iv u) : ∃ u2, Iv u2 ∧ m_L_c26 L xs k18 1 220 l3 u = k18 1 220 (l3 + 6) u2 := by
  have w1 : w32 (l3 + 1) = l3 + 1 := w32_id ⟨by omega, by omega⟩
  have w6 : w32 (l3 + 6) = l3 + 6 := w32_id ⟨by omega, by omega⟩
  obtain ⟨r, u1, u2, e1, e2, e3, e4⟩ := hc u hu (xs (l3 + 1).toNat).toInt (toI_in _)
  refine ⟨u2, e4, ?_⟩
  unfold m_L_c26
  simp only [w1, w6]
  rw [hscr_ok (by omega) (by omega), hcallV_ok (ok_1 (hI u hu)) e1, hscr_ok (by omega) (by omega), hcallV_ok (ok_220 e3) e2, hif_t rfl]
theorem g_L_c27 {Iv : hS → Prop} (hI : ∀ u, Iv u → shp u) (hc : ∀ u, Iv u → ∀ (a : Int), inI a → agree Iv (m_X9_image 1 a) (m_X10_image 220 a) u) {L : Nat} {xs : Nat → Int32} {k18 : Nat → Nat → Int → hM} {l3 : Int} {u : hS} (hL : L ≤ 3072) (h0 : 0 ≤ l3) (h6 : l3 + 6 ≤ (L : Int)) (hu : Iv u) : ∃ u2, Iv u2 ∧ m_L_c27 L xs k18 1 220 l3 u = k18 1 220 (l3 + 6) u2 := by
  have w1 : w32 (l3 + 1) = l3 + 1 := w32_id ⟨by omega, by omega⟩
  have w6 : w32 (l3 + 6) = l3 + 6 := w32_id ⟨by omega, by omega⟩
  obtain ⟨r, u1, u2, e1, e2, e3, e4⟩ := hc u hu (xs (l3 + 1).toNat).toInt (toI_in _)
  refine ⟨u2, e4, ?_⟩
  unfold m_L_c27
  simp only [w1, w6]
  rw [hscr_ok (by omega) (by omega), hcallV_ok (ok_1 (hI u hu)) e1, hscr_ok (by omega) (by omega), hcallV_ok (ok_220 e3) e2, hif_t rfl]
theorem g_L_c28 {Iv : hS → Prop} (hI : ∀ u, Iv u → shp u) (hc : ∀ u, Iv u → ∀ (a : Int), inI a → agree Iv (m_X9_back 1 a) (m_X10_back 220 a) u) {L : Nat} {xs : Nat → Int32} {k18 : Nat → Nat → Int → hM} {l3 : Int} {u : hS} (hL : L ≤ 3072) (h0 : 0 ≤ l3) (h6 : l3 + 6 ≤ (L : Int)) (hu : Iv u) : ∃ u2, Iv u2 ∧ m_L_c28 L xs k18 1 220 l3 u = k18 1 220 (l3 + 6) u2 := by
  have w1 : w32 (l3 + 1) = l3 + 1 := w32_id ⟨by omega, by omega⟩
  have w6 : w32 (l3 + 6) = l3 + 6 := w32_id ⟨by omega, by omega⟩
  obtain ⟨r, u1, u2, e1, e2, e3, e4⟩ := hc u hu (xs (l3 + 1).toNat).toInt (toI_in _)
  refine ⟨u2, e4, ?_⟩
  unfold m_L_c28
  simp only [w1, w6]
  rw [hscr_ok (by omega) (by omega), hcallV_ok (ok_1 (hI u hu)) e1, hscr_ok (by omega) (by omega), hcallV_ok (ok_220 e3) e2, hif_t rfl]
theorem g_L_sw {Iv : hS → Prop} (hI : ∀ u, Iv u → shp u) (hh0 : ∀ u, Iv u → ∀ (a b c d e : Int), inI a → inI b → inI c → inI d → inI e → agree Iv (m_X9_feed 1 a b c d e) (m_X10_feed 220 a b c d e) u) (hh1 : ∀ u, Iv u → ∀ (a : Int), inI a → agree Iv (m_X9_end 1 a) (m_X10_end 220 a) u) (hh2 : ∀ u, Iv u →  agree Iv (m_X9_town 1) (m_X10_town 220) u) (hh3 : ∀ u, Iv u →  agree Iv (m_X9_rule 1) (m_X10_rule 220) u) (hh4 : ∀ u, Iv u → ∀ (a b : Int), inI a → inI b → agree Iv (m_X9_person 1 a b) (m_X10_person 220 a b) u) (hh5 : ∀ u, Iv u → ∀ (a b : Int), inI a → inI b → agree Iv (m_X9_left 1 a b) (m_X10_left 220 a b) u) (hh6 : ∀ u, Iv u → ∀ (a b : Int), inI a → inI b → agree Iv (m_X9_bridge 1 a b) (m_X10_bridge 220 a b) u) (hh7 : ∀ u, Iv u → ∀ (a b : Int), inI a → inI b → agree Iv (m_X9_cross 1 a b) (m_X10_cross 220 a b) u) (hh8 : ∀ u, Iv u → ∀ (a b : Int), inI a → inI b → agree Iv (m_X9_sail 1 a b) (m_X10_sail 220 a b) u) (hh9 : ∀ u, Iv u → ∀ (a b c : Int), inI a → inI b → inI c → agree Iv (m_X9_carry 1 a b c) (m_X10_carry 220 a b c) u) (hh10 : ∀ u, Iv u → ∀ (a : Int), inI a → agree Iv (m_X9_rebuild 1 a) (m_X10_rebuild 220 a) u) (hh11 : ∀ u, Iv u →  agree Iv (m_X9_day 1) (m_X10_day 220) u) (hh12 : ∀ u, Iv u →  agree Iv (m_X9_undo 1) (m_X10_undo 220) u) (hh13 : ∀ u, Iv u → ∀ (a b : Int), inI a → inI b → agree Iv (m_X9_run 1 a b) (m_X10_run 220 a b) u) (hh14 : ∀ u, Iv u → ∀ (a b c : Int), inI a → inI b → inI c → agree Iv (m_X9_way 1 a b c) (m_X10_way 220 a b c) u) (hh15 : ∀ u, Iv u → ∀ (a b c : Int), inI a → inI b → inI c → agree Iv (m_X9_life 1 a b c) (m_X10_life 220 a b c) u) (hh16 : ∀ u, Iv u → ∀ (a b c : Int), inI a → inI b → inI c → agree Iv (m_X9_worth 1 a b c) (m_X10_worth 220 a b c) u) (hh17 : ∀ u, Iv u → ∀ (a b : Int), inI a → inI b → agree Iv (m_X9_more 1 a b) (m_X10_more 220 a b) u) (hh18 : ∀ u, Iv u → ∀ (a b c : Int), inI a → inI b → inI c → agree Iv (m_X9_meet 1 a b c) (m_X10_meet 220 a b c) u) (hh19 : ∀ u, Iv u → ∀ (a : Int), inI a → agree Iv (m_X9_best 1 a) (m_X10_best 220 a) u) (hh20 : ∀ u, Iv u →  agree Iv (m_X9_alone 1) (m_X10_alone 220) u) (hh21 : ∀ u, Iv u → ∀ (a b c : Int), inI a → inI b → inI c → agree Iv (m_X9_letter 1 a b c) (m_X10_letter 220 a b c) u) (hh22 : ∀ u, Iv u → ∀ (a b : Int), inI a → inI b → agree Iv (m_X9_came 1 a b) (m_X10_came 220 a b) u) (hh23 : ∀ u, Iv u → ∀ (a b : Int), inI a → inI b → agree Iv (m_X9_trail 1 a b) (m_X10_trail 220 a b) u) (hh24 : ∀ u, Iv u → ∀ (a : Int), inI a → agree Iv (m_X9_seed 1 a) (m_X10_seed 220 a) u) (hh25 : ∀ u, Iv u → ∀ (a b c : Int), inI a → inI b → inI c → agree Iv (m_X9_lives 1 a b c) (m_X10_lives 220 a b c) u) (hh26 : ∀ u, Iv u → ∀ (a : Int), inI a → agree Iv (m_X9_count 1 a) (m_X10_count 220 a) u) (hh27 : ∀ u, Iv u → ∀ (a : Int), inI a → agree Iv (m_X9_image 1 a) (m_X10_image 220 a) u) (hh28 : ∀ u, Iv u → ∀ (a : Int), inI a → agree Iv (m_X9_back 1 a) (m_X10_back 220 a) u) {L : Nat} {xs : Nat → Int32} {k18 : Nat → Nat → Int → hM} {l3 : Int} {u : hS} (hL : L ≤ 3072) (p0 : 0 ≤ l3) (h6 : l3 + 6 ≤ (L : Int)) (hu : Iv u) : ∃ u2, Iv u2 ∧ m_L_sw L xs k18 1 220 l3 u = k18 1 220 (l3 + 6) u2 := by
  have w6 : w32 (l3 + 6) = l3 + 6 := w32_id ⟨by omega, by omega⟩
  have wL : w32 ((L : Int) - 6) = (L : Int) - 6 := w32_id ⟨by omega, by omega⟩
  unfold m_L_sw
  rw [hassert_ok ⟨p0, by omega⟩, hif_f (by rw [wL]; omega), hscr_ok p0 (by omega)]
  by_cases e0 : iandZ (xs l3.toNat).toInt 31 = 0
  · rw [hif_t e0]
    exact g_L_c0 hI hh0 hL p0 h6 hu
  rw [hif_f e0]
  by_cases e1 : iandZ (xs l3.toNat).toInt 31 = 1
  · rw [hif_t e1]
    exact g_L_c1 hI hh1 hL p0 h6 hu
  rw [hif_f e1]
  by_cases e2 : iandZ (xs l3.toNat).toInt 31 = 2
  · rw [hif_t e2]
    exact g_L_c2 hI hh2 hL p0 h6 hu
  rw [hif_f e2]
  by_cases e3 : iandZ (xs l3.toNat).toInt 31 = 3
  · rw [hif_t e3]
    exact g_L_c3 hI hh3 hL p0 h6 hu
  rw [hif_f e3]
  by_cases e4 : iandZ (xs l3.toNat).toInt 31 = 4
  · rw [hif_t e4]
    exact g_L_c4 hI hh4 hL p0 h6 hu
  rw [hif_f e4]
  by_cases e5 : iandZ (xs l3.toNat).toInt 31 = 5
  · rw [hif_t e5]
    exact g_L_c5 hI hh5 hL p0 h6 hu
  rw [hif_f e5]
  by_cases e6 : iandZ (xs l3.toNat).toInt 31 = 6
  · rw [hif_t e6]
    exact g_L_c6 hI hh6 hL p0 h6 hu
  rw [hif_f e6]
  by_cases e7 : iandZ (xs l3.toNat).toInt 31 = 7
  · rw [hif_t e7]
    exact g_L_c7 hI hh7 hL p0 h6 hu
  rw [hif_f e7]
  by_cases e8 : iandZ (xs l3.toNat).toInt 31 = 8
  · rw [hif_t e8]
    exact g_L_c8 hI hh8 hL p0 h6 hu
  rw [hif_f e8]
  by_cases e9 : iandZ (xs l3.toNat).toInt 31 = 9
  · rw [hif_t e9]
    exact g_L_c9 hI hh9 hL p0 h6 hu
  rw [hif_f e9]
  by_cases e10 : iandZ (xs l3.toNat).toInt 31 = 10
  · rw [hif_t e10]
    exact g_L_c10 hI hh10 hL p0 h6 hu
  rw [hif_f e10]
  by_cases e11 : iandZ (xs l3.toNat).toInt 31 = 11
  · rw [hif_t e11]
    exact g_L_c11 hI hh11 hL p0 h6 hu
  rw [hif_f e11]
  by_cases e12 : iandZ (xs l3.toNat).toInt 31 = 12
  · rw [hif_t e12]
    exact g_L_c12 hI hh12 hL p0 h6 hu
  rw [hif_f e12]
  by_cases e13 : iandZ (xs l3.toNat).toInt 31 = 13
  · rw [hif_t e13]
    exact g_L_c13 hI hh13 hL p0 h6 hu
  rw [hif_f e13]
  by_cases e14 : iandZ (xs l3.toNat).toInt 31 = 14
  · rw [hif_t e14]
    exact g_L_c14 hI hh14 hL p0 h6 hu
  rw [hif_f e14]
  by_cases e15 : iandZ (xs l3.toNat).toInt 31 = 15
  · rw [hif_t e15]
    exact g_L_c15 hI hh15 hL p0 h6 hu
  rw [hif_f e15]
  by_cases e16 : iandZ (xs l3.toNat).toInt 31 = 16
  · rw [hif_t e16]
    exact g_L_c16 hI hh16 hL p0 h6 hu
  rw [hif_f e16]
  by_cases e17 : iandZ (xs l3.toNat).toInt 31 = 17
  · rw [hif_t e17]
    exact g_L_c17 hI hh17 hL p0 h6 hu
  rw [hif_f e17]
  by_cases e18 : iandZ (xs l3.toNat).toInt 31 = 18
  · rw [hif_t e18]
    exact g_L_c18 hI hh18 hL p0 h6 hu
  rw [hif_f e18]
  by_cases e19 : iandZ (xs l3.toNat).toInt 31 = 19
  · rw [hif_t e19]
    exact g_L_c19 hI hh19 hL p0 h6 hu
  rw [hif_f e19]
  by_cases e20 : iandZ (xs l3.toNat).toInt 31 = 20
  · rw [hif_t e20]
    exact g_L_c20 hI hh20 hL p0 h6 hu
  rw [hif_f e20]
  by_cases e21 : iandZ (xs l3.toNat).toInt 31 = 21
  · rw [hif_t e21]
    exact g_L_c21 hI hh21 hL p0 h6 hu
  rw [hif_f e21]
  by_cases e22 : iandZ (xs l3.toNat).toInt 31 = 22
  · rw [hif_t e22]
    exact g_L_c22 hI hh22 hL p0 h6 hu
  rw [hif_f e22]
  by_cases e23 : iandZ (xs l3.toNat).toInt 31 = 23
  · rw [hif_t e23]
    exact g_L_c23 hI hh23 hL p0 h6 hu
  rw [hif_f e23]
  by_cases e24 : iandZ (xs l3.toNat).toInt 31 = 24
  · rw [hif_t e24]
    exact g_L_c24 hI hh24 hL p0 h6 hu
  rw [hif_f e24]
  by_cases e25 : iandZ (xs l3.toNat).toInt 31 = 25
  · rw [hif_t e25]
    exact g_L_c25 hI hh25 hL p0 h6 hu
  rw [hif_f e25]
  by_cases e26 : iandZ (xs l3.toNat).toInt 31 = 26
  · rw [hif_t e26]
    exact g_L_c26 hI hh26 hL p0 h6 hu
  rw [hif_f e26]
  by_cases e27 : iandZ (xs l3.toNat).toInt 31 = 27
  · rw [hif_t e27]
    exact g_L_c27 hI hh27 hL p0 h6 hu
  rw [hif_f e27]
  by_cases e28 : iandZ (xs l3.toNat).toInt 31 = 28
  · rw [hif_t e28]
    exact g_L_c28 hI hh28 hL p0 h6 hu
  rw [hif_f e28]
  exact ⟨u, hu, by rw [w6]⟩
theorem law_open {Iv : hS → Prop} (hI : ∀ u, Iv u → shp u) (hh0 : ∀ u, Iv u → ∀ (a b c d e : Int), inI a → inI b → inI c → inI d → inI e → agree Iv (m_X9_feed 1 a b c d e) (m_X10_feed 220 a b c d e) u) (hh1 : ∀ u, Iv u → ∀ (a : Int), inI a → agree Iv (m_X9_end 1 a) (m_X10_end 220 a) u) (hh2 : ∀ u, Iv u →  agree Iv (m_X9_town 1) (m_X10_town 220) u) (hh3 : ∀ u, Iv u →  agree Iv (m_X9_rule 1) (m_X10_rule 220) u) (hh4 : ∀ u, Iv u → ∀ (a b : Int), inI a → inI b → agree Iv (m_X9_person 1 a b) (m_X10_person 220 a b) u) (hh5 : ∀ u, Iv u → ∀ (a b : Int), inI a → inI b → agree Iv (m_X9_left 1 a b) (m_X10_left 220 a b) u) (hh6 : ∀ u, Iv u → ∀ (a b : Int), inI a → inI b → agree Iv (m_X9_bridge 1 a b) (m_X10_bridge 220 a b) u) (hh7 : ∀ u, Iv u → ∀ (a b : Int), inI a → inI b → agree Iv (m_X9_cross 1 a b) (m_X10_cross 220 a b) u) (hh8 : ∀ u, Iv u → ∀ (a b : Int), inI a → inI b → agree Iv (m_X9_sail 1 a b) (m_X10_sail 220 a b) u) (hh9 : ∀ u, Iv u → ∀ (a b c : Int), inI a → inI b → inI c → agree Iv (m_X9_carry 1 a b c) (m_X10_carry 220 a b c) u) (hh10 : ∀ u, Iv u → ∀ (a : Int), inI a → agree Iv (m_X9_rebuild 1 a) (m_X10_rebuild 220 a) u) (hh11 : ∀ u, Iv u →  agree Iv (m_X9_day 1) (m_X10_day 220) u) (hh12 : ∀ u, Iv u →  agree Iv (m_X9_undo 1) (m_X10_undo 220) u) (hh13 : ∀ u, Iv u → ∀ (a b : Int), inI a → inI b → agree Iv (m_X9_run 1 a b) (m_X10_run 220 a b) u) (hh14 : ∀ u, Iv u → ∀ (a b c : Int), inI a → inI b → inI c → agree Iv (m_X9_way 1 a b c) (m_X10_way 220 a b c) u) (hh15 : ∀ u, Iv u → ∀ (a b c : Int), inI a → inI b → inI c → agree Iv (m_X9_life 1 a b c) (m_X10_life 220 a b c) u) (hh16 : ∀ u, Iv u → ∀ (a b c : Int), inI a → inI b → inI c → agree Iv (m_X9_worth 1 a b c) (m_X10_worth 220 a b c) u) (hh17 : ∀ u, Iv u → ∀ (a b : Int), inI a → inI b → agree Iv (m_X9_more 1 a b) (m_X10_more 220 a b) u) (hh18 : ∀ u, Iv u → ∀ (a b c : Int), inI a → inI b → inI c → agree Iv (m_X9_meet 1 a b c) (m_X10_meet 220 a b c) u) (hh19 : ∀ u, Iv u → ∀ (a : Int), inI a → agree Iv (m_X9_best 1 a) (m_X10_best 220 a) u) (hh20 : ∀ u, Iv u →  agree Iv (m_X9_alone 1) (m_X10_alone 220) u) (hh21 : ∀ u, Iv u → ∀ (a b c : Int), inI a → inI b → inI c → agree Iv (m_X9_letter 1 a b c) (m_X10_letter 220 a b c) u) (hh22 : ∀ u, Iv u → ∀ (a b : Int), inI a → inI b → agree Iv (m_X9_came 1 a b) (m_X10_came 220 a b) u) (hh23 : ∀ u, Iv u → ∀ (a b : Int), inI a → inI b → agree Iv (m_X9_trail 1 a b) (m_X10_trail 220 a b) u) (hh24 : ∀ u, Iv u → ∀ (a : Int), inI a → agree Iv (m_X9_seed 1 a) (m_X10_seed 220 a) u) (hh25 : ∀ u, Iv u → ∀ (a b c : Int), inI a → inI b → inI c → agree Iv (m_X9_lives 1 a b c) (m_X10_lives 220 a b c) u) (hh26 : ∀ u, Iv u → ∀ (a : Int), inI a → agree Iv (m_X9_count 1 a) (m_X10_count 220 a) u) (hh27 : ∀ u, Iv u → ∀ (a : Int), inI a → agree Iv (m_X9_image 1 a) (m_X10_image 220 a) u) (hh28 : ∀ u, Iv u → ∀ (a : Int), inI a → agree Iv (m_X9_back 1 a) (m_X10_back 220 a) u) (hst : ∃ v1 v2 u, m_X9_init 1 (hmake hS0 9 0) = some (v1, u) ∧ hB u = 220 ∧ ∃ u2, m_X10_init 220 (hmake u 10 0) = some (v2, u2) ∧ Iv u2) : lawPure := by
  intro L xs hL
  have loop : ∀ (n : Nat) (l3 : Int) (u : hS), (L : Int) - l3 < (n : Int) → 0 ≤ l3 → l3 ≤ (L : Int) → Iv u → ∃ u2, m_L_18 L xs n 1 220 l3 u = some (1, u2) := by
    intro n
    induction n with
    | zero => intro l3 u h1 h2 h3; exact absurd h1 (by omega)
    | succ n ih =>
      intro l3 u h1 h2 h3 hu
      have wL : w32 ((L : Int) - 6) = (L : Int) - 6 := w32_id ⟨by omega, by omega⟩
      by_cases hx : l3 + 6 ≤ (L : Int)
      · obtain ⟨u2, hu2, e⟩ := g_L_sw hI hh0 hh1 hh2 hh3 hh4 hh5 hh6 hh7 hh8 hh9 hh10 hh11 hh12 hh13 hh14 hh15 hh16 hh17 hh18 hh19 hh20 hh21 hh22 hh23 hh24 hh25 hh26 hh27 hh28 (k18 := m_L_18 L xs n) (xs := xs) hL h2 hx hu
        obtain ⟨u3, e3⟩ := ih (l3 + 6) u2 (by omega) (by omega) hx hu2
        exact ⟨u3, by show m_L_sw L xs (m_L_18 L xs n) 1 220 l3 u = _; rw [e]; exact e3⟩
      · refine ⟨u, ?_⟩
        show m_L_sw L xs (m_L_18 L xs n) 1 220 l3 u = _
        unfold m_L_sw
        rw [hassert_ok ⟨h2, by omega⟩, hif_t (by rw [wL]; omega)]
        rfl
  obtain ⟨v1, v2, u, e1, e2, u2, e3, e4⟩ := hst
  obtain ⟨u3, e5⟩ := loop 1000000000 0 u2 (by omega) (by omega) (by omega) e4
  refine ⟨u3, ?_⟩
  have hb0 : hB hS0 = 1 := rfl
  unfold m_L
  rw [hnew_e, hb0, hassert_ok (by decide), hcall_ok e1, hnew_e, e2, hassert_ok (by decide), hcall_ok e3]
  exact e5
