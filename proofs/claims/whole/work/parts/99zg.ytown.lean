/-! the call town, in the reference -/
theorem set_comm (u : hS) (a i j : Nat) (x y : Int) (h : i ≠ j) : hsetV (hsetV u a i x) a j y = hsetV (hsetV u a j y) a i x := by
  obtain ⟨K, N, V, F, B⟩ := u
  unfold hsetV
  simp only [Prod.mk.injEq, and_true, true_and]
  funext b k
  by_cases h1 : b = a ∧ k = j
  · rw [if_pos h1, if_neg (by omega), if_pos h1]
  · rw [if_neg h1]
    by_cases h2 : b = a ∧ k = i
    · rw [if_pos h2, if_pos h2]
    · rw [if_neg h2, if_neg h2, if_neg h1]
theorem zA_s (g : Nat → Int) (j : Nat) : sup (zA g j) j 0 = zA g (j + 1) := by
  funext i
  unfold sup zA
  by_cases h : i = j
  · rw [if_pos h, if_pos (by omega)]
  · rw [if_neg h]
    by_cases h2 : i < j
    · rw [if_pos h2, if_pos (by omega)]
    · rw [if_neg h2, if_neg (by omega)]
theorem y_t8 {v : hS} (hs : shp v) (g : Nat → Int) : ∀ d F j : Nat, d < F → j + d = 10 → m_X10_town_L8 F 220 (j : Int) (hput v 226 (zA g j)) = hbind (m_X10_readsAll 220 (hput v 226 (zA g 10))) (fun v1 => hif (v1 ≠ 0) (hlet (0 : Int) fun (w2 : Int) => m_X10_town_L44 1000000000 220 w2) (hgI 10 220 9 fun v3 => hret (w32 (-2 - v3)))) := by
  have hp : ∀ g, shp (hput v 226 g) := fun g => by rw [shp_put]; exact hs
  intro d
  induction d with
  | zero =>
    intro F j hF hj
    obtain ⟨F, rfl⟩ : ∃ i, F = i + 1 := ⟨F - 1, by omega⟩
    obtain rfl : j = 10 := by omega
    rw [m_X10_town_L8, hif_p, if_pos (by decide), hcallV_b (kk_220 (hp _))]
  | succ d ih =>
    intro F j hF hj
    obtain ⟨F, rfl⟩ : ∃ i, F = i + 1 := ⟨F - 1, by omega⟩
    rw [m_X10_town_L8, hif_p, if_neg (by omega), hgR_k (kk_220 (hp _)), rf_220_7 (hp _), hsI_n (kk_226 (hp _)) (by rw [ln_226 (hp _)]; omega), hlet_p, ix_s (by omega), setV_put, zA_s]
    exact ih F (j + 1) (by omega) (by omega)
def cpA (g S : Nat → Int) (j : Nat) : Nat → Int := fun i => if i < j then S i else g i
theorem cpA_s (g S : Nat → Int) (j : Nat) : sup (cpA g S j) j (S j) = cpA g S (j + 1) := by
  funext i
  unfold sup cpA
  by_cases h : i = j
  · rw [if_pos h, if_pos (by omega), h]
  · rw [if_neg h]
    by_cases h2 : i < j
    · rw [if_pos h2, if_pos (by omega)]
    · rw [if_neg h2, if_neg (by omega)]
theorem y_t44 {v : hS} (hs : shp v) (g : Nat → Int) : ∀ d F j : Nat, d < F → j + d = 160 → m_X10_town_L44 F 220 (j : Int) (hput v 230 (cpA g (hV v 226) j)) = some (hV v 226 2, hsetV (hput v 230 (cpA g (hV v 226) 160)) 220 25 0) := by
  have hp : ∀ g, shp (hput v 230 g) := fun g => by rw [shp_put]; exact hs
  intro d
  induction d with
  | zero =>
    intro F j hF hj
    obtain ⟨F, rfl⟩ : ∃ i, F = i + 1 := ⟨F - 1, by omega⟩
    obtain rfl : j = 160 := by omega
    have h2 : shp (hsetV (hput v 230 (cpA g (hV v 226) 160)) 220 25 0) := hp (cpA g (hV v 226) 160)
    rw [m_X10_town_L44, hif_p, if_pos (by decide), hpI_k (kk_220 (hp _)), hgR_k (kk_220 h2), rf_220_20 h2, haI_2 (kk_230 h2) (by rw [ln_230 h2]; decide), hV_setV_a (by decide), hV_put_s, hret_p]
    rfl
  | succ d ih =>
    intro F j hF hj
    obtain ⟨F, rfl⟩ : ∃ i, F = i + 1 := ⟨F - 1, by omega⟩
    rw [m_X10_town_L44, hif_p, if_neg (by omega), hgR_k (kk_220 (hp _)), rf_220_20 (hp _), hgR_k (kk_220 (hp _)), rf_220_7 (hp _), haI_n (kk_226 (hp _)) (by rw [ln_226 (hp _)]; omega), hV_put_n (by decide), hsI_n (kk_230 (hp _)) (by rw [ln_230 (hp _)]; omega), hlet_p, ix_s (by omega), setV_put, cpA_s]
    exact ih F (j + 1) (by omega) (by omega)
/-- what the reference's town may change -/
def okTr (u v : hS) : Prop := ext u v ∧ shp v ∧ (∀ a i, hF v a i = hF u a i) ∧ (∀ a, a ≠ 220 → a ≠ 223 → a ≠ 226 → a ≠ 230 → hV v a = hV u a) ∧ (∀ i, i ≠ 1 → ¬ (8 ≤ i ∧ i ≤ 14) → i ≠ 25 → hV v 220 i = hV u 220 i) ∧ hV v 220 1 = 0
theorem y_town {u : hS} (hs : shp u) (f : Nat) (S' : Nat → Int) (hr : ∀ (v : hS) (m : Int) (G : Nat), shp v → hV v 220 1 = hV u 220 1 → hV v 221 = hV u 221 → hV v 220 11 = 6 → 42 ≤ G → ∃ (y : Nat) (S'' : Nat → Int) (p'' m' : Int), hbind (m_X10_clauseHere 220 (rS (hput (hsetV v 220 14 0) 226 (zA (hV u 226) 10)) 0 0 m)) (fun w => m_X10_readsAll_L35 G 220 w) = m_X10_readsAll_L88 220 (rS (hput (hsetV v 220 14 (y : Int)) 226 S'') p'' (f : Int) m') ∧ (f = 0 → S'' = S')) : ∃ u2, m_X10_town 220 u = some (if f = 0 then S' 2 else w32 (-2 - (f : Int)), u2) ∧ okTr u u2 ∧ (f = 0 → (∀ i, i < 160 → hV u2 230 i = S' i) ∧ hV u2 220 25 = 0) ∧ (f ≠ 0 → hV u2 230 = hV u 230 ∧ hV u2 220 25 = hV u 220 25) := by
  have hs1 : shp (hsetV u 220 11 6) := hs
  obtain ⟨y, S'', p'', m', e, q⟩ := hr (hsetV (hsetV (hsetV u 220 11 6) 223 6 0) 220 12 0) (hV u 220 10) 1000000000 hs (by rw [hV_setV_i (by decide), hV_setV_a (by decide), hV_setV_i (by decide)]) (by rw [hV_ne (by decide), hV_ne (by decide), hV_ne (by decide)]) (by rw [hV_setV_i (by decide), hV_setV_a (by decide), hV_setV_s]) (by decide)
  generalize hv' : hsetV (hsetV (hsetV u 220 11 6) 223 6 0) 220 12 0 = v' at *
  have hsv : shp v' := by rw [← hv']; exact hs
  have E0 : hput (hsetV u 220 11 6) 226 (zA (hV u 226) 0) = hsetV u 220 11 6 := by
    have : zA (hV u 226) 0 = hV (hsetV u 220 11 6) 226 := by
      rw [hV_ne (by decide)]
      funext i
      unfold zA
      rw [if_neg (by omega)]
    rw [this, hput_self]
  have T0 := y_t8 hs1 (hV u 226) 10 1000000000 0 (by decide) (by decide)
  rw [E0] at T0
  have T0 : m_X10_town_L8 1000000000 220 0 (hsetV u 220 11 6) = _ := T0
  have hsX : ∀ {w : hS} {g : Nat → Int}, shp w → shp (hput w 226 g) := fun h => by rw [shp_put]; exact h
  -- the reading
  have Rd : m_X10_readsAll 220 (hput (hsetV u 220 11 6) 226 (zA (hV u 226) 10)) = m_X10_readsAll_L88 220 (rS (hput (hsetV v' 220 14 (y : Int)) 226 S'') p'' (f : Int) m') := by
    have h0 := hsX (g := zA (hV u 226) 10) hs1
    unfold m_X10_readsAll
    rw [hgR_k (kk_220 h0), rf_220_4 h0, hgI_k (kk_220 h0), hV_put_n (show 220 ≠ 226 by decide), hV_setV_s, hsI_k (i := 6) (kk_223 h0) (by decide) (by rw [ln_223 h0]; decide)]
    have h1 : shp (hsetV (hput (hsetV u 220 11 6) 226 (zA (hV u 226) 10)) 223 6 0) := h0
    have st : hsetV (hsetV (hsetV (hsetV (hsetV (hput (hsetV u 220 11 6) 226 (zA (hV u 226) 10)) 223 6 0) 220 14 0) 220 8 0) 220 9 0) 220 12 0 = rS (hput (hsetV v' 220 14 0) 226 (zA (hV u 226) 10)) 0 0 (hV u 220 10) := by
      rw [← rS_self (hput (hsetV u 220 11 6) 226 (zA (hV u 226) 10)), rS_set (show 223 ≠ 220 by decide), put_set_c _ _ _ _ (show 223 ≠ 226 by decide), rS_seti (by decide), put_set_c _ _ _ _ (show 220 ≠ 226 by decide), rS_w8, rS_w9, rS_seti (by decide), put_set_c _ _ _ _ (show 220 ≠ 226 by decide), set_comm _ _ _ _ _ _ (show 14 ≠ 12 by decide), hv', hV_put_n (show 220 ≠ 226 by decide), hV_setV_i (show 10 ≠ 11 by decide)]
    have k : ∀ {w : hS} {i : Nat} {x : Int} {f : hM}, shp w → hpI 10 220 i x f w = f (hsetV w 220 i x) := fun h => hpI_k (kk_220 h)
    have s14 : shp (hsetV (hsetV (hput (hsetV u 220 11 6) 226 (zA (hV u 226) 10)) 223 6 0) 220 14 0) := h0
    have s8 : shp (hsetV (hsetV (hsetV (hput (hsetV u 220 11 6) 226 (zA (hV u 226) 10)) 223 6 0) 220 14 0) 220 8 0) := h0
    have s9 : shp (hsetV (hsetV (hsetV (hsetV (hput (hsetV u 220 11 6) 226 (zA (hV u 226) 10)) 223 6 0) 220 14 0) 220 8 0) 220 9 0) := h0
    have s12 : shp (hsetV (hsetV (hsetV (hsetV (hsetV (hput (hsetV u 220 11 6) 226 (zA (hV u 226) 10)) 223 6 0) 220 14 0) 220 8 0) 220 9 0) 220 12 0) := h0
    rw [show ((6 : Int).toNat) = 6 from rfl, k h1, k s14, k s8, k s9, hcallV_b (kk_220 s12), st]
    exact e
  have hsY : shp (rS (hput (hsetV v' 220 14 (y : Int)) 226 S'') p'' (f : Int) m') := by
    rw [rS_shp, shp_put]
    exact hsv
  have hsZ : shp (hsetV (rS (hput (hsetV v' 220 14 (y : Int)) 226 S'') p'' (f : Int) m') 220 1 0) := hsY
  have f9 : hV (hsetV (rS (hput (hsetV v' 220 14 (y : Int)) 226 S'') p'' (f : Int) m') 220 1 0) 220 9 = (f : Int) := by rw [hV_setV_i (by decide), rS_9]
  have L88 : m_X10_readsAll_L88 220 (rS (hput (hsetV v' 220 14 (y : Int)) 226 S'') p'' (f : Int) m') = some (if f = 0 then 1 else 0, hsetV (rS (hput (hsetV v' 220 14 (y : Int)) 226 S'') p'' (f : Int) m') 220 1 0) := by
    unfold m_X10_readsAll_L88 m_X10_readsAll_L105
    rw [hpI_k (kk_220 hsY), hgI_k (kk_220 hsZ), f9, hif_p]
    by_cases z : f = 0
    · rw [if_neg (by omega), if_pos z, hretZ_1]
    · rw [if_pos (by omega), if_neg z, hretZ_0]
  have vO : ∀ a, a ≠ 220 → a ≠ 223 → a ≠ 226 → hV (hsetV (rS (hput (hsetV v' 220 14 (y : Int)) 226 S'') p'' (f : Int) m') 220 1 0) a = hV u a := fun a h1 h2 h3 => by rw [hV_ne h1, rS_o h1, hV_put_n h3, hV_ne h1, ← hv', hV_ne h1, hV_ne h2, hV_ne h1]
  have v2 : ∀ i, i ≠ 1 → ¬ (8 ≤ i ∧ i ≤ 14) → hV (hsetV (rS (hput (hsetV v' 220 14 (y : Int)) 226 S'') p'' (f : Int) m') 220 1 0) 220 i = hV u 220 i := fun i h1 h2 => by rw [hV_setV_i h1, rS_i (by omega), hV_put_n (by decide), hV_setV_i (by omega), ← hv', hV_setV_i (by omega), hV_setV_a (by decide), hV_setV_i (by omega)]
  have vF : ∀ a i, hF (hsetV (rS (hput (hsetV v' 220 14 (y : Int)) 226 S'') p'' (f : Int) m') 220 1 0) a i = hF u a i := fun a i => by
    rw [← hv']
    rfl
  have vE : ext u (hsetV (rS (hput (hsetV v' 220 14 (y : Int)) 226 S'') p'' (f : Int) m') 220 1 0) := by
    rw [← hv']
    exact ⟨Nat.le_refl _, fun _ _ => ⟨rfl, rfl⟩⟩
  have v26 : hV (hsetV (rS (hput (hsetV v' 220 14 (y : Int)) 226 S'') p'' (f : Int) m') 220 1 0) 226 = S'' := by rw [hV_ne (by decide), rS_o (by decide), hV_put_s]
  have v1 : hV (hsetV (rS (hput (hsetV v' 220 14 (y : Int)) 226 S'') p'' (f : Int) m') 220 1 0) 220 1 = 0 := hV_setV_s _ _ _ _
  generalize hsetV (rS (hput (hsetV v' 220 14 (y : Int)) 226 S'') p'' (f : Int) m') 220 1 0 = w at *
  by_cases z : f = 0
  · have C := y_t44 hsZ (hV w 230) 160 1000000000 0 (by decide) (by decide)
    have c0 : hput w 230 (cpA (hV w 230) (hV w 226) 0) = w := by
      have : cpA (hV w 230) (hV w 226) 0 = hV w 230 := by
        funext i
        unfold cpA
        rw [if_neg (by omega)]
      rw [this, hput_self]
    rw [c0] at C
    have C : m_X10_town_L44 1000000000 220 0 w = _ := C
    rw [v26, q z] at C
    refine ⟨hsetV (hput w 230 (cpA (hV w 230) S' 160)) 220 25 0, ?_, ⟨vE, by show shp (hput w 230 (cpA (hV w 230) S' 160)); rw [shp_put]; exact hsZ, vF, fun a h1 h2 h3 h4 => ?_, fun i h1 h2 h3 => ?_, ?_⟩, fun _ => ⟨fun i hi => ?_, hV_setV_s _ _ _ _⟩, fun y => absurd z y⟩
    · unfold m_X10_town
      rw [hpI_k (kk_220 hs), hlet_p, T0, Rd, L88, hbind_p, if_pos z, hif_p, if_pos (by decide), hlet_p, C, if_pos z]
    · rw [hV_ne h1, hV_put_n h4, vO a h1 h2 h3]
    · rw [hV_setV_i h3, hV_put_n (by decide), v2 i h1 h2]
    · rw [hV_setV_i (by decide), hV_put_n (by decide), v1]
    · rw [hV_setV_a (by decide), hV_put_s]
      exact if_pos hi
  · refine ⟨w, ?_, ⟨vE, hsZ, vF, fun a h1 h2 h3 _ => vO a h1 h2 h3, fun i h1 h2 _ => v2 i h1 h2, v1⟩, fun y => absurd y z, fun _ => ⟨vO 230 (by decide) (by decide) (by decide), v2 25 (by decide) (by decide)⟩⟩
    unfold m_X10_town
    rw [hpI_k (kk_220 hs), hlet_p, T0, Rd, L88, hbind_p, if_neg z, hif_p, if_neg (by decide), hgI_k (kk_220 hsZ), f9, hret_p, if_neg z]
