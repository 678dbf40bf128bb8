/-! all lines of a town, both readers -/
theorem frT.shp {t : Nat} {u v : hS} (h : frT t u v) (hs : shp u) : shp v := by
  obtain ⟨K, N, V, F, B⟩ := u
  obtain ⟨K', N', V', F', B'⟩ := v
  obtain ⟨⟨h1, h2, h3, h4⟩, _⟩ := h
  have g1 : B' = B := h1
  have g2 : K' = K := h2
  have g3 : N' = N := h3
  have g4 : F' = F := h4
  clear h1 h2 h3 h4
  subst g1 g2 g3 g4
  exact hs
theorem frT.tw {t : Nat} {u v : hS} (h : frT t u v) {t' : Nat} (ht : TwA u t') : TwA v t' := by
  obtain ⟨K, N, V, F, B⟩ := u
  obtain ⟨K', N', V', F', B'⟩ := v
  obtain ⟨⟨h1, h2, h3, h4⟩, _⟩ := h
  have g1 : B' = B := h1
  have g2 : K' = K := h2
  have g3 : N' = N := h3
  have g4 : F' = F := h4
  clear h1 h2 h3 h4
  subst g1 g2 g3 g4
  exact ht
theorem frT.tp {t : Nat} {u v : hS} (h : frT t u v) (t3 : 243 ≤ t) {n : Nat} {B : Nat → Int} (c : cTp n B u) : cTp n B v := c.agr (h.shp c.1) (by rw [h.2 2 (by omega)]) (h.2 3 (by omega))
theorem chr_lt {B : Nat → Int} {n p : Nat} (h : chr B n p ≠ -1) : p < n := by
  apply Classical.byContradiction
  intro k
  unfold chr at h
  rw [if_neg k] at h
  exact h rfl
theorem r_66 {n : Nat} {B : Nat → Int} {v : hS} (h : rTp n B v) {p : Nat} (hp : p ≤ n) (m : Int) : m_X10_readsAll_L66 220 1 (rS v (p : Int) 0 m) = m_X10_readsAll_L88 220 (rS v ((sk B n p : Nat) : Int) ((if chr B n (sk B n p) = -1 then 0 else 1 + 8 * sk B n p : Nat) : Int) m) := by
  have hs := h.1
  have b := (sk_le B hp).2
  have kk : ∀ p w k, okk (rS v p w k) 220 10 := fun p w k => by rw [rS_k]; exact kk_220 hs
  unfold m_X10_readsAll_L66
  rw [hif_p, if_neg (by decide), hcallV_b (kk _ _ _), r_see h 0 m hp, hbind_p, hif_p]
  by_cases z : chr B n (sk B n p) = -1
  · rw [if_pos z, if_pos z]
    rfl
  · rw [if_neg z, if_neg z, hgI_k (kk _ _ _), rS_8, hcallV_b (kk _ _ _)]
    have F := y_fails hs ((sk B n p : Nat) : Int) m (at' := sk B n p) (by have := h.2.2.2; omega) (j := 0) (by decide)
    have F : m_X10_fails 220 0 _ _ = _ := F
    rw [F, hbind_p]
    rfl
def LnP (n : Nat) (B : Nat → Int) (t c : Nat) : Prop := ∀ (u : hS) (S : Nat → Int) (p : Nat) (s : Int), cTp n B u → TwA u t → RT u t S → (c = 0 ↔ S 0 = 0) → p ≤ n → ∀ F : Nat, 42 ≤ F + c → ∃ (u' : hS) (p' s' f : Nat) (S' : Nat → Int), m_X7_read_L8 F t 2 1 (c : Int) (tS u (p : Int) s 0) = m_X7_read_L35 t 2 (tS u' (p' : Int) (s' : Int) (f : Int)) ∧ frT t u u' ∧ (f = 0 → RT u' t S' ∧ S' 0 ≠ 0) ∧ ∀ (v : hS) (m : Int) (G : Nat), rTp n B v → hV v 220 11 = 6 → 42 ≤ G + c → ∃ (y : Nat) (S'' : Nat → Int) (p'' m' : Int), hbind (m_X10_clauseHere 220 (rS (hput (hsetV v 220 14 (c : Int)) 226 S) (p : Int) 0 m)) (fun w => m_X10_readsAll_L35 G 220 w) = m_X10_readsAll_L88 220 (rS (hput (hsetV v 220 14 (y : Int)) 226 S'') p'' (f : Int) m') ∧ (f = 0 → S'' = S')
theorem ln_step {n : Nat} {B : Nat → Int} {t c : Nat} (t3 : 243 ≤ t) (c4 : c ≤ 40) (ih : c < 40 → LnP n B t (c + 1)) : LnP n B t c := by
  intro u S p s h ht rt cz hp F hF
  obtain ⟨F, rfl⟩ : ∃ j, F = j + 1 := ⟨F - 1, by omega⟩
  have hs := h.1
  have b := (sk_le B hp).2
  obtain ⟨u1, p1, s1, E, pn, fr, gd⟩ := c_line h ht t3 rt c4 cz s hp
  have h1 := fr.tp t3 h
  have ht1 := fr.tw ht
  have k2 : ∀ p s f, okk (tS u1 p s f) 2 6 := fun p s f => by rw [tS_k]; exact kk_2 h1.1
  have c6 : c < 1000000 := by omega
  have T := c_takeNextClause h1 (s1 : Int) ((kLine B n (sk B n p) (wfind B n (sk B n p) twW 0) c S : Nat) : Int) pn
  have st : m_X7_read_L8 (F + 1) t 2 1 (c : Int) (tS u (p : Int) s 0) = hbind (m_X6_takeNextClause 2 (tS u1 (p1 : Int) (s1 : Int) ((kLine B n (sk B n p) (wfind B n (sk B n p) twW 0) c S : Nat) : Int))) (fun w => m_X7_read_L8 F t 2 w ((c + 1 : Nat) : Int)) := by
    rw [m_X7_read_L8, hif_p, if_neg (by decide), hif_p, if_neg (by omega), hcallV_b (by rw [tS_k]; exact ht.k0), E, hbind_p, hcallV_b (k2 _ _ _), ← ix_s c6]
    rfl
  have l0 : ∀ (c' : Int) (st : hS), m_X7_read_L8 F t 2 0 c' st = m_X7_read_L35 t 2 st := fun c' st => by
    obtain ⟨F, rfl⟩ : ∃ j, F = j + 1 := ⟨F - 1, by omega⟩
    rw [m_X7_read_L8, hif_p, if_pos rfl]
  by_cases K : kLine B n (sk B n p) (wfind B n (sk B n p) twW 0) c S = 0
  · have w0 : wfind B n (sk B n p) twW 0 ≠ -1 := fun z => by
      unfold kLine at K
      rw [if_pos z] at K
      omega
    obtain ⟨z1, z2⟩ := sLine_0 w0 K
    obtain ⟨e1, rt1⟩ := gd K
    rw [if_pos (by rw [K]; rfl)] at T
    have kref : ∀ (v : hS) (m : Int) (G : Nat), rTp n B v → hV v 220 11 = 6 → 42 ≤ G + c → ∃ m', hbind (m_X10_clauseHere 220 (rS (hput (hsetV v 220 14 (c : Int)) 226 S) (p : Int) 0 m)) (fun w => m_X10_readsAll_L35 G 220 w) = m_X10_readsAll_L35 G 220 1 (rS (hput (hsetV v 220 14 ((c + 1 : Nat) : Int)) 226 (sLine B n (sk B n p) (wfind B n (sk B n p) twW 0) S)) (p1 : Int) 0 m') := by
      intro v m G hv v11 hG
      obtain ⟨y, S', p', k', R, g⟩ := r_line hv v11 S rt.ki c4 m hp
      obtain ⟨g1, g2, g3⟩ := g K
      refine ⟨k', ?_⟩
      rw [R, hbind_p, if_pos K, g1, g2, g3, K, ← e1]
      rfl
    have sk1 := (sk_le B pn).2
    by_cases c59 : chr B n (sk B n p1) = 59
    · rw [if_pos c59, K] at T
      have lt := chr_lt (B := B) (n := n) (p := sk B n p1) (by rw [c59]; decide)
      obtain ⟨u', p', s', f, S', E', fr', g', r'⟩ := ih (by omega) u1 (sLine B n (sk B n p) (wfind B n (sk B n p) twW 0) S) (sk B n p1 + 1) (s1 : Int) h1 ht1 rt1 ⟨fun y => by omega, fun y => absurd y z1⟩ (by omega) F (by omega)
      refine ⟨u', p', s', f, S', ?_, fr.tr fr', g', fun v m G hv v11 hG => ?_⟩
      · rw [st, K, T, hbind_p]
        exact E'
      · obtain ⟨m1, e⟩ := kref v m G hv v11 hG
        obtain ⟨G, rfl⟩ : ∃ j, G = j + 1 := ⟨G - 1, by omega⟩
        obtain ⟨y, S'', p'', m', e', q'⟩ := r' v m1 G hv v11 (by omega)
        refine ⟨y, S'', p'', m', ?_, q'⟩
        have hv1 : rTp n B (hsetV v 220 14 ((c + 1 : Nat) : Int)) := hv.set (by decide) (.inr (by decide))
        have kk : ∀ S p w k, okk (rS (hput (hsetV v 220 14 ((c + 1 : Nat) : Int)) 226 S) p w k) 220 10 := fun S p w k => by rw [rS_k, okk_put]; exact kk_220 hv1.1
        rw [e, m_X10_readsAll_L35, hif_p, if_neg (by decide), hcallV_b (kk _ _ _ _), r_seeS hv1 _ 0 m1 pn, hbind_p, hif_p, if_neg (fun z => z c59), hgI_k (kk _ _ _ _), rS_8, hpI_k (kk _ _ _ _), rS_w8, ix_s (show sk B n p1 < 1000000 by have := h.2.2.2; omega), hcallV_b (kk _ _ _ _)]
        exact e'
    · rw [if_neg c59, K] at T
      have kr66 : ∀ (v : hS) (m : Int) (G : Nat), rTp n B v → hV v 220 11 = 6 → 42 ≤ G + c → ∃ m', hbind (m_X10_clauseHere 220 (rS (hput (hsetV v 220 14 (c : Int)) 226 S) (p : Int) 0 m)) (fun w => m_X10_readsAll_L35 G 220 w) = m_X10_readsAll_L88 220 (rS (hput (hsetV v 220 14 ((c + 1 : Nat) : Int)) 226 (sLine B n (sk B n p) (wfind B n (sk B n p) twW 0) S)) ((sk B n p1 : Nat) : Int) ((if chr B n (sk B n p1) = -1 then 0 else 1 + 8 * sk B n p1 : Nat) : Int) m') := by
        intro v m G hv v11 hG
        obtain ⟨m1, e⟩ := kref v m G hv v11 hG
        obtain ⟨G, rfl⟩ : ∃ j, G = j + 1 := ⟨G - 1, by omega⟩
        have hv1 : rTp n B (hsetV v 220 14 ((c + 1 : Nat) : Int)) := hv.set (by decide) (.inr (by decide))
        have kk : ∀ S p w k, okk (rS (hput (hsetV v 220 14 ((c + 1 : Nat) : Int)) 226 S) p w k) 220 10 := fun S p w k => by rw [rS_k, okk_put]; exact kk_220 hv1.1
        refine ⟨m1, ?_⟩
        rw [e, m_X10_readsAll_L35, hif_p, if_neg (by decide), hcallV_b (kk _ _ _ _), r_seeS hv1 _ 0 m1 pn, hbind_p, hif_p, if_pos c59]
        have R := r_66 (hv1.put (a := 226) (g := sLine B n (sk B n p) (wfind B n (sk B n p) twW 0) S) (by decide) (by decide)) sk1 m1
        rw [sk_sk B pn] at R
        exact R
      by_cases cm : chr B n (sk B n p1) = -1
      · rw [if_pos cm] at T
        refine ⟨u1, sk B n p1, s1, 0, sLine B n (sk B n p) (wfind B n (sk B n p) twW 0) S, ?_, fr, fun _ => ⟨rt1, z1⟩, fun v m G hv v11 hG => ?_⟩
        · rw [st, K, T, hbind_p]
          exact l0 _ _
        · obtain ⟨m', e⟩ := kr66 v m G hv v11 hG
          rw [if_pos cm] at e
          exact ⟨c + 1, _, _, m', e, fun _ => rfl⟩
      · rw [if_neg cm] at T
        refine ⟨u1, sk B n p1, s1, 1 + 8 * sk B n p1, S, ?_, fr, fun z => absurd z (by omega), fun v m G hv v11 hG => ?_⟩
        · rw [st, K, T, hbind_p]
          exact l0 _ _
        · obtain ⟨m', e⟩ := kr66 v m G hv v11 hG
          rw [if_neg cm] at e
          exact ⟨c + 1, _, _, m', e, fun z => absurd z (by omega)⟩
  · rw [if_neg (by omega)] at T
    refine ⟨u1, p1, s1, _, S, ?_, fr, fun z => absurd z K, fun v m G hv v11 hG => ?_⟩
    · rw [st, T, hbind_p]
      exact l0 _ _
    · obtain ⟨y, S', p', k', R, g⟩ := r_line hv v11 S rt.ki c4 m hp
      obtain ⟨G, rfl⟩ : ∃ j, G = j + 1 := ⟨G - 1, by omega⟩
      refine ⟨y, S', p', k', ?_, fun z => absurd z K⟩
      rw [R, hbind_p, if_neg K, m_X10_readsAll_L35, hif_p, if_pos rfl]
      unfold m_X10_readsAll_L66
      rw [hif_p, if_pos rfl]
theorem lines {n : Nat} {B : Nat → Int} {t : Nat} (t3 : 243 ≤ t) : ∀ d c : Nat, d + c = 40 → LnP n B t c := by
  intro d
  induction d with
  | zero => exact fun c hc => ln_step t3 (by omega) (fun z => by omega)
  | succ d ih => exact fun c hc => ln_step t3 (by omega) (fun z => ih (c + 1) (by omega))
