/-! a clause of a rule, both readers -/
def CB2 (Q : Nat) (K : Nat → Nat → Int → Int → hM) (c : Int) : hM := hgR 3 Q 3 fun v5 => hgI 3 Q 6 fun v6 => hsI 20 v5 c v6 <| hcallV 6 2 (m_X6_takeWord 2 3) fun v7 => hif (v7 = 0) (m_X3_read_L86 K Q 2 c) (hcallV 3 Q (M_X3_readTest 13 Q 2 0) fun _ => m_X3_read_L86 K Q 2 c)
def CB1 (Q : Nat) (K : Nat → Nat → Int → Int → hM) (c : Int) : hM := hgR 3 Q 2 fun v3 => hgI 3 Q 6 fun v4 => hsI 20 v3 c v4 <| hcallV 3 Q (m_X3_readSum Q 2) fun _ => CB2 Q K c
theorem X_g14 {n : Nat} {B : Nat → Int} {v : hS} (h : rTp n B v) {r : Nat} {Z : Nat → Int} {M : Int} {O : Nat → Int} {k dp oc p w m : Int} {f : Int → hM} : hgI 10 220 14 f (rS (RX v r Z M O k dp oc) p w m) = f (hV v 220 14) (rS (RX v r Z M O k dp oc) p w m) := by
  rw [hgI_k (X_ok h _ _ _ _ _ _ _ _ _), rS_i (by decide), RX_i (by decide)]
theorem X_p14 {n : Nat} {B : Nat → Int} {v : hS} (h : rTp n B v) {r : Nat} {Z : Nat → Int} {M : Int} {O : Nat → Int} {k dp oc p w m x : Int} {f : hM} : hpI 10 220 14 x f (rS (RX v r Z M O k dp oc) p w m) = f (rS (RX (hsetV v 220 14 x) r Z M O k dp oc) p w m) := by
  rw [hpI_k (X_ok h _ _ _ _ _ _ _ _ _), rS_seti (by decide), RX_w14]
theorem X_r5 {n : Nat} {B : Nat → Int} {v : hS} (h : rTp n B v) {r : Nat} {Z : Nat → Int} {M : Int} {O : Nat → Int} {k dp oc p w m : Int} {f : Nat → hM} : hgR 10 220 5 f (rS (RX v r Z M O k dp oc) p w m) = f 224 (rS (RX v r Z M O k dp oc) p w m) := by
  rw [hgR_k (X_ok h _ _ _ _ _ _ _ _ _), rS_F, RX_F, rf_220_5 h.1]
theorem X_r6 {n : Nat} {B : Nat → Int} {v : hS} (h : rTp n B v) {r : Nat} {Z : Nat → Int} {M : Int} {O : Nat → Int} {k dp oc p w m : Int} {f : Nat → hM} : hgR 10 220 6 f (rS (RX v r Z M O k dp oc) p w m) = f 225 (rS (RX v r Z M O k dp oc) p w m) := by
  rw [hgR_k (X_ok h _ _ _ _ _ _ _ _ _), rS_F, RX_F, rf_220_6 h.1]
theorem X_a225 {n : Nat} {B : Nat → Int} {v : hS} (h : rTp n B v) {r : Nat} (r6 : r < 6) {Z : Nat → Int} {M : Int} {O : Nat → Int} {k dp oc p w m : Int} {f : Int → hM} : haI 20 225 (r : Int) f (rS (RX v r Z M O k dp oc) p w m) = f (hV v 225 r) (rS (RX v r Z M O k dp oc) p w m) := by
  rw [haI_n (by rw [rS_k, RX_k]; exact kk_225 h.1) (by rw [rS_N, RX_N, ln_225 h.1]; omega), rS_o (by decide), RX_o (by decide)]
theorem X_s225 {n : Nat} {B : Nat → Int} {v : hS} (h : rTp n B v) {r : Nat} (r6 : r < 6) {Z : Nat → Int} {M : Int} {O : Nat → Int} {k dp oc p w m x : Int} {f : hM} : hsI 20 225 (r : Int) x f (rS (RX v r Z M O k dp oc) p w m) = f (rS (RX (hsetV v 225 r x) r Z M O k dp oc) p w m) := by
  rw [hsI_n (by rw [rS_k, RX_k]; exact kk_225 h.1) (by rw [rS_N, RX_N, ln_225 h.1]; omega), rS_set (by decide), RX_wx (by decide)]
theorem X_s224 {n : Nat} {B : Nat → Int} {v : hS} (h : rTp n B v) {r : Nat} {Z : Nat → Int} {M : Int} {O : Nat → Int} {k dp oc p w m x : Int} {f : hM} {i : Nat} (hi : i < 288) : hsI 20 224 (i : Int) x f (rS (RX v r Z M O k dp oc) p w m) = f (rS (RX (hsetV v 224 i x) r Z M O k dp oc) p w m) := by
  rw [hsI_n (by rw [rS_k, RX_k]; exact kk_224 h.1) (by rw [rS_N, RX_N, ln_224 h.1]; exact hi), rS_set (by decide), RX_wx (by decide)]
theorem cb1 {u : hS} {Q : Nat} (ru : RuA u Q) (q54 : 54 ≤ Q) (K : Nat → Nat → Int → Int → hM) {c : Nat} (c12 : c < 12) (cd op : Nat → Int) (M k p s f : Int) : CB1 Q K (c : Int) (tS (RM u Q cd op M k) p s f) = hbind (m_X3_readSum Q 2 (tS (RM (hsetV u (Q + 3) c M) Q cd op M k) p s f)) (fun _ => CB2 Q K (c : Int)) := by
  unfold CB1
  rw [hgR_k (by rw [tS_k, RM_k]; exact ru.k0), tS_F, RM_F, ru.f2, hgI_k (by rw [tS_k, RM_k]; exact ru.k0), tS_o (by omega), RM_6, hsI_n (by rw [tS_k, RM_k]; exact ru.k3) (by rw [tS_N, RM_N, ru.n3]; exact c12), tS_set (by omega), RM_wx (by omega), hcallV_b (by rw [tS_k, RM_k]; exact ru.k0)]
theorem cb2 {n : Nat} {B : Nat → Int} {u : hS} (h : cTp n B u) {Q : Nat} (ru : RuA u Q) (q54 : 54 ≤ Q) (K : Nat → Nat → Int → Int → hM) {c : Nat} (c12 : c < 12) (cd op : Nat → Int) (M k p s f : Int) : CB2 Q K (c : Int) (tS (RM u Q cd op M k) p s f) = hbind (m_X6_takeWord 2 3 (tS (RM (hsetV u (Q + 4) c M) Q cd op M k) p s f)) (fun v7 => hif (v7 = 0) (m_X3_read_L86 K Q 2 (c : Int)) (hcallV 3 Q (M_X3_readTest 13 Q 2 0) fun _ => m_X3_read_L86 K Q 2 (c : Int))) := by
  unfold CB2
  rw [hgR_k (by rw [tS_k, RM_k]; exact ru.k0), tS_F, RM_F, ru.f3, hgI_k (by rw [tS_k, RM_k]; exact ru.k0), tS_o (by omega), RM_6, hsI_n (by rw [tS_k, RM_k]; exact ru.k4) (by rw [tS_N, RM_N, ru.n4]; exact c12), tS_set (by omega), RM_wx (by omega), hcallV_b (by rw [tS_k, RM_k]; exact kk_2 h.1)]
theorem cb2F {n : Nat} {B : Nat → Int} {u : hS} (h : cTp n B u) {Q : Nat} (ru : RuA u Q) (q54 : 54 ≤ Q) (K : Nat → Nat → Int → Int → hM) {c : Nat} (c12 : c < 12) (cd op : Nat → Int) (M k p s : Int) {f : Int} (hf : f ≠ 0) : CB2 Q K (c : Int) (tS (RM u Q cd op M k) p s f) = m_X3_read_L118 K Q 2 (c : Int) (tS (RM (hsetV (hsetV (hsetV u (Q + 4) c M) (Q + 5) c M) Q 7 (w32 (hV u Q 7 + 1))) Q cd op M k) p s f) := by
  have h1 : cTp n B (hsetV u (Q + 4) c M) := h.set (by omega) (by omega)
  have ru1 : RuA (hsetV u (Q + 4) c M) Q := ru
  have e7 : hV (hsetV u (Q + 4) c M) Q 7 = hV u Q 7 := hV_setV_a (by omega)
  rw [cb2 h ru q54 K c12, x_takeWordF (u := RM (hsetV u (Q + 4) c M) Q cd op M k) (by rw [RM_shp]; exact h1.1) p s hf 3, hbind_p, hif_p, if_pos rfl, x_L86 ru1 q54 K c12, e7]
theorem cb1F {n : Nat} {B : Nat → Int} {u : hS} (h : cTp n B u) {Q : Nat} (ru : RuA u Q) (q54 : 54 ≤ Q) (K : Nat → Nat → Int → Int → hM) {c : Nat} (c12 : c < 12) (cd op : Nat → Int) {M : Nat} (M4 : M ≤ 400) (k s : Int) {p : Nat} (hp : p ≤ n) {f : Int} (hf : f ≠ 0) : ∃ (cd' op' : Nat → Int) (M' p' : Nat) (u' : hS), M' ≤ 400 ∧ p' ≤ n ∧ frQ Q u u' ∧ CB1 Q K (c : Int) (tS (RM u Q cd op M k) (p : Int) s f) = m_X3_read_L118 K Q 2 (c : Int) (tS (RM u' Q cd' op' M' k) (p' : Int) s f) := by
  have h1 : cTp n B (hsetV u (Q + 3) c M) := h.set (by omega) (by omega)
  have ru1 : RuA (hsetV u (Q + 3) c M) Q := ru
  obtain ⟨cd', op', M', p', e1, e2, e3⟩ := x_sumFF h1 ru1 q54 cd op M4 k s hf hp
  refine ⟨cd', op', M', p', hsetV (hsetV (hsetV (hsetV u (Q + 3) c M) (Q + 4) c M') (Q + 5) c M') Q 7 (w32 (hV (hsetV u (Q + 3) c M) Q 7 + 1)), e1, e2, ?_, ?_⟩
  · exact ((((frQ.rf Q u).set (by omega) (by omega)).set (by omega) (by omega)).set (by omega) (by omega)).set (by omega) (by omega)
  · rw [cb1 ru q54 K c12, e3, hbind_p, cb2F h1 ru1 q54 K c12 cd' op' M' k p' s hf]
/-- what a clause leaves in the class -/
def clK (Q c : Nat) (u u' : hS) (a b e : Nat) : Prop := hV u' Q 7 = ((c + 1 : Nat) : Int) ∧ (hV u' (Q + 3) c = (a : Int) ∧ hV u' (Q + 4) c = (b : Int) ∧ hV u' (Q + 5) c = (e : Int)) ∧ ∀ i, i ≠ c → hV u' (Q + 3) i = hV u (Q + 3) i ∧ hV u' (Q + 4) i = hV u (Q + 4) i ∧ hV u' (Q + 5) i = hV u (Q + 5) i
/-- and in the reference -/
def rlK (r c : Nat) (v v' : hS) (a b e : Nat) : Prop := hV v' 220 14 = ((c + 1 : Nat) : Int) ∧ hV v' 225 r = ((c + 1 : Nat) : Int) ∧ (hV v' 224 (48 * r + 4 * c) = (a : Int) ∧ hV v' 224 (48 * r + 4 * c + 1) = (b : Int) ∧ hV v' 224 (48 * r + 4 * c + 2) = (if b = e then -1 else (b : Int)) ∧ hV v' 224 (48 * r + 4 * c + 3) = (e : Int)) ∧ ∀ i, i < 48 * r + 4 * c ∨ 48 * r + 4 * c + 3 < i → hV v' 224 i = hV v 224 i
theorem j_clause {n : Nat} {B : Nat → Int} (hB : byB B n) {u : hS} (h : cTp n B u) {Q r : Nat} (ru : RuA u Q) (q54 : 54 ≤ Q) (r6 : r < 6) {c : Nat} (c12 : c ≤ 12) (hc7 : hV u Q 7 = (c : Int)) {p M k : Nat} {cd op : Nat → Int} (ok : ∀ j, j < M → okO (cd j) (op j)) (k6 : k ≤ 60) (Mp : M ≤ p) (hp : p ≤ n) (s : Int) : ∃ (f p' k' M' M1 : Nat) (s' : Int) (cd' op' : Nat → Int) (u' : hS), (∀ F, m_X3_read_L23 (F + 1) Q 2 1 (c : Int) (tS (RM u Q cd op M k) (p : Int) s 0) = m_X3_read_L118 (m_X3_read_L23 F) Q 2 (c : Int) (tS (RM u' Q cd' op' M' k') (p' : Int) s' (f : Int))) ∧ p' ≤ n ∧ M' ≤ 400 ∧ frQ Q u u' ∧ (f = 0 → c < 12 ∧ p < p' ∧ mv p M cd op p' M' cd' op' ∧ k' ≤ 60 ∧ (∀ j, j < M' → okO (cd' j) (op' j)) ∧ (M ≤ M1 ∧ M1 ≤ M') ∧ tyL cd' (M1 - M) M [] = some [false] ∧ (M1 < M' → tyL cd' (M' - M1) M1 [] = some [true]) ∧ clK Q c u u' M M1 M') ∧ ∀ (v : hS) (Z O : Nat → Int) (dp oc m : Int), rTp n B v → hV v 220 11 = (r : Int) → hV v 220 14 = (c : Int) → hV v 225 r = (c : Int) → zk r Z cd op M → ∃ (v' : hS) (Z' O' : Nat → Int) (m' p'' k'' M'' dp'' oc'' : Int), m_X10_clauseHere 220 (rS (RX v r Z M O k dp oc) (p : Int) 0 m) = some (if f = 0 then 1 else 0, rS (RX v' r Z' M'' O' k'' dp'' oc'') p'' (f : Int) m') ∧ frR r v v' ∧ zF r Z Z' ∧ (f = 0 → (p'' = (p' : Int) ∧ k'' = (k' : Int) ∧ M'' = (M' : Int) ∧ zk r Z' cd' op' M') ∧ rlK r c v v' M M1 M') := by
  have hs := h.1
  have n4 := h.2.2.2
  have s1 := sk_le B hp
  have ss := sk_sk B hp
  have h0 := RM_tp h q54 cd op M k
  have z0 : ¬ ((0 : Int) ≠ 0) := fun z => z rfl
  have n10 : ¬ ((1 : Int) = 0) := by decide
  have k2 : ∀ u, shp u → ∀ cd op (M k P s f : Int), okk (tS (RM u Q cd op M k) P s f) 2 6 := fun u hs _ _ _ _ _ _ _ => by rw [tS_k, RM_k]; exact kk_2 hs
  have E1 := c_word1 h0 s hp
  have W1 : wfind B n (sk B n p) [427121668979] 0 = if isW B n (sk B n p) 427121668979 then 0 else -1 := rfl
  rw [W1] at E1
  have st0 : ∀ F, m_X3_read_L23 (F + 1) Q 2 1 (c : Int) (tS (RM u Q cd op M k) (p : Int) s 0) = hbind (m_X6_word 2 1 (tS (RM u Q cd op M k) (p : Int) s 0)) (fun _ => hif ((c : Int) ≥ 12) (hgI 6 2 3 fun v2 => hcallV 6 2 (m_X6_fail 2 v2 4) fun _ => m_X3_read_L118 (m_X3_read_L23 F) Q 2 (c : Int)) (CB1 Q (m_X3_read_L23 F) (c : Int))) := fun F => by
    rw [m_X3_read_L23, hif_p, if_neg n10, hif_p, if_neg (by omega), hcallV_b (k2 u hs _ _ _ _ _ _ _)]
    rfl
  -- the reference's first steps
  have rr0 : ∀ (v : hS) (Z O : Nat → Int) (dp oc m : Int), rTp n B v → hV v 220 11 = (r : Int) → hV v 220 14 = (c : Int) → m_X10_clauseHere 220 (rS (RX v r Z M O k dp oc) (p : Int) 0 m) = if isW B n (sk B n p) 427121668979 then (if c < 12 then hbind (m_X10_isCrossHere 220 (rS (RX (hsetV v 220 14 ((c + 1 : Nat) : Int)) r Z M O k dp oc) ((sk B n p : Nat) : Int) 0 m)) (fun x => hretZ x) else some (0, rS (RX v r Z M O k dp oc) ((sk B n p : Nat) : Int) ((1 + 8 * sk B n p + 4 : Nat) : Int) m)) else some (0, rS (RX v r Z M O k dp oc) ((sk B n p : Nat) : Int) ((1 + 8 * sk B n p : Nat) : Int) m) := fun v Z O dp oc m hv h11 h14 => by
    have hx := RX_tp hv r Z M O k dp oc
    have Wd := r_isWord hx 427121668979 0 m s1.2
    rw [ss] at Wd
    have F0 := fun (j : Nat) (hj : j ≤ 4) => y_fails (u := RX v r Z M O k dp oc) (by rw [RX_shp]; exact hv.1) ((sk B n p : Nat) : Int) m (at' := sk B n p) (by omega) (j := j) hj
    have F4 : m_X10_fails 220 4 _ _ = _ := F0 4 (by decide)
    have F0 : m_X10_fails 220 0 _ _ = _ := F0 0 (by decide)
    unfold m_X10_clauseHere
    rw [X_cv hv, r_see hx 0 m hp, hbind_p, X_g8 hv, hlet_p, X_g11 hv h11, hif_p, if_pos (by omega)]
    unfold m_X10_clauseHere_L24
    rw [hlet_p, hif_p, if_pos rfl, X_cv hv, Wd, hbind_p, hif_p]
    by_cases w : isW B n (sk B n p) 427121668979
    · rw [if_pos w, if_pos w, if_pos (by decide)]
      unfold m_X10_clauseHere_L56
      rw [X_g14 hv, h14, hif_p, if_pos rfl]
      unfold m_X10_clauseHere_L71
      rw [hif_p]
      by_cases c1 : c < 12
      · have hv1 : rTp n B (hsetV v 220 14 ((c + 1 : Nat) : Int)) := hv.set (by decide) (.inr (by decide))
        rw [if_pos c1, if_pos (by omega), X_g14 hv, h14, X_p14 hv, ix_s (by omega), hif_p, if_pos rfl, X_cv hv1]
        rfl
      · rw [if_neg c1, if_neg (by omega), X_cv hv, F4, hbind_p]
        rfl
    · rw [if_neg w, if_neg w, if_neg z0]
      unfold m_X10_clauseHere_L49
      rw [X_cv hv, F0, hbind_p]
      rfl
  by_cases w : isW B n (sk B n p) 427121668979
  case neg =>
    -- another word
    rw [if_neg w, if_pos rfl] at E1
    have ref : ∀ (v : hS) (Z O : Nat → Int) (dp oc m : Int), rTp n B v → hV v 220 11 = (r : Int) → hV v 220 14 = (c : Int) → m_X10_clauseHere 220 (rS (RX v r Z M O k dp oc) (p : Int) 0 m) = some (0, rS (RX v r Z M O k dp oc) ((sk B n p : Nat) : Int) ((1 + 8 * sk B n p : Nat) : Int) m) := fun v Z O dp oc m hv h11 h14 => by rw [rr0 v Z O dp oc m hv h11 h14, if_neg w]
    by_cases c1 : c < 12
    · have J := fun K => cb1F h ru q54 K c1 cd op (show M ≤ 400 by omega) k ((sk B n p : Nat) : Int) s1.2 (f := ((1 + 8 * sk B n p : Nat) : Int)) (by omega)
      obtain ⟨cd', op', M', p', e1, e2, e3⟩ := x_sumFF (u := hsetV u (Q + 3) c M) (h.set (by omega) (by omega)) ru q54 cd op (show M ≤ 400 by omega) k ((sk B n p : Nat) : Int) (f := ((1 + 8 * sk B n p : Nat) : Int)) (by omega) s1.2
      have h1 : cTp n B (hsetV u (Q + 3) c M) := h.set (by omega) (by omega)
      have ru1 : RuA (hsetV u (Q + 3) c M) Q := ru
      refine ⟨1 + 8 * sk B n p, p', k, M', 0, ((sk B n p : Nat) : Int), cd', op', hsetV (hsetV (hsetV (hsetV u (Q + 3) c M) (Q + 4) c M') (Q + 5) c M') Q 7 (w32 (hV (hsetV u (Q + 3) c M) Q 7 + 1)), fun F => ?_, e2, e1, ((((frQ.rf Q u).set (by omega) (by omega)).set (by omega) (by omega)).set (by omega) (by omega)).set (by omega) (by omega), fun y => absurd y (by omega), fun v Z O dp oc m hv h11 h14 h25 hz => ⟨v, Z, O, m, ((sk B n p : Nat) : Int), (k : Int), (M : Int), dp, oc, ?_, frR.rf r v, zF.rf r Z, fun y => absurd y (by omega)⟩⟩
      · rw [st0 F, E1, hbind_p, hif_p, if_neg (by omega), cb1 ru q54 _ c1, e3, hbind_p, cb2F h1 ru1 q54 _ c1 cd' op' M' k p' _ (by omega)]
      · rw [if_neg (by omega), ref v Z O dp oc m hv h11 h14]
    · refine ⟨1 + 8 * sk B n p, sk B n p, k, M, 0, ((sk B n p : Nat) : Int), cd, op, u, fun F => ?_, s1.2, by omega, frQ.rf Q u, fun y => absurd y (by omega), fun v Z O dp oc m hv h11 h14 h25 hz => ⟨v, Z, O, m, ((sk B n p : Nat) : Int), (k : Int), (M : Int), dp, oc, ?_, frR.rf r v, zF.rf r Z, fun y => absurd y (by omega)⟩⟩
      · have F4 := x_fail (u := RM u Q cd op M k) (by rw [RM_shp]; exact hs) ((sk B n p : Nat) : Int) ((sk B n p : Nat) : Int) ((1 + 8 * sk B n p : Nat) : Int) (w := sk B n p) (by omega) (k := 4) (by decide)
        rw [if_neg (by omega)] at F4
        have F4 : m_X6_fail 2 ((sk B n p : Nat) : Int) 4 _ = _ := F4
        rw [st0 F, E1, hbind_p, hif_p, if_pos (by omega), hgI_k (k2 u hs _ _ _ _ _ _ _), tS_3, hcallV_b (k2 u hs _ _ _ _ _ _ _), F4, hbind_p]
      · rw [if_neg (by omega), ref v Z O dp oc m hv h11 h14]
  rw [if_pos w, if_neg (by decide)] at E1
  obtain ⟨lt, wp, _, _⟩ := isW_lt hB s1.2 w
  have pw := (wl_b B s1.2).1
  by_cases c1 : c < 12
  case neg =>
    -- a clause too many
    refine ⟨1 + 8 * sk B n p + 4, sk B n p + wl B n (sk B n p), k, M, 0, ((sk B n p : Nat) : Int), cd, op, u, fun F => ?_, pw, by omega, frQ.rf Q u, fun y => absurd y (by omega), fun v Z O dp oc m hv h11 h14 h25 hz => ⟨v, Z, O, m, ((sk B n p : Nat) : Int), (k : Int), (M : Int), dp, oc, ?_, frR.rf r v, zF.rf r Z, fun y => absurd y (by omega)⟩⟩
    · have F4 := x_fail (u := RM u Q cd op M k) (by rw [RM_shp]; exact hs) ((sk B n p + wl B n (sk B n p) : Nat) : Int) ((sk B n p : Nat) : Int) 0 (w := sk B n p) (by omega) (k := 4) (by decide)
      rw [if_pos rfl] at F4
      have F4 : m_X6_fail 2 ((sk B n p : Nat) : Int) 4 _ = _ := F4
      rw [st0 F, E1, hbind_p, hif_p, if_pos (by omega), hgI_k (k2 u hs _ _ _ _ _ _ _), tS_3, hcallV_b (k2 u hs _ _ _ _ _ _ _), F4, hbind_p]
    · rw [if_neg (by omega), rr0 v Z O dp oc m hv h11 h14, if_pos w, if_neg c1]
  -- the sum
  have h1 : cTp n B (hsetV u (Q + 3) c M) := h.set (by omega) (by omega)
  have ru1 : RuA (hsetV u (Q + 3) c M) Q := ru
  have t0 : tk cd op M M [] k := ⟨Nat.le_refl _, by rw [Nat.sub_self]; rfl, ok, by show 0 ≤ k; omega, k6⟩
  obtain ⟨f1, p1, k1, M1, s2, cd1, op1, S1, sp1, sM1, sg1, sr1⟩ := j_sum hB h1 ru1 q54 r6 t0 (show M ≤ sk B n p + wl B n (sk B n p) by omega) pw ((sk B n p : Nat) : Int)
  have st1 : ∀ F, m_X3_read_L23 (F + 1) Q 2 1 (c : Int) (tS (RM u Q cd op M k) (p : Int) s 0) = CB2 Q (m_X3_read_L23 F) (c : Int) (tS (RM (hsetV u (Q + 3) c M) Q cd1 op1 M1 k1) (p1 : Int) s2 (f1 : Int)) := fun F => by
    rw [st0 F, E1, hbind_p, hif_p, if_neg (by omega), cb1 ru q54 _ c1, S1, hbind_p]
  have w5 : True → w32 (w32 (48 * (r : Int)) + w32 (4 * (c : Int))) = ((48 * r + 4 * c : Nat) : Int) := fun _ => by
    have a1 : w32 (48 * (r : Int)) = ((48 * r : Nat) : Int) := w32_n (by omega) (by omega)
    have a2 : w32 (4 * (c : Int)) = ((4 * c : Nat) : Int) := w32_n (by omega) (by omega)
    rw [a1, a2]
    exact ix_n (by omega)
  have i6 : 48 * r + 4 * c < 1000000 := by omega
  -- the reference up to its sum
  have rr1 : ∀ (v : hS) (Z O : Nat → Int) (dp oc m : Int), rTp n B v → hV v 220 11 = (r : Int) → hV v 220 14 = (c : Int) → hV v 225 r = (c : Int) → m_X10_clauseHere 220 (rS (RX v r Z M O k dp oc) (p : Int) 0 m) = hbind (hbind (m_X10_sum 220 (rS (RX (hsetV (hsetV v 220 14 ((c + 1 : Nat) : Int)) 224 (48 * r + 4 * c) M) r Z M O k dp oc) ((sk B n p + wl B n (sk B n p) : Nat) : Int) 0 m)) (fun v10 => hif (v10 ≠ 0) (hgR 10 220 5 fun v11 => hgR 10 220 4 fun v12 => hgI 10 220 11 fun v13 => haI 20 v12 v13 fun v14 => hsI 20 v11 (w32 (((48 * r + 4 * c : Nat) : Int) + 1)) v14 <| hgR 10 220 5 fun v15 => hsI 20 v15 (w32 (((48 * r + 4 * c : Nat) : Int) + 2)) (-1) <| hcallV 10 220 (m_X10_takesWord 220 26982) fun v16 => hif (v16 = 0) (m_X10_isCrossHere_L110 220 ((48 * r + 4 * c : Nat) : Int)) (hgR 10 220 5 fun v17 => hgR 10 220 4 fun v18 => hgI 10 220 11 fun v19 => haI 20 v18 v19 fun v20 => hsI 20 v17 (w32 (((48 * r + 4 * c : Nat) : Int) + 2)) v20 <| hcallV 10 220 (m_X10_tested 220) fun v21 => hif (v21 ≠ 0) (m_X10_isCrossHere_L110 220 ((48 * r + 4 * c : Nat) : Int)) (hretZ 0))) (hretZ 0))) (fun x => hretZ x) := fun v Z O dp oc m hv h11 h14 h25 => by
    have hv1 : rTp n B (hsetV v 220 14 ((c + 1 : Nat) : Int)) := hv.set (by decide) (.inr (by decide))
    have v11 : hV (hsetV v 220 14 ((c + 1 : Nat) : Int)) 220 11 = (r : Int) := by rw [hV_setV_i (by decide)]; exact h11
    have v25 : hV (hsetV v 220 14 ((c + 1 : Nat) : Int)) 225 r = (c : Int) := by rw [hV_setV_a (by decide)]; exact h25
    have hv2 : rTp n B (hsetV (hsetV v 220 14 ((c + 1 : Nat) : Int)) 224 (48 * r + 4 * c) M) := hv1.set (by decide) (.inl (by decide))
    rw [rr0 v Z O dp oc m hv h11 h14, if_pos w, if_pos c1]
    unfold m_X10_isCrossHere
    rw [X_cv hv1, r_passWord (RX_tp hv1 r Z M O k dp oc) 0 m s1.2, hbind_p, X_g11 hv1 v11, X_r6 hv1, X_g11 hv1 v11, X_a225 hv1 r6, v25, hlet_p, w5 trivial, X_r5 hv1, X_r4 hv1, X_g11 hv1 v11, X_a223 hv1 r6, X_s224 hv1 (show 48 * r + 4 * c < 288 by omega), X_cv hv2]
  by_cases z : f1 = 0
  case neg =>
    refine ⟨f1, p1, k1, M1, 0, s2, cd1, op1, hsetV (hsetV (hsetV (hsetV u (Q + 3) c M) (Q + 4) c M1) (Q + 5) c M1) Q 7 (w32 (hV (hsetV u (Q + 3) c M) Q 7 + 1)), fun F => ?_, sp1, sM1, ((((frQ.rf Q u).set (by omega) (by omega)).set (by omega) (by omega)).set (by omega) (by omega)).set (by omega) (by omega), fun y => absurd y z, fun v Z O dp oc m hv h11 h14 h25 hz => ?_⟩
    · rw [st1 F, cb2F h1 ru1 q54 _ c1 cd1 op1 M1 k1 p1 s2 (by omega)]
    · have hv2 : rTp n B (hsetV (hsetV v 220 14 ((c + 1 : Nat) : Int)) 224 (48 * r + 4 * c) M) := (hv.set (by decide) (.inr (by decide))).set (by decide) (.inl (by decide))
      obtain ⟨Z1, m1, P1, K1, X1, x1, x2, x3⟩ := sr1 _ Z O dp oc m hv2 (by rw [hV_setV_a (by decide), hV_setV_i (by decide)]; exact h11) hz
      refine ⟨_, Z1, O, m1, P1, K1, X1, dp, oc, ?_, ((frR.rf r v).s14 ((c + 1 : Nat) : Int)).s224 (j := 48 * r + 4 * c) M (by omega) (by omega), x2, fun y => absurd y z⟩
      rw [rr1 v Z O dp oc m hv h11 h14 h25, x1, if_neg z, hbind_p, hif_p, if_neg z0, hretZ_0, hbind_p, hretZ_0]
  obtain ⟨g1, gs, g2, g3⟩ := sg1 z
  subst z
  have g2' := g2.2.1
  have k16 := g3.2.2.2.2
  have hMM := g2.1
  have h2 : cTp n B (hsetV (hsetV u (Q + 3) c M) (Q + 4) c M1) := h1.set (by omega) (by omega)
  have ru2 : RuA (hsetV (hsetV u (Q + 3) c M) (Q + 4) c M1) Q := ru
  have TW := c_takeWord (RM_tp h2 q54 cd1 op1 M1 k1) s2 okC_3 sp1
  rw [gs] at TW
  have c7 : w32 (hV (hsetV (hsetV u (Q + 3) c M) (Q + 4) c M1) Q 7 + 1) = ((c + 1 : Nat) : Int) := by
    rw [hV_setV_a (by omega), hV_setV_a (by omega), hc7]
    exact ix_s (by omega)
  -- the class's rows behind a clause
  have ck : ∀ x : Nat, clK Q c u (hsetV (hsetV (hsetV (hsetV u (Q + 3) c M) (Q + 4) c M1) (Q + 5) c x) Q 7 ((c + 1 : Nat) : Int)) M M1 x := fun x => by
    refine ⟨hV_setV_s _ _ _ _, ⟨?_, ?_, ?_⟩, fun i hi => ⟨?_, ?_, ?_⟩⟩
    · rw [hV_setV_a (by omega), hV_setV_a (by omega), hV_setV_a (by omega), hV_setV_s]
    · rw [hV_setV_a (by omega), hV_setV_a (by omega), hV_setV_s]
    · rw [hV_setV_a (by omega), hV_setV_s]
    · rw [hV_setV_a (by omega), hV_setV_a (by omega), hV_setV_a (by omega), hV_setV_i hi]
    · rw [hV_setV_a (by omega), hV_setV_a (by omega), hV_setV_i hi, hV_setV_a (by omega)]
    · rw [hV_setV_a (by omega), hV_setV_i hi, hV_setV_a (by omega), hV_setV_a (by omega)]
  have fq : ∀ x y : Int, frQ Q u (hsetV (hsetV (hsetV (hsetV u (Q + 3) c M) (Q + 4) c M1) (Q + 5) c x) Q 7 y) := fun x y => ((((frQ.rf Q u).set (by omega) (by omega)).set (by omega) (by omega)).set (by omega) (by omega)).set (by omega) (by omega)
  -- the reference behind its sum
  have rr2 : ∀ (v : hS) (Z O : Nat → Int) (dp oc m : Int), rTp n B v → hV v 220 11 = (r : Int) → hV v 220 14 = (c : Int) → hV v 225 r = (c : Int) → zk r Z cd op M → ∃ Z1 m1, zF r Z Z1 ∧ zk r Z1 cd1 op1 M1 ∧ ∀ v4, v4 = hsetV (hsetV (hsetV (hsetV v 220 14 ((c + 1 : Nat) : Int)) 224 (48 * r + 4 * c) M) 224 (48 * r + 4 * c + 1) M1) 224 (48 * r + 4 * c + 2) (-1) → m_X10_clauseHere 220 (rS (RX v r Z M O k dp oc) (p : Int) 0 m) = hbind (hbind (m_X10_takesWord 220 26982 (rS (RX v4 r Z1 M1 O k1 dp oc) (p1 : Int) 0 m1)) (fun v16 => hif (v16 = 0) (m_X10_isCrossHere_L110 220 ((48 * r + 4 * c : Nat) : Int)) (hgR 10 220 5 fun v17 => hgR 10 220 4 fun v18 => hgI 10 220 11 fun v19 => haI 20 v18 v19 fun v20 => hsI 20 v17 (w32 (((48 * r + 4 * c : Nat) : Int) + 2)) v20 <| hcallV 10 220 (m_X10_tested 220) fun v21 => hif (v21 ≠ 0) (m_X10_isCrossHere_L110 220 ((48 * r + 4 * c : Nat) : Int)) (hretZ 0)))) (fun x => hretZ x) := fun v Z O dp oc m hv h11 h14 h25 hz => by
    have hv2 : rTp n B (hsetV (hsetV v 220 14 ((c + 1 : Nat) : Int)) 224 (48 * r + 4 * c) M) := (hv.set (by decide) (.inr (by decide))).set (by decide) (.inl (by decide))
    have v11 : hV (hsetV (hsetV v 220 14 ((c + 1 : Nat) : Int)) 224 (48 * r + 4 * c) M) 220 11 = (r : Int) := by rw [hV_setV_a (by decide), hV_setV_i (by decide)]; exact h11
    obtain ⟨Z1, m1, P1, K1, X1, x1, x2, x3⟩ := sr1 _ Z O dp oc m hv2 v11 hz
    obtain ⟨x4, x5, x6, x7⟩ := x3 rfl
    refine ⟨Z1, m1, x2, x7, fun v4 e4 => ?_⟩
    have hv3 : rTp n B (hsetV (hsetV (hsetV v 220 14 ((c + 1 : Nat) : Int)) 224 (48 * r + 4 * c) M) 224 (48 * r + 4 * c + 1) M1) := hv2.set (by decide) (.inl (by decide))
    have hv4 : rTp n B (hsetV (hsetV (hsetV (hsetV v 220 14 ((c + 1 : Nat) : Int)) 224 (48 * r + 4 * c) M) 224 (48 * r + 4 * c + 1) M1) 224 (48 * r + 4 * c + 2) (-1)) := hv3.set (by decide) (.inl (by decide))
    rw [rr1 v Z O dp oc m hv h11 h14 h25, x1, if_pos rfl, hbind_p, hif_p, if_pos (by decide), x4, x5, x6]
    show hbind ((hgR 10 220 5 _) (rS (RX (hsetV (hsetV v 220 14 ((c + 1 : Nat) : Int)) 224 (48 * r + 4 * c) M) r Z1 M1 O k1 dp oc) (p1 : Int) 0 m1)) _ = _
    rw [X_r5 hv2, X_r4 hv2, X_g11 hv2 v11, X_a223 hv2 r6, ix_s i6, X_s224 hv2 (show 48 * r + 4 * c + 1 < 288 by omega), X_r5 hv3, ix_2 i6, X_s224 hv3 (show 48 * r + 4 * c + 2 < 288 by omega), X_cv hv4, e4]
  -- the last steps of the reference
  have l110 : ∀ (v : hS) (Z O : Nat → Int) (M k dp oc P m : Int), rTp n B v → hV v 220 11 = (r : Int) → hV v 225 r = (c : Int) → m_X10_isCrossHere_L110 220 ((48 * r + 4 * c : Nat) : Int) (rS (RX v r Z M O k dp oc) P 0 m) = some (1, rS (RX (hsetV (hsetV v 224 (48 * r + 4 * c + 3) M) 225 r ((c + 1 : Nat) : Int)) r Z M O k dp oc) P 0 m) := fun v Z O M k dp oc P m hv h11 h25 => by
    have hv1 : rTp n B (hsetV v 224 (48 * r + 4 * c + 3) M) := hv.set (by decide) (.inl (by decide))
    have v11 : hV (hsetV v 224 (48 * r + 4 * c + 3) M) 220 11 = (r : Int) := by rw [hV_setV_a (by decide)]; exact h11
    have v25 : hV (hsetV v 224 (48 * r + 4 * c + 3) M) 225 r = (c : Int) := by rw [hV_setV_a (by decide)]; exact h25
    unfold m_X10_isCrossHere_L110
    rw [X_r5 hv, X_r4 hv, X_g11 hv h11, X_a223 hv r6, ix_3 i6, X_s224 hv (show 48 * r + 4 * c + 3 < 288 by omega), X_r6 hv1, X_g11 hv1 v11, X_a225 hv1 r6, v25, X_s225 hv1 r6, ix_s (show c < 1000000 by omega), hretZ_1]
  by_cases wi : isW B n p1 26982
  case neg =>
    -- no test
    rw [if_neg wi] at TW
    refine ⟨0, p1, k1, M1, M1, s2, cd1, op1, hsetV (hsetV (hsetV (hsetV u (Q + 3) c M) (Q + 4) c M1) (Q + 5) c M1) Q 7 ((c + 1 : Nat) : Int), fun F => ?_, sp1, sM1, fq _ _, fun _ => ⟨c1, by omega, ⟨g2.1, by omega, g2.2.2⟩, k16, g3.2.2.1, ⟨g2.1, Nat.le_refl _⟩, g3.2.1, fun y => absurd y (Nat.lt_irrefl _), ck M1⟩, fun v Z O dp oc m hv h11 h14 h25 hz => ?_⟩
    · rw [st1 F]
      show CB2 Q _ (c : Int) (tS (RM (hsetV u (Q + 3) c M) Q cd1 op1 M1 k1) (p1 : Int) s2 0) = _
      rw [cb2 h1 ru1 q54 _ c1, TW, hbind_p, hif_p, if_pos rfl, x_L86 ru2 q54 _ c1, c7]
      rfl
    · obtain ⟨Z1, m1, y1, y2, y3⟩ := rr2 v Z O dp oc m hv h11 h14 h25 hz
      generalize hv4' : hsetV (hsetV (hsetV (hsetV v 220 14 ((c + 1 : Nat) : Int)) 224 (48 * r + 4 * c) M) 224 (48 * r + 4 * c + 1) M1) 224 (48 * r + 4 * c + 2) (-1) = v4 at *
      have hv4 : rTp n B v4 := by
        rw [← hv4']
        exact (((hv.set (by decide) (.inr (by decide))).set (by decide) (.inl (by decide))).set (by decide) (.inl (by decide))).set (by decide) (.inl (by decide))
      have v411 : hV v4 220 11 = (r : Int) := by rw [← hv4', hV_setV_a (by decide), hV_setV_a (by decide), hV_setV_a (by decide), hV_setV_i (by decide)]; exact h11
      have v425 : hV v4 225 r = (c : Int) := by rw [← hv4', hV_setV_a (by decide), hV_setV_a (by decide), hV_setV_a (by decide), hV_setV_a (by decide)]; exact h25
      have T := r_takesWord (RX_tp hv4 r Z1 M1 O k1 dp oc) 26982 0 m1 sp1
      rw [gs, if_neg wi] at T
      refine ⟨hsetV (hsetV v4 224 (48 * r + 4 * c + 3) M1) 225 r ((c + 1 : Nat) : Int), Z1, O, m1, (p1 : Int), (k1 : Int), (M1 : Int), dp, oc, ?_, ?_, y1, fun _ => ⟨⟨rfl, rfl, rfl, y2⟩, ?_⟩⟩
      · rw [y3 v4 rfl, T, hbind_p, hif_p, if_pos rfl, l110 v4 Z1 O M1 k1 dp oc _ m1 hv4 v411 v425, hbind_p, hretZ_1]
        rfl
      · rw [← hv4']
        exact ((((((frR.rf r v).s14 _).s224 _ (by omega) (by omega)).s224 _ (by omega) (by omega)).s224 _ (by omega) (by omega)).s224 _ (by omega) (by omega)).s225 _
      · rw [← hv4']
        refine ⟨?_, hV_setV_s _ _ _ _, ⟨?_, ?_, ?_, ?_⟩, fun i hi => ?_⟩
        · rw [hV_setV_a (by decide), hV_setV_a (by decide), hV_setV_a (by decide), hV_setV_a (by decide), hV_setV_a (by decide), hV_setV_s]
        · rw [hV_setV_a (by decide), hV_setV_i (by omega), hV_setV_i (by omega), hV_setV_i (by omega), hV_setV_s]
        · rw [hV_setV_a (by decide), hV_setV_i (by omega), hV_setV_i (by omega), hV_setV_s]
        · rw [hV_setV_a (by decide), hV_setV_i (by omega), hV_setV_s, if_pos rfl]
        · rw [hV_setV_a (by decide), hV_setV_s]
        · rw [hV_setV_a (by decide), hV_setV_i (by omega), hV_setV_i (by omega), hV_setV_i (by omega), hV_setV_i (by omega), hV_setV_a (by decide)]
  -- a test
  obtain ⟨lt1, wp1, _, _⟩ := isW_lt hB sp1 wi
  have pw1 := (wl_b B sp1).1
  rw [if_pos wi] at TW
  have t1 : tk cd1 op1 M1 M1 [] k1 := ⟨Nat.le_refl _, by rw [Nat.sub_self]; rfl, g3.2.2.1, by show 0 ≤ k1; omega, k16⟩
  obtain ⟨f2, p2, k3, M2, s3', cd2, op2, T1, tp, tM, tg, tr⟩ := j_test hB h2 ru2 q54 r6 t1 (show M1 ≤ p1 + wl B n p1 by omega) pw1 (p1 : Int)
  have st2 : ∀ F, m_X3_read_L23 (F + 1) Q 2 1 (c : Int) (tS (RM u Q cd op M k) (p : Int) s 0) = m_X3_read_L118 (m_X3_read_L23 F) Q 2 (c : Int) (tS (RM (hsetV (hsetV (hsetV (hsetV u (Q + 3) c M) (Q + 4) c M1) (Q + 5) c M2) Q 7 ((c + 1 : Nat) : Int)) Q cd2 op2 M2 k3) (p2 : Int) s3' (f2 : Int)) := fun F => by
    rw [st1 F]
    show CB2 Q _ (c : Int) (tS (RM (hsetV u (Q + 3) c M) Q cd1 op1 M1 k1) (p1 : Int) s2 0) = _
    rw [cb2 h1 ru1 q54 _ c1, TW, hbind_p, hif_p, if_neg n10, hcallV_b (by rw [tS_k, RM_k]; exact ru2.k0), T1, hbind_p, x_L86 ru2 q54 _ c1, c7]
  have rr3 : ∀ (v : hS) (Z O : Nat → Int) (dp oc m : Int), rTp n B v → hV v 220 11 = (r : Int) → hV v 220 14 = (c : Int) → hV v 225 r = (c : Int) → zk r Z cd op M → ∃ v5, v5 = hsetV (hsetV (hsetV (hsetV (hsetV v 220 14 ((c + 1 : Nat) : Int)) 224 (48 * r + 4 * c) M) 224 (48 * r + 4 * c + 1) M1) 224 (48 * r + 4 * c + 2) (-1)) 224 (48 * r + 4 * c + 2) M1 ∧ rTp n B v5 ∧ hV v5 220 11 = (r : Int) ∧ hV v5 225 r = (c : Int) ∧ ∃ Z1 m1, zF r Z Z1 ∧ zk r Z1 cd1 op1 M1 ∧ m_X10_clauseHere 220 (rS (RX v r Z M O k dp oc) (p : Int) 0 m) = hbind (hbind (m_X10_tested 220 (rS (RX v5 r Z1 M1 O k1 dp oc) ((p1 + wl B n p1 : Nat) : Int) 0 m1)) (fun v21 => hif (v21 ≠ 0) (m_X10_isCrossHere_L110 220 ((48 * r + 4 * c : Nat) : Int)) (hretZ 0))) (fun x => hretZ x) := fun v Z O dp oc m hv h11 h14 h25 hz => by
    obtain ⟨Z1, m1, y1, y2, y3⟩ := rr2 v Z O dp oc m hv h11 h14 h25 hz
    generalize hv4' : hsetV (hsetV (hsetV (hsetV v 220 14 ((c + 1 : Nat) : Int)) 224 (48 * r + 4 * c) M) 224 (48 * r + 4 * c + 1) M1) 224 (48 * r + 4 * c + 2) (-1) = v4 at *
    have hv4 : rTp n B v4 := by
      rw [← hv4']
      exact (((hv.set (by decide) (.inr (by decide))).set (by decide) (.inl (by decide))).set (by decide) (.inl (by decide))).set (by decide) (.inl (by decide))
    have v411 : hV v4 220 11 = (r : Int) := by rw [← hv4', hV_setV_a (by decide), hV_setV_a (by decide), hV_setV_a (by decide), hV_setV_i (by decide)]; exact h11
    have v425 : hV v4 225 r = (c : Int) := by rw [← hv4', hV_setV_a (by decide), hV_setV_a (by decide), hV_setV_a (by decide), hV_setV_a (by decide)]; exact h25
    have T := r_takesWord (RX_tp hv4 r Z1 M1 O k1 dp oc) 26982 0 m1 sp1
    rw [gs, if_pos wi] at T
    have hv5 : rTp n B (hsetV v4 224 (48 * r + 4 * c + 2) M1) := hv4.set (by decide) (.inl (by decide))
    refine ⟨hsetV v4 224 (48 * r + 4 * c + 2) M1, rfl, hv5, by rw [hV_setV_a (by decide)]; exact v411, by rw [hV_setV_a (by decide)]; exact v425, Z1, m1, y1, y2, ?_⟩
    rw [y3 v4 rfl, T, hbind_p, hif_p, if_neg n10, X_r5 hv4, X_r4 hv4, X_g11 hv4 v411, X_a223 hv4 r6, ix_2 i6, X_s224 hv4 (show 48 * r + 4 * c + 2 < 288 by omega), X_cv hv5]
  by_cases z2 : f2 = 0
  case neg =>
    refine ⟨f2, p2, k3, M2, 0, s3', cd2, op2, _, st2, tp, tM, fq _ _, fun y => absurd y z2, fun v Z O dp oc m hv h11 h14 h25 hz => ?_⟩
    obtain ⟨v5, e5, hv5, v511, v525, Z1, m1, y1, y2, y3⟩ := rr3 v Z O dp oc m hv h11 h14 h25 hz
    obtain ⟨Z', O', m', p'', k'', M'', dp'', oc'', x1, x2, x3⟩ := tr v5 Z1 O dp oc m1 hv5 v511 y2
    refine ⟨v5, Z', O', m', p'', k'', M'', dp'', oc'', ?_, ?_, y1.tr x2, fun y => absurd y z2⟩
    · rw [y3, x1, if_neg z2, hbind_p, hif_p, if_neg z0, hretZ_0, hbind_p, hretZ_0]
    · rw [e5]
      exact (((((frR.rf r v).s14 _).s224 _ (by omega) (by omega)).s224 _ (by omega) (by omega)).s224 _ (by omega) (by omega)).s224 _ (by omega) (by omega)
  obtain ⟨q1, q2, q3⟩ := tg z2
  subst z2
  have q2' := q2.2.1
  have ne : M1 ≠ M2 := fun e => by
    have := q3.2.1
    rw [← e, Nat.sub_self] at this
    cases this
  refine ⟨0, p2, k3, M2, M1, s3', cd2, op2, _, st2, tp, tM, fq _ _, fun _ => ⟨c1, by omega, ⟨by have := q2.1; omega, by omega, fun j hj => ?_⟩, q3.2.2.2.2, q3.2.2.1, ⟨g2.1, q2.1⟩, ?_, fun _ => q3.2.1, ck M2⟩, fun v Z O dp oc m hv h11 h14 h25 hz => ?_⟩
  · have a1 := q2.2.2 j (by omega)
    have a2 := g2.2.2 j hj
    exact ⟨a1.1.trans a2.1, a1.2.trans a2.2⟩
  · rw [tyL_cg (cd := cd1) (M1 - M) M [] (fun j h1 h2 => (q2.2.2 j (by omega)).1)]
    exact g3.2.1
  · obtain ⟨v5, e5, hv5, v511, v525, Z1, m1, y1, y2, y3⟩ := rr3 v Z O dp oc m hv h11 h14 h25 hz
    obtain ⟨Z', O', m', p'', k'', M'', dp'', oc'', x1, x2, x3⟩ := tr v5 Z1 O dp oc m1 hv5 v511 y2
    obtain ⟨x4, x5, x6, x7⟩ := x3 rfl
    refine ⟨hsetV (hsetV v5 224 (48 * r + 4 * c + 3) M2) 225 r ((c + 1 : Nat) : Int), Z', O', m', (p2 : Int), (k3 : Int), (M2 : Int), dp'', oc'', ?_, ?_, y1.tr x2, fun _ => ⟨⟨rfl, rfl, rfl, x7⟩, ?_⟩⟩
    · rw [y3, x1, if_pos rfl, hbind_p, hif_p, if_pos (by decide), x4, x5, x6]
      show hbind (m_X10_isCrossHere_L110 220 _ (rS (RX v5 r Z' M2 O' k3 dp'' oc'') (p2 : Int) 0 m')) _ = _
      rw [l110 v5 Z' O' M2 k3 dp'' oc'' _ m' hv5 v511 v525, hbind_p, hretZ_1]
      rfl
    · rw [e5]
      exact (((((((frR.rf r v).s14 _).s224 _ (by omega) (by omega)).s224 _ (by omega) (by omega)).s224 _ (by omega) (by omega)).s224 _ (by omega) (by omega)).s224 _ (by omega) (by omega)).s225 _
    · rw [e5]
      refine ⟨?_, hV_setV_s _ _ _ _, ⟨?_, ?_, ?_, ?_⟩, fun i hi => ?_⟩
      · rw [hV_setV_a (by decide), hV_setV_a (by decide), hV_setV_a (by decide), hV_setV_a (by decide), hV_setV_a (by decide), hV_setV_a (by decide), hV_setV_s]
      · rw [hV_setV_a (by decide), hV_setV_i (by omega), hV_setV_i (by omega), hV_setV_i (by omega), hV_setV_i (by omega), hV_setV_s]
      · rw [hV_setV_a (by decide), hV_setV_i (by omega), hV_setV_i (by omega), hV_setV_i (by omega), hV_setV_s]
      · rw [hV_setV_a (by decide), hV_setV_i (by omega), hV_setV_s, if_neg ne]
      · rw [hV_setV_a (by decide), hV_setV_s]
      · rw [hV_setV_a (by decide), hV_setV_i (by omega), hV_setV_i (by omega), hV_setV_i (by omega), hV_setV_i (by omega), hV_setV_i (by omega), hV_setV_a (by decide)]
