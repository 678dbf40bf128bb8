/-! the whole bond of a standing and a row -/
def twn (S : Nat → Int) : Nat → Int := fun k => if k = 0 ∨ k = 2 ∨ 94 ≤ k ∧ k < 112 then S k else 0
def qTwin (S : Nat → Int) (b : Nat) : Int := accN (fun c a => if qEnd S (94 + 2 * c) (S (94 + 2 * b)) = S (95 + 2 * b) then iorZ a (ishlZ 1 c) else a) b 0 0
def wlk (S : Nat → Int) : Nat → Int → Int → Prop
  | 0, q, r => q = r
  | k + 1, q, r => ∃ b : Nat, (b : Int) < S 2 ∧ 0 ≤ qEnd S (94 + 2 * b) q ∧ wlk S k (qEnd S (94 + 2 * b) q) r
def isDist (S : Nat → Int) (q r : Nat) (d : Int) : Prop := (d = 99 ∧ ∀ k, ¬ wlk S k q r) ∨ ∃ k : Nat, d = k ∧ (k : Int) < S 0 ∧ wlk S k q r ∧ ∀ j, j < k → ¬ wlk S j q r
def RepW0 (u : hS) (t : Nat) (S : Nat → Int) : Prop := (∀ b : Nat, (b : Int) < S 2 → hV u (t + 4) b = qTwin S b) ∧ (∀ q r : Nat, (q : Int) < S 0 → (r : Int) < S 0 → isDist S q r (hV u (t + 17) (8 * q + r))) ∧ (0 < S 2 → 1 ≤ hV u t 1) ∧ ∀ b : Nat, (b : Int) < S 2 → S (94 + 2 * b) ≠ S (95 + 2 * b)
def WV (S : Nat → Int) : Prop :=
  (∀ b : Nat, (b : Int) < S 2 → (0 ≤ S (94 + 2 * b) ∧ S (94 + 2 * b) < S 0) ∧ 0 ≤ S (94 + 2 * b + 1) ∧ S (94 + 2 * b + 1) < S 0) ∧
  (∀ b : Nat, (b : Int) < S 3 → (0 ≤ S (112 + 2 * b) ∧ S (112 + 2 * b) < S 0) ∧ 0 ≤ S (112 + 2 * b + 1) ∧ S (112 + 2 * b + 1) < S 0) ∧
  (∀ p : Nat, (p : Int) < S 4 → (0 ≤ S (10 + 3 * p) ∧ S (10 + 3 * p) < S 0) ∧ (0 ≤ S (11 + 3 * p) ∧ S (11 + 3 * p) < S 0) ∧ 0 ≤ S (12 + 3 * p) ∧ S (12 + 3 * p) ≤ 1000 * S 6) ∧
  (∀ p b : Nat, (p : Int) < S 4 → (b : Int) < S 2 → 0 ≤ S (58 + 9 * p + b) ∧ S (58 + 9 * p + b) ≤ S (22 + 9 * p + b) ∧ S (22 + 9 * p + b) ≤ S 1) ∧
  (∀ w : Nat, (w : Int) < S 5 → (0 ≤ S (128 + 4 * w) ∧ S (128 + 4 * w) < S 4) ∧ (0 ≤ S (129 + 4 * w) ∧ S (129 + 4 * w) < S 0) ∧ (0 ≤ S (130 + 4 * w) ∧ S (130 + 4 * w) ≤ 99) ∧ 0 ≤ S (131 + 4 * w) ∧ S (131 + 4 * w) ≤ 99)
def RepF (u : hS) (s t : Nat) (S : Nat → Int) : Prop := RepS u s t S ∧ (t = 12 ∨ 243 ≤ t) ∧ RepW0 u t (twn S) ∧ WS S ∧ WV S
theorem RepW0.fr {u v : hS} {t : Nat} {S : Nat → Int} (h : RepW0 u t S) (gt : ∀ a, t ≤ a → a ≤ t + 17 → agr u v a) : RepW0 v t S :=
  ⟨fun b k => (gt (t + 4) (by omega) (by omega) b).1.trans (h.1 b k), fun q r k l => by
    rw [(gt (t + 17) (by omega) (by omega) _).1]
    exact h.2.1 q r k l, fun k => by
    rw [(gt t (by omega) (by omega) _).1]
    exact h.2.2.1 k, h.2.2.2⟩
theorem RepF.fr {u v : hS} {s t : Nat} {S : Nat → Int} (h : RepF u s t S) (e : ext u v) (gs : ∀ a, s ≤ a → a ≤ s + 4 → agr u v a) (gt : ∀ a, t ≤ a → a ≤ t + 17 → agr u v a) : RepF v s t S :=
  ⟨h.1.fr e gs gt, h.2.1, h.2.2.1.fr gt, h.2.2.2⟩
theorem RepF.cpo {u v : hS} {d s s' t : Nat} {S : Nat → Int} (h : RepF u s' t S) (c : CpF u v d s) (pd : StP d) (ds : d + 5 ≤ s' ∨ s' + 5 ≤ d) : RepF v s' t S :=
  h.fr c.1 (fun a _ _ => c.2.1 a (by omega)) (fun a _ _ => c.2.1 a (by have := h.2.1; have := pd.2.2; omega))
theorem RepF.cp {u v : hS} {d s t : Nat} {S : Nat → Int} (h : RepF u s t S) (c : CpF u v d s) (pd : StP d) : RepF v d t S :=
  ⟨h.1.cp h.2.2.2.1 pd c (by have := h.2.1; have := pd.2.2; omega), h.2.1, h.2.2.1.fr (fun a _ _ => c.2.1 a (by have := h.2.1; have := pd.2.2; omega)), h.2.2.2⟩
/-! what was, kept for undoing -/
def pst (f j : Nat) : Nat := 96 + 5 * ((f + j) % 20)
def wS (T W : Nat → Int) (j : Nat) : Nat → Int := fun k => if k < 94 then W (94 * j + k) else T k
def RepU (u : hS) (t : Nat) (T W : Nat → Int) (c : Nat) : Prop := ∃ f : Nat, f < 20 ∧ hV u 1 6 = f ∧ c ≤ 20 ∧ hV u 1 7 = c ∧ ∀ j, j < c → RepF u (pst f j) t (wS T W j)
theorem rf_past {u : hS} (hs : shp u) : ∀ k, k < 20 → hF u 5 k = 96 + 5 * k := by
  intro k hk
  have h : k = 0 ∨ k = 1 ∨ k = 2 ∨ k = 3 ∨ k = 4 ∨ k = 5 ∨ k = 6 ∨ k = 7 ∨ k = 8 ∨ k = 9 ∨ k = 10 ∨ k = 11 ∨ k = 12 ∨ k = 13 ∨ k = 14 ∨ k = 15 ∨ k = 16 ∨ k = 17 ∨ k = 18 ∨ k = 19 := by omega
  rcases h with rfl | rfl | rfl | rfl | rfl | rfl | rfl | rfl | rfl | rfl | rfl | rfl | rfl | rfl | rfl | rfl | rfl | rfl | rfl | rfl
  · exact rf_5_0 hs
  · exact rf_5_1 hs
  · exact rf_5_2 hs
  · exact rf_5_3 hs
  · exact rf_5_4 hs
  · exact rf_5_5 hs
  · exact rf_5_6 hs
  · exact rf_5_7 hs
  · exact rf_5_8 hs
  · exact rf_5_9 hs
  · exact rf_5_10 hs
  · exact rf_5_11 hs
  · exact rf_5_12 hs
  · exact rf_5_13 hs
  · exact rf_5_14 hs
  · exact rf_5_15 hs
  · exact rf_5_16 hs
  · exact rf_5_17 hs
  · exact rf_5_18 hs
  · exact rf_5_19 hs
theorem irem_n {a : Nat} : iremZ (a : Int) 20 = ((a % 20 : Nat) : Int) := by
  unfold iremZ
  rw [Int.tmod_eq_emod_of_nonneg (by omega)]
  omega
def okAct (u v : hS) : Prop := ext u v ∧ shp v ∧ (∀ a, ¬ (a = 1 ∨ 30 ≤ a ∧ a ≤ 34 ∨ 96 ≤ a ∧ a ≤ 195) → agr u v a) ∧ (∀ i, i ≠ 6 → i ≠ 7 → hV v 1 i = hV u 1 i) ∧ ∀ i, hF v 1 i = hF u 1 i
theorem okAct.rf {u : hS} (hs : shp u) : okAct u u := ⟨ext.rf u, hs, fun _ _ _ => ⟨rfl, rfl⟩, fun _ _ _ => rfl, fun _ => rfl⟩
theorem okAct.tr {u v w : hS} (h : okAct u v) (k : okAct v w) : okAct u w := ⟨h.1.tr k.1, k.2.1, fun a z => (h.2.2.1 a z).tr (k.2.2.1 a z), fun i a b => (k.2.2.2.1 i a b).trans (h.2.2.2.1 i a b), fun i => (k.2.2.2.2 i).trans (h.2.2.2.2 i)⟩
theorem hnz_20 {P : hM} {u : hS} : hnz 20 P u = P u := if_neg (by decide)
theorem wS_keep_lt {T W S : Nat → Int} {c j : Nat} (hc : c < 20) (h : j < c) : wS T (qKeep W c S) j = wS T W j := by
  funext k
  unfold wS qKeep
  rw [if_neg (show ¬ c = 20 by omega)]
  by_cases h1 : k < 94
  · rw [if_pos h1, if_pos h1, if_neg (by omega)]
  · rw [if_neg h1, if_neg h1]
theorem wS_keep_c {W S : Nat → Int} {c : Nat} (hc : c < 20) : wS S (qKeep W c S) c = S := by
  funext k
  unfold wS qKeep
  rw [if_neg (show ¬ c = 20 by omega)]
  by_cases h1 : k < 94
  · rw [if_pos h1, if_pos (by omega)]
    congr 1
    omega
  · rw [if_neg h1]
theorem wS_keep_20 {T W S : Nat → Int} {j : Nat} (h : j < 19) : wS T (qKeep W 20 S) j = wS T W (j + 1) := by
  funext k
  unfold wS qKeep
  rw [if_pos rfl]
  by_cases h1 : k < 94
  · rw [if_pos h1, if_pos h1, if_pos (by omega)]
    congr 1
    omega
  · rw [if_neg h1, if_neg h1]
theorem wS_keep_19 {W S : Nat → Int} : wS S (qKeep W 20 S) 19 = S := by
  funext k
  unfold wS qKeep
  rw [if_pos rfl]
  by_cases h1 : k < 94
  · rw [if_pos h1, if_neg (by omega), if_pos (by omega), show 94 * 19 + k - 1786 = k by omega]
  · rw [if_neg h1]
theorem x_keepAct {u : hS} {t c : Nat} {S W : Nat → Int} (hs : shp u) (r : RepF u 30 t S) (ru : RepU u t S W c) : ∃ v, m_X9_keepAct 1 u = some (0, v) ∧ okAct u v ∧ RepF v 30 t S ∧ RepU v t S (qKeep W c S) (qKeepN c) ∧ ∀ a, 30 ≤ a → a ≤ 34 → agr u v a := by
  obtain ⟨f, hf, h6, hc, h7, hp⟩ := ru
  have hlt : (f + c) % 20 < 20 := Nat.mod_lt _ (by decide)
  have pd := stp_past ((f + c) % 20) hlt
  obtain ⟨v, hv, cf⟩ := x_copy hs pd stp_30 (Or.inr (by omega))
  have hs' : shp v := cf.2.2.2.2.2.2.2.2
  have w1 : w32 ((f : Int) + (c : Int)) = ((f + c : Nat) : Int) := ix_n (by omega)
  have g1 : ∀ a, a < 96 → agr u v a := fun a ha => cf.2.1 a (by omega)
  have v7 : hV v 1 7 = c := (g1 1 (by omega) 7).1.trans h7
  have v6 : hV v 1 6 = f := (g1 1 (by omega) 6).1.trans h6
  have r30 : RepF v 30 t S := r.cpo cf pd (by omega)
  have tz := r.2.1
  have fin : ∀ (i : Nat) (x : Int), i = 6 ∨ i = 7 → okAct u (hsetV v 1 i x) ∧ RepF (hsetV v 1 i x) 30 t S ∧ ∀ a, 30 ≤ a → a ≤ 34 → agr u (hsetV v 1 i x) a := by
    intro i x hi
    refine ⟨⟨cf.1.tr (ext.setV _ _ _ _), hs', fun a ha => (cf.2.1 a (by omega)).tr (agr.setV (by omega)), fun k k6 k7 => ?_, fun k => (g1 1 (by omega) k).2⟩, r30.fr (ext.setV _ _ _ _) (fun a _ _ => agr.setV (by omega)) (fun a _ _ => agr.setV (by omega)), fun a _ _ => (g1 a (by omega)).tr (agr.setV (by omega))⟩
    rw [hV_setV_i (by omega)]
    exact (g1 1 (by omega) k).1
  have hcond : (f + c) % 20 < 20 := hlt
  simp only [m_X9_keepAct_L59, m_X9_keepAct, hgI_k, hgR_k, hpI_k, hpR_k, hpZ_k, haI_k, haR_k, hsI_k, hsZ_k, hlen_k, hlet_e, hret_e, hretZ_0, hretZ_1, hif_e, okk_setV, okk_setF, nV, nF, fV, vF, hnz_20, haR_n, hcallV_b, hbind_s, kk_1 hs, kk_5 hs, rf_1_3 hs, rf_1_5 hs, ln_5 hs, h6, h7, w1, irem_n, hcond, rf_past hs _ hlt, StA.k0 (pd.1 u hs), hv, kk_1 hs', v7, v6]
  by_cases h20 : c = 20
  · subst h20
    rw [if_pos (by decide), ix_s (by omega), irem_n]
    refine ⟨_, rfl, (fin 6 _ (Or.inl rfl)).1, (fin 6 _ (Or.inl rfl)).2.1, ?_, (fin 6 _ (Or.inl rfl)).2.2⟩
    refine ⟨(f + 1) % 20, Nat.mod_lt _ (by decide), hV_setV_s _ _ _ _, by decide, ?_, ?_⟩
    · rw [hV_setV_i (by decide)]
      exact v7
    · intro j hj
      have hj : j < 20 := hj
      by_cases h19 : j = 19
      · subst h19
        rw [wS_keep_19, show pst ((f + 1) % 20) 19 = 96 + 5 * ((f + 20) % 20) by unfold pst; omega]
        exact (r.cp cf pd).fr (ext.setV _ _ _ _) (fun a _ _ => agr.setV (by omega)) (fun a _ _ => agr.setV (by omega))
      · rw [wS_keep_20 (by omega), show pst ((f + 1) % 20) j = pst f (j + 1) by unfold pst; omega]
        have z : 96 + 5 * ((f + 20) % 20) + 5 ≤ pst f (j + 1) ∨ pst f (j + 1) + 5 ≤ 96 + 5 * ((f + 20) % 20) := by unfold pst; omega
        have z2 : 96 ≤ pst f (j + 1) := by unfold pst; omega
        exact ((hp (j + 1) (by omega)).cpo cf pd z).fr (ext.setV _ _ _ _) (fun a _ _ => agr.setV (by omega)) (fun a _ _ => agr.setV (by omega))
  · rw [if_neg (by omega), ix_s (by omega)]
    refine ⟨_, rfl, (fin 7 _ (Or.inr rfl)).1, (fin 7 _ (Or.inr rfl)).2.1, ?_, (fin 7 _ (Or.inr rfl)).2.2⟩
    have hq : qKeepN c = c + 1 := if_neg h20
    rw [hq]
    refine ⟨f, hf, ?_, by omega, hV_setV_s _ _ _ _, ?_⟩
    · rw [hV_setV_i (by decide)]
      exact v6
    · intro j hj
      by_cases hjc : j = c
      · subst hjc
        rw [wS_keep_c (by omega)]
        exact (r.cp cf pd).fr (ext.setV _ _ _ _) (fun a _ _ => agr.setV (by omega)) (fun a _ _ => agr.setV (by omega))
      · rw [wS_keep_lt (by omega) (by omega)]
        have z : 96 + 5 * ((f + c) % 20) + 5 ≤ pst f j ∨ pst f j + 5 ≤ 96 + 5 * ((f + c) % 20) := by unfold pst; omega
        have z2 : 96 ≤ pst f j := by unfold pst; omega
        exact ((hp j (by omega)).cpo cf pd z).fr (ext.setV _ _ _ _) (fun a _ _ => agr.setV (by omega)) (fun a _ _ => agr.setV (by omega))
