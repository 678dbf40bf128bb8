/-! a sum of a rule, both readers -/
/-- from p, M to p', M', with e signs still owed -/
def mvE (e p M : Nat) (cd op : Nat → Int) (p' M' : Nat) (cd' op' : Nat → Int) : Prop := M ≤ M' ∧ M' + p ≤ M + e + p' ∧ ∀ j, j < M → cd' j = cd j ∧ op' j = op j
theorem mv.tE {e p M p1 M1 p2 M2 : Nat} {cd op cd1 op1 cd2 op2 : Nat → Int} (h : mv p M cd op p1 M1 cd1 op1) (k : mvE e p1 M1 cd1 op1 p2 M2 cd2 op2) : mvE e p M cd op p2 M2 cd2 op2 := by
  obtain ⟨h1, h2, h3⟩ := h
  obtain ⟨k1, k2, k3⟩ := k
  exact ⟨by omega, by omega, fun j hj => ⟨(k3 j (by omega)).1.trans (h3 j hj).1, (k3 j (by omega)).2.trans (h3 j hj).2⟩⟩
theorem mvE.tE {e e1 p M p1 M1 p2 M2 : Nat} {cd op cd1 op1 cd2 op2 : Nat → Int} (h : mvE e p M cd op p1 M1 cd1 op1) (k : mvE e1 p1 M1 cd1 op1 p2 M2 cd2 op2) : mvE (e + e1) p M cd op p2 M2 cd2 op2 := by
  obtain ⟨h1, h2, h3⟩ := h
  obtain ⟨k1, k2, k3⟩ := k
  exact ⟨by omega, by omega, fun j hj => ⟨(k3 j (by omega)).1.trans (h3 j hj).1, (k3 j (by omega)).2.trans (h3 j hj).2⟩⟩
def sgR (wt : Int) : Int := if wt = 43 then 2 else 3
/-- the reference, a value behind it and a sign owed -/
def pS (F G : Nat) (wt : Int) : hM := fun st => hbind (m_X10_term_L9 F 220 st) (fun v => hif (v ≠ 0) (if wt = -1 then m_X10_sum_L9 G 220 else hcallV 10 220 (m_X10_puts 220 (sgR wt) 0) fun _ => m_X10_sum_L9 G 220) (hretZ 0))
def eW (wt : Int) : Nat := if wt = -1 then 0 else 1
theorem x_144J {n : Nat} {B : Nat → Int} {u : hS} (h : cTp n B u) {Q : Nat} (ru : RuA u Q) (q54 : 54 ≤ Q) (wt : Int) (cd op : Nat → Int) {M : Nat} (hM : M ≤ 400) (k p s f : Int) : ∃ (cd' op' : Nat → Int) (M' : Nat), M' ≤ 400 ∧ m_X3_readSum_L144 Q wt (tS (RM u Q cd op M k) p s f) = some (0, tS (RM u Q cd' op' (M' : Int) k) p s f) := by
  by_cases w : wt = -1
  · refine ⟨cd, op, M, hM, ?_⟩
    unfold m_X3_readSum_L144
    rw [hif_p, if_pos w]
    rfl
  · obtain ⟨cd', op', M', h1, h2⟩ := x_emitJ ru q54 cd op hM k p s f wt 0
    refine ⟨cd', op', M', h1, ?_⟩
    unfold m_X3_readSum_L144
    rw [hif_p, if_neg w, hcallV_b (by rw [tS_k, RM_k]; exact ru.k0), h2, hbind_p]
    rfl
theorem x_sumF {n : Nat} {B : Nat → Int} {u : hS} (h : cTp n B u) {Q : Nat} (ru : RuA u Q) (q54 : 54 ≤ Q) (wt : Int) (cd op : Nat → Int) {M : Nat} (hM : M ≤ 400) (k s : Int) {f : Int} (hf : f ≠ 0) {p : Nat} (hp : p ≤ n) (c : Int) (F : Nat) : ∃ (cd' op' : Nat → Int) (M' p' : Nat), M' ≤ 400 ∧ p' ≤ n ∧ m_X3_readSum_L12 (F + 2) Q 2 wt 1 c (tS (RM u Q cd op M k) (p : Int) s f) = some (0, tS (RM u Q cd' op' (M' : Int) k) (p' : Int) s f) := by
  have h0 := RM_tp h q54 cd op M k
  by_cases c4 : c ≥ 400
  · obtain ⟨cd', op', M', h1, h2⟩ := x_144J h ru q54 wt cd op hM k (p : Int) s f
    refine ⟨cd', op', M', p, h1, hp, ?_⟩
    rw [m_X3_readSum_L12, hif_p, if_neg (by decide), hif_p, if_pos c4, h2]
  · obtain ⟨cd', op', M', h1, h2⟩ := x_144J h ru q54 wt cd op hM k ((sk B n p : Nat) : Int) s f
    refine ⟨cd', op', M', sk B n p, h1, (sk_le B hp).2, ?_⟩
    have k2 : ∀ P, okk (tS (RM u Q cd op M k) P s f) 2 6 := fun P => by rw [tS_k, RM_k]; exact kk_2 h.1
    rw [m_X3_readSum_L12, hif_p, if_neg (by decide), hif_p, if_neg c4, hcallV_b (k2 _), c_next h0 s f hp, hbind_p, hlet_p, hgI_k (k2 _), tS_4, hif_p, if_pos hf]
    unfold m_X3_readSum_L83 m_X3_readSum_L136 m_X3_readSum_L138
    rw [hgI_k (k2 _), tS_4, hif_p, if_pos hf, hlet_p, hlet_p, m_X3_readSum_L12, hif_p, if_pos rfl, h2]
theorem pS_t {n : Nat} {B : Nat → Int} {r : Nat} (r6 : r < 6) (v : hS) (hv : rTp n B v) (Z O : Nat → Int) (M k dp oc m : Int) {p : Nat} (hp : p ≤ n) (F : Nat) (hc : ¬ (chr B n (sk B n p) = 42 ∨ chr B n (sk B n p) = 47 ∨ chr B n (sk B n p) = 37)) : m_X10_term_L9 (F + 1) 220 (rS (RX v r Z M O k dp oc) (p : Int) 0 m) = some (1, rS (RX v r Z M O k dp oc) ((sk B n p : Nat) : Int) 0 m) := by
  have hx := RX_tp hv r Z M O k dp oc
  have s1 := sk_le B hp
  have S2 := r_see hx 0 m s1.2
  rw [sk_sk B hp] at S2
  rw [m_X10_term_L9, X_cv hv, r_see hx 0 m hp, hbind_p, hif_p, if_neg (fun z => hc (.inl z)), X_cv hv, S2, hbind_p, hif_p, if_neg (fun z => hc (.inr (.inl z))), X_cv hv, S2, hbind_p, hif_p, if_pos (fun z => hc (.inr (.inr z))), hretZ_1]
def sgT (c : Int) : Int := if c = 42 then 4 else if c = 47 then 5 else 14
theorem pS_m {n : Nat} {B : Nat → Int} (hB : byB B n) {r : Nat} (r6 : r < 6) (v : hS) (hv : rTp n B v) (h11 : hV v 220 11 = (r : Int)) (Z O : Nat → Int) (M k dp oc m : Int) {p : Nat} (hp : p ≤ n) (F : Nat) (hc : chr B n (sk B n p) = 42 ∨ chr B n (sk B n p) = 47 ∨ chr B n (sk B n p) = 37) : m_X10_term_L9 (F + 1) 220 (rS (RX v r Z M O k dp oc) (p : Int) 0 m) = hbind (m_X10_value 220 (rS (RX v r Z M O k dp oc) ((sk B n p + 1 : Nat) : Int) 0 m)) (fun v3 => hif (v3 ≠ 0) (hcallV 10 220 (m_X10_puts 220 (sgT (chr B n (sk B n p))) 0) fun _ => m_X10_term_L9 F 220) (hretZ 0)) := by
  have hx := RX_tp hv r Z M O k dp oc
  have s1 := sk_le B hp
  have n4 := hv.2.2.2
  have S2 := r_see hx 0 m s1.2
  rw [sk_sk B hp] at S2
  have lt : sk B n p < n := chr_lt (B := B) (by omega)
  have q6 : sk B n p < 1000000 := by omega
  have st : m_X10_term_L9 (F + 1) 220 (rS (RX v r Z M O k dp oc) (p : Int) 0 m) = m_X10_term_L36 (m_X10_term_L9 F) 220 (rS (RX v r Z M O k dp oc) ((sk B n p : Nat) : Int) 0 m) := by
    rw [m_X10_term_L9, X_cv hv, r_see hx 0 m hp, hbind_p, hif_p]
    by_cases c1 : chr B n (sk B n p) = 42
    · rw [if_pos c1]
    · rw [if_neg c1, X_cv hv, S2, hbind_p, hif_p]
      by_cases c2 : chr B n (sk B n p) = 47
      · rw [if_pos c2]
      · rw [if_neg c2, X_cv hv, S2, hbind_p, hif_p, if_neg (fun z => by omega)]
  have b : ∀ c : Int, 0 ≤ c → c ≤ 127 → (chr B n (sk B n p) = c ↔ B (sk B n p) = c) := fun c c0 c1 => by
    rw [chr_c hB c0 c1]
    exact ⟨fun z => z.2, fun z => ⟨lt, z⟩⟩
  have b42 := b 42 (by decide) (by decide)
  have b47 := b 47 (by decide) (by decide)
  have l74 : ∀ x : Int, m_X10_term_L74 (m_X10_term_L9 F) 220 x (rS (RX v r Z M O k dp oc) ((sk B n p : Nat) : Int) 0 m) = hbind (m_X10_value 220 (rS (RX v r Z M O k dp oc) ((sk B n p + 1 : Nat) : Int) 0 m)) (fun v3 => hif (v3 ≠ 0) (hcallV 10 220 (m_X10_puts 220 x 0) fun _ => m_X10_term_L9 F 220) (hretZ 0)) := fun x => by
    unfold m_X10_term_L74
    rw [hlet_p, X_g8 hv, X_p8 hv, ix_s q6, X_cv hv]
  rw [st]
  unfold m_X10_term_L36 sgT
  rw [X_r0 hv, X_g8 hv, X_a221 hv lt, hif_p]
  by_cases c1 : chr B n (sk B n p) = 42
  · rw [if_pos c1, if_neg (fun z => z (b42.1 c1)), l74]
  · rw [if_neg c1, if_pos (fun z => c1 (b42.2 z)), X_r0 hv, X_g8 hv, X_a221 hv lt, hif_p]
    by_cases c2 : chr B n (sk B n p) = 47
    · rw [if_pos c2, if_neg (fun z => z (b47.1 c2)), l74]
    · rw [if_neg c2, if_pos (fun z => c2 (b47.2 z)), l74]
theorem pS_a {n : Nat} {B : Nat → Int} (hB : byB B n) {r : Nat} (r6 : r < 6) (v : hS) (hv : rTp n B v) (h11 : hV v 220 11 = (r : Int)) (Z O : Nat → Int) (M k dp oc m : Int) {p : Nat} (hp : p ≤ n) (G : Nat) (ss : sk B n p = p) (hc : chr B n p = 43 ∨ chr B n p = 45) : m_X10_sum_L9 (G + 1) 220 (rS (RX v r Z M O k dp oc) (p : Int) 0 m) = hbind (m_X10_value 220 (rS (RX v r Z M O k dp oc) ((p + 1 : Nat) : Int) 0 m)) (fun v1 st => hbind ((hif (v1 ≠ 0) (m_X10_term_L9 1000000000 220) (hretZ 0)) st) (fun v3 => hif (v3 ≠ 0) (hcallV 10 220 (m_X10_puts 220 (sgR (chr B n p)) 0) fun _ => m_X10_sum_L9 G 220) (hretZ 0))) := by
  have hx := RX_tp hv r Z M O k dp oc
  have n4 := hv.2.2.2
  have S2 := r_see hx 0 m hp
  rw [ss] at S2
  have lt : p < n := chr_lt (B := B) (by omega)
  have q6 : p < 1000000 := by omega
  have st : m_X10_sum_L9 (G + 1) 220 (rS (RX v r Z M O k dp oc) (p : Int) 0 m) = m_X10_sum_L27 (m_X10_sum_L9 G) 220 (rS (RX v r Z M O k dp oc) (p : Int) 0 m) := by
    rw [m_X10_sum_L9, X_cv hv, S2, hbind_p, hif_p]
    by_cases c1 : chr B n p = 43
    · rw [if_pos c1]
    · rw [if_neg c1, X_cv hv, S2, hbind_p, hif_p, if_neg (fun z => by omega)]
  have b43 : chr B n p = 43 ↔ B p = 43 := by
    rw [chr_c hB (by decide) (by decide)]
    exact ⟨fun z => z.2, fun z => ⟨lt, z⟩⟩
  have l46 : ∀ x : Int, m_X10_sum_L46 (m_X10_sum_L9 G) 220 x (rS (RX v r Z M O k dp oc) (p : Int) 0 m) = hbind (m_X10_value 220 (rS (RX v r Z M O k dp oc) ((p + 1 : Nat) : Int) 0 m)) (fun v1 st => hbind ((hif (v1 ≠ 0) (m_X10_term_L9 1000000000 220) (hretZ 0)) st) (fun v3 => hif (v3 ≠ 0) (hcallV 10 220 (m_X10_puts 220 x 0) fun _ => m_X10_sum_L9 G 220) (hretZ 0))) := fun x => by
    unfold m_X10_sum_L46
    rw [hlet_p, X_g8 hv, X_p8 hv, ix_s q6, X_cv hv]
    unfold m_X10_term
    rw [X_cv hv]
    generalize m_X10_value 220 (rS (RX v r Z M O k dp oc) ((p + 1 : Nat) : Int) 0 m) = y
    cases y with
    | none => rfl
    | some y => rfl
  rw [st]
  unfold m_X10_sum_L27 sgR
  rw [X_r0 hv, X_g8 hv, X_a221 hv lt, hif_p]
  by_cases c1 : chr B n p = 43
  · rw [if_pos c1, if_neg (fun z => z (b43.1 c1)), l46]
  · rw [if_neg c1, if_pos (fun z => c1 (b43.2 z)), l46]
theorem pS_e {n : Nat} {B : Nat → Int} {r : Nat} (r6 : r < 6) (v : hS) (hv : rTp n B v) (Z O : Nat → Int) (M k dp oc m : Int) {p : Nat} (hp : p ≤ n) (G : Nat) (ss : sk B n p = p) (hc : ¬ (chr B n p = 43 ∨ chr B n p = 45)) : m_X10_sum_L9 (G + 1) 220 (rS (RX v r Z M O k dp oc) (p : Int) 0 m) = some (1, rS (RX v r Z M O k dp oc) (p : Int) 0 m) := by
  have hx := RX_tp hv r Z M O k dp oc
  have S2 := r_see hx 0 m hp
  rw [ss] at S2
  rw [m_X10_sum_L9, X_cv hv, S2, hbind_p, hif_p, if_neg (fun z => hc (.inl z)), X_cv hv, S2, hbind_p, hif_p, if_pos (fun z => hc (.inr z)), hretZ_1]
