/-! rules reckoned: what both sides reckon -/
def jn (c a b : Int) : Int :=
  if c = 43 then w64 (a + b) else if c = 45 then w64 (a - b) else if c = 42 then w64 (a * b) else if c = 47 then (if b = 0 then 0 else ldivZ a b) else if c = 37 then (if b = 0 then 0 else lremZ a b) else if c = 38 then landZ a b else if c = 124 then lorZ a b else if c = 60 then (if a < b then 1 else 0) else if c = 108 then (if a ≤ b then 1 else 0) else if c = 61 then (if a = b then 1 else 0) else if c = 103 then (if b ≤ a then 1 else 0) else (if b < a then 1 else 0)
abbrev isNum (c : Int) : Prop := c = 43 ∨ c = 45 ∨ c = 42 ∨ c = 47 ∨ c = 37
abbrev isCmp (c : Int) : Prop := c = 60 ∨ c = 108 ∨ c = 61 ∨ c = 103 ∨ c = 62
abbrev isLog (c : Int) : Prop := c = 38 ∨ c = 124
/-- the kinds on the stack: true for a test's answer -/
def tyS (c : Int) (st : List Bool) : Option (List Bool) :=
  if c = 0 ∨ c = 1 then (if st.length < 60 then some (false :: st) else none)
  else if c = 2 then (match st with
    | true :: r => some (true :: r)
    | _ => none)
  else if isLog c then (match st with
    | true :: true :: r => some (true :: r)
    | _ => none)
  else if isNum c then (match st with
    | false :: false :: r => some (false :: r)
    | _ => none)
  else if isCmp c then (match st with
    | false :: false :: r => some (true :: r)
    | _ => none)
  else none
def tyL (cd : Nat → Int) : Nat → Nat → List Bool → Option (List Bool)
  | 0, _, st => some st
  | k + 1, i, st => match tyS (cd i) st with
    | some st1 => tyL cd k (i + 1) st1
    | none => none
/-- the sign that the reference keeps -/
def sgn (c o : Int) : Int :=
  if c = 0 then 16 * o else if c = 1 then 1 + 16 * o else if c = 2 then 11 else if c = 43 then 2 else if c = 45 then 3 else if c = 42 then 4 else if c = 47 then 5 else if c = 37 then 14 else if c = 60 then 6 else if c = 108 then 7 else if c = 61 then 8 else if c = 103 then 9 else if c = 62 then 10 else if c = 38 then 12 else 13
def okO (c o : Int) : Prop := (c = 0 → 0 ≤ o ∧ o ≤ 99999) ∧ (c = 1 → 0 ≤ o ∧ o ≤ 11)
/-- what a step's kinds say -/
theorem tyS_in {c : Int} {st st1 : List Bool} (h : tyS c st = some st1) : ((c = 0 ∨ c = 1) ∧ st.length < 60 ∧ st1 = false :: st) ∨ (c = 2 ∧ ∃ r, st = true :: r ∧ st1 = true :: r) ∨ (isLog c ∧ ∃ r, st = true :: true :: r ∧ st1 = true :: r) ∨ (isNum c ∧ ∃ r, st = false :: false :: r ∧ st1 = false :: r) ∨ (isCmp c ∧ ∃ r, st = false :: false :: r ∧ st1 = true :: r) := by
  unfold tyS at h
  split at h
  · rename_i h1
    split at h
    · rename_i h2
      injection h with h
      exact Or.inl ⟨h1, h2, h.symm⟩
    · exact absurd h (by simp)
  · split at h
    · rename_i h1 h2
      split at h
      · rename_i r
        injection h with h
        exact Or.inr (Or.inl ⟨h2, r, rfl, h.symm⟩)
      · exact absurd h (by simp)
    · split at h
      · rename_i h1 h2 h3
        split at h
        · rename_i r
          injection h with h
          exact Or.inr (Or.inr (Or.inl ⟨h3, r, rfl, h.symm⟩))
        · exact absurd h (by simp)
      · split at h
        · rename_i h1 h2 h3 h4
          split at h
          · rename_i r
            injection h with h
            exact Or.inr (Or.inr (Or.inr (Or.inl ⟨h4, r, rfl, h.symm⟩)))
          · exact absurd h (by simp)
        · split at h
          · rename_i h1 h2 h3 h4 h5
            split at h
            · rename_i r
              injection h with h
              exact Or.inr (Or.inr (Or.inr (Or.inr ⟨h5, r, rfl, h.symm⟩)))
            · exact absurd h (by simp)
          · exact absurd h (by simp)
theorem tyL_s {cd : Nat → Int} {k i : Nat} {st st' : List Bool} (h : tyL cd (k + 1) i st = some st') : ∃ st1, tyS (cd i) st = some st1 ∧ tyL cd k (i + 1) st1 = some st' := by
  have e : tyL cd (k + 1) i st = match tyS (cd i) st with
    | some st1 => tyL cd k (i + 1) st1
    | none => none := rfl
  rw [e] at h
  cases hz : tyS (cd i) st with
  | some st1 =>
    rw [hz] at h
    exact ⟨st1, rfl, h⟩
  | none =>
    rw [hz] at h
    exact absurd h (by simp)
/-- one step on the stack -/
def evD (c o : Int) (W D : Nat → Int) (n : Nat) : Nat → Int := if c = 0 then sup D n o else if c = 1 then sup D n (W o.toNat) else if c = 2 then sup D (n - 1) (if D (n - 1) = 0 then 1 else 0) else sup D (n - 2) (jn c (D (n - 2)) (D (n - 1)))
def evN (c : Int) (n : Nat) : Nat := if c = 0 ∨ c = 1 then n + 1 else if c = 2 then n else n - 1
def evR (cd op W : Nat → Int) : Nat → Nat → (Nat → Int) → Nat → Nat → Int
  | 0, _, D, _ => D
  | k + 1, i, D, n => evR cd op W k (i + 1) (evD (cd i) (op i) W D n) (evN (cd i) n)
/-- the kinds hold of the numbers -/
def typ (D : Nat → Int) : List Bool → Prop
  | [] => True
  | b :: r => (b = true → D r.length = 0 ∨ D r.length = 1) ∧ typ D r
theorem typ_sup {D : Nat → Int} {x : Int} : ∀ (st : List Bool) (n : Nat), st.length ≤ n → typ D st → typ (sup D n x) st := by
  intro st
  induction st with
  | nil =>
    intro n _ _
    trivial
  | cons b r ih =>
    intro n h t
    have hl : r.length + 1 ≤ n := h
    refine ⟨fun z => ?_, ih n (by omega) t.2⟩
    rw [sup_n (by omega)]
    exact t.1 z
theorem jn_cmp {c : Int} (h : isCmp c) (a b : Int) : jn c a b = 0 ∨ jn c a b = 1 := by
  unfold jn
  rcases h with rfl | rfl | rfl | rfl | rfl
  all_goals
    repeat rw [if_neg (by decide)]
    try rw [if_pos rfl]
    split
    · exact Or.inr rfl
    · exact Or.inl rfl
theorem jn_log {c a b : Int} (h : isLog c) (ha : a = 0 ∨ a = 1) (hb : b = 0 ∨ b = 1) : jn c a b = 0 ∨ jn c a b = 1 := by
  rcases h with rfl | rfl <;> rcases ha with rfl | rfl <;> rcases hb with rfl | rfl <;> decide
theorem ev_ty1 {c o : Int} {W D : Nat → Int} {st st1 : List Bool} (h : tyS c st = some st1) (t : typ D st) : typ (evD c o W D st.length) st1 ∧ evN c st.length = st1.length := by
  rcases tyS_in h with ⟨hc, hl, rfl⟩ | ⟨hc, r, rfl, rfl⟩ | ⟨hc, r, rfl, rfl⟩ | ⟨hc, r, rfl, rfl⟩ | ⟨hc, r, rfl, rfl⟩
  · constructor
    · refine ⟨fun z => absurd z (by decide), ?_⟩
      unfold evD
      rcases hc with rfl | rfl
      · rw [if_pos rfl]
        exact typ_sup st _ (Nat.le_refl _) t
      · rw [if_neg (by decide), if_pos rfl]
        exact typ_sup st _ (Nat.le_refl _) t
    · unfold evN
      rw [if_pos hc]
      rfl
  · subst hc
    constructor
    · have e : evD 2 o W D (true :: r).length = sup D r.length (if D r.length = 0 then 1 else 0) := rfl
      rw [e]
      refine ⟨fun _ => ?_, typ_sup r _ (Nat.le_refl _) t.2⟩
      rw [sup_s]
      split
      · exact Or.inr rfl
      · exact Or.inl rfl
    · rfl
  · have n0 : ¬ (c = 0 ∨ c = 1) := by
      rcases hc with rfl | rfl <;> decide
    have n2 : ¬ c = 2 := by
      rcases hc with rfl | rfl <;> decide
    have e : evD c o W D (true :: true :: r).length = sup D r.length (jn c (D r.length) (D (r.length + 1))) := by
      unfold evD
      rw [if_neg (fun z => n0 (Or.inl z)), if_neg (fun z => n0 (Or.inr z)), if_neg n2]
      rfl
    constructor
    · rw [e]
      refine ⟨fun _ => ?_, typ_sup r _ (Nat.le_refl _) t.2.2⟩
      rw [sup_s]
      exact jn_log hc (t.2.1 rfl) (t.1 rfl)
    · unfold evN
      rw [if_neg n0, if_neg n2]
      rfl
  · have n0 : ¬ (c = 0 ∨ c = 1) := by
      rcases hc with rfl | rfl | rfl | rfl | rfl <;> decide
    have n2 : ¬ c = 2 := by
      rcases hc with rfl | rfl | rfl | rfl | rfl <;> decide
    have e : evD c o W D (false :: false :: r).length = sup D r.length (jn c (D r.length) (D (r.length + 1))) := by
      unfold evD
      rw [if_neg (fun z => n0 (Or.inl z)), if_neg (fun z => n0 (Or.inr z)), if_neg n2]
      rfl
    constructor
    · rw [e]
      exact ⟨fun z => absurd z (by decide), typ_sup r _ (Nat.le_refl _) t.2.2⟩
    · unfold evN
      rw [if_neg n0, if_neg n2]
      rfl
  · have n0 : ¬ (c = 0 ∨ c = 1) := by
      rcases hc with rfl | rfl | rfl | rfl | rfl <;> decide
    have n2 : ¬ c = 2 := by
      rcases hc with rfl | rfl | rfl | rfl | rfl <;> decide
    have e : evD c o W D (false :: false :: r).length = sup D r.length (jn c (D r.length) (D (r.length + 1))) := by
      unfold evD
      rw [if_neg (fun z => n0 (Or.inl z)), if_neg (fun z => n0 (Or.inr z)), if_neg n2]
      rfl
    constructor
    · rw [e]
      refine ⟨fun _ => ?_, typ_sup r _ (Nat.le_refl _) t.2.2⟩
      rw [sup_s]
      exact jn_cmp hc _ _
    · unfold evN
      rw [if_neg n0, if_neg n2]
      rfl
theorem ev_ty {cd op W : Nat → Int} : ∀ (k i : Nat) (D : Nat → Int) (st st' : List Bool), tyL cd k i st = some st' → typ D st → typ (evR cd op W k i D st.length) st' := by
  intro k
  induction k with
  | zero =>
    intro i D st st' h t
    have e : some st = some st' := h
    injection e with e
    rw [← e]
    exact t
  | succ k ih =>
    intro i D st st' h t
    obtain ⟨st1, h1, h2⟩ := tyL_s h
    have z := ev_ty1 (o := op i) (W := W) h1 t
    have q := ih (i + 1) _ st1 st' h2 z.1
    rw [← z.2] at q
    exact q
/-- the numbers below the top alone count -/
theorem evD_cg {c o : Int} {W D X : Nat → Int} {st st1 : List Bool} (h : tyS c st = some st1) (e : ∀ j, j < st.length → X j = D j) : ∀ j, j < st1.length → evD c o W X st.length j = evD c o W D st.length j := by
  rcases tyS_in h with ⟨hc, hl, rfl⟩ | ⟨hc, r, rfl, rfl⟩ | ⟨hc, r, rfl, rfl⟩ | ⟨hc, r, rfl, rfl⟩ | ⟨hc, r, rfl, rfl⟩
  · intro j hj
    have hj' : j < st.length + 1 := hj
    unfold evD
    rcases hc with rfl | rfl
    · rw [if_pos rfl, if_pos rfl]
      by_cases z : j = st.length
      · rw [z, sup_s, sup_s]
      · rw [sup_n z, sup_n z, e j (by omega)]
    · rw [if_neg (by decide), if_pos rfl, if_neg (by decide), if_pos rfl]
      by_cases z : j = st.length
      · rw [z, sup_s, sup_s]
      · rw [sup_n z, sup_n z, e j (by omega)]
  · subst hc
    intro j hj
    have hj' : j < r.length + 1 := hj
    show sup X r.length (if X r.length = 0 then 1 else 0) j = sup D r.length (if D r.length = 0 then 1 else 0) j
    rw [e r.length (show r.length < r.length + 1 by omega)]
    by_cases z : j = r.length
    · rw [z, sup_s, sup_s]
    · rw [sup_n z, sup_n z, e j (show j < r.length + 1 by omega)]
  all_goals
    have n0 : ¬ (c = 0 ∨ c = 1) := by
      intro z
      rcases z with rfl | rfl <;> revert hc <;> decide
    have n2 : ¬ c = 2 := by
      intro z
      subst z
      revert hc
      decide
    intro j hj
    have hj' : j < r.length + 1 := hj
    unfold evD
    rw [if_neg (fun z => n0 (Or.inl z)), if_neg (fun z => n0 (Or.inr z)), if_neg n2, if_neg (fun z => n0 (Or.inl z)), if_neg (fun z => n0 (Or.inr z)), if_neg n2]
    show sup X r.length (jn c (X r.length) (X (r.length + 1))) j = sup D r.length (jn c (D r.length) (D (r.length + 1))) j
    rw [e r.length (show r.length < r.length + 2 by omega), e (r.length + 1) (show r.length + 1 < r.length + 2 by omega)]
    by_cases z : j = r.length
    · rw [z, sup_s, sup_s]
    · rw [sup_n z, sup_n z, e j (show j < r.length + 2 by omega)]
/-! joining two numbers -/
theorem lcmp_0 (a b : Int) : (lcmpZ a b ≥ 0 ↔ b ≤ a) ∧ (lcmpZ a b ≠ 0 ↔ a ≠ b) ∧ (lcmpZ a b < 0 ↔ a < b) ∧ (lcmpZ a b > 0 ↔ b < a) ∧ (lcmpZ a b ≤ 0 ↔ a ≤ b) ∧ (lcmpZ a b = 0 ↔ a = b) := by
  unfold lcmpZ
  split
  · omega
  · split <;> omega
theorem x_join {c : Int} (h : isNum c ∨ isCmp c ∨ isLog c) (a b : Int) (u : hS) : m_X3_join c a b u = some (jn c a b, u) := by
  have l := lcmp_0 a b
  have l0 := lcmp_0 b 0
  have ite01 : ∀ (P Q : Prop) [Decidable P] [Decidable Q], (P ↔ ¬ Q) → (if P then some ((0 : Int), u) else some (1, u)) = some (if Q then 1 else 0, u) := by
    intro P Q _ _ e
    by_cases q : Q
    · rw [if_neg (fun z => e.mp z q), if_pos q]
    · rw [if_pos (e.mpr q), if_neg q]
  have b01 : ∀ (Q : Prop) [Decidable Q], hbind (some (if Q then (1 : Int) else 0, u)) (fun v1 => hif (v1 = 0) (m_X3_join_L130 0) (m_X3_join_L130 1)) = some (if Q then 1 else 0, u) := by
    intro Q _
    simp only [hbind_p, hif_p, m_X3_join_L130, hret_p]
    by_cases q : Q
    · rw [if_pos q, if_neg (by decide)]
    · rw [if_neg q, if_pos rfl]
  have cmp : ∀ (c : Int) (Q : Prop) [Decidable Q], m_X3_compares c a b u = some (if Q then 1 else 0, u) → ¬ c = 37 → ¬ c = 38 → ¬ c = 42 → ¬ c = 43 → ¬ c = 45 → ¬ c = 47 → ¬ c = 124 → m_X3_join c a b u = some (if Q then 1 else 0, u) := by
    intro c Q _ e h1 h2 h3 h4 h5 h6 h7
    simp only [m_X3_join, hif_p, hcall_b, e]
    rw [if_neg h1, if_neg h2, if_neg h3, if_neg h4, if_neg h5, if_neg h6, if_neg h7]
    exact b01 Q
  rcases h with h | h | h
  · rcases h with rfl | rfl | rfl | rfl | rfl
    · rfl
    · rfl
    · rfl
    · simp only [m_X3_join, m_X3_join_L93, hgI_k, hgR_k, hpI_k, hpR_k, hpZ_k, haI_k, haR_k, hsI_k, hsZ_k, hlen_k, hlet_p, hret_p, hretZ_0, hretZ_1, hif_p, okk_setV, okk_setF, nV, nF, fV, vF]
      rw [if_neg (by decide), if_neg (by decide), if_neg (by decide), if_neg (by decide), if_neg (by decide), if_pos trivial]
      show _ = some (if b = 0 then 0 else ldivZ a b, u)
      by_cases z : b = 0
      · rw [if_neg (fun y => (l0.2.1.mp y) z), if_pos z]
      · rw [if_pos (l0.2.1.mpr z), if_neg z, hnz_p z, hret_p]
    · simp only [m_X3_join, m_X3_join_L107, hgI_k, hgR_k, hpI_k, hpR_k, hpZ_k, haI_k, haR_k, hsI_k, hsZ_k, hlen_k, hlet_p, hret_p, hretZ_0, hretZ_1, hif_p, okk_setV, okk_setF, nV, nF, fV, vF]
      rw [if_pos trivial]
      show _ = some (if b = 0 then 0 else lremZ a b, u)
      by_cases z : b = 0
      · rw [if_neg (fun y => (l0.2.1.mp y) z), if_pos z]
      · rw [if_pos (l0.2.1.mpr z), if_neg z, hnz_p z, hret_p]
  · rcases h with rfl | rfl | rfl | rfl | rfl
    · refine cmp 60 (a < b) ?_ (by decide) (by decide) (by decide) (by decide) (by decide) (by decide) (by decide)
      simp only [m_X3_compares, m_X3_compares_L55, hgI_k, hgR_k, hpI_k, hpR_k, hpZ_k, haI_k, haR_k, hsI_k, hsZ_k, hlen_k, hlet_p, hret_p, hretZ_0, hretZ_1, hif_p, okk_setV, okk_setF, nV, nF, fV, vF]
      rw [if_pos trivial]
      exact ite01 _ _ (by rw [l.1]; omega)
    · refine cmp 108 (a ≤ b) ?_ (by decide) (by decide) (by decide) (by decide) (by decide) (by decide) (by decide)
      simp only [m_X3_compares, m_X3_compares_L67, hgI_k, hgR_k, hpI_k, hpR_k, hpZ_k, haI_k, haR_k, hsI_k, hsZ_k, hlen_k, hlet_p, hret_p, hretZ_0, hretZ_1, hif_p, okk_setV, okk_setF, nV, nF, fV, vF]
      rw [if_neg (by decide), if_neg (by decide), if_neg (by decide), if_pos trivial]
      exact ite01 _ _ (by rw [l.2.2.2.1]; omega)
    · refine cmp 61 (a = b) ?_ (by decide) (by decide) (by decide) (by decide) (by decide) (by decide) (by decide)
      simp only [m_X3_compares, m_X3_compares_L79, hgI_k, hgR_k, hpI_k, hpR_k, hpZ_k, haI_k, haR_k, hsI_k, hsZ_k, hlen_k, hlet_p, hret_p, hretZ_0, hretZ_1, hif_p, okk_setV, okk_setF, nV, nF, fV, vF]
      rw [if_neg (by decide), if_pos trivial]
      exact ite01 _ _ l.2.1
    · refine cmp 103 (b ≤ a) ?_ (by decide) (by decide) (by decide) (by decide) (by decide) (by decide) (by decide)
      simp only [m_X3_compares, m_X3_compares_L91, hgI_k, hgR_k, hpI_k, hpR_k, hpZ_k, haI_k, haR_k, hsI_k, hsZ_k, hlen_k, hlet_p, hret_p, hretZ_0, hretZ_1, hif_p, okk_setV, okk_setF, nV, nF, fV, vF]
      rw [if_neg (by decide), if_neg (by decide), if_pos trivial]
      exact ite01 _ _ (by rw [l.2.2.1]; omega)
    · refine cmp 62 (b < a) ?_ (by decide) (by decide) (by decide) (by decide) (by decide) (by decide) (by decide)
      simp only [m_X3_compares, m_X3_compares_L103, hgI_k, hgR_k, hpI_k, hpR_k, hpZ_k, haI_k, haR_k, hsI_k, hsZ_k, hlen_k, hlet_p, hret_p, hretZ_0, hretZ_1, hif_p, okk_setV, okk_setF, nV, nF, fV, vF]
      rw [if_neg (by decide), if_neg (by decide), if_neg (by decide), if_neg (by decide)]
      exact ite01 _ _ (by rw [l.2.2.2.2.1]; omega)
  · rcases h with rfl | rfl <;> rfl
theorem y_one {c : Int} (h : isNum c ∨ isCmp c ∨ isLog c) (a b : Int) (u : hS) : m_X10_one (sgn c 0) a b u = some (jn c a b, u) := by
  have l := lcmp_0 a b
  have l0 := lcmp_0 b 0
  have ite01 : ∀ (P Q : Prop) [Decidable P] [Decidable Q], (P ↔ ¬ Q) → (if P then some ((0 : Int), u) else some (1, u)) = some (if Q then 1 else 0, u) := by
    intro P Q _ _ e
    by_cases q : Q
    · rw [if_neg (fun z => e.mp z q), if_pos q]
    · rw [if_pos (e.mpr q), if_neg q]
  rcases h with h | h | h
  · rcases h with rfl | rfl | rfl | rfl | rfl
    · rfl
    · rfl
    · rfl
    · show m_X10_one 5 a b u = some (if b = 0 then 0 else ldivZ a b, u)
      simp only [m_X10_one, m_X10_one_L93, hgI_k, hgR_k, hpI_k, hpR_k, hpZ_k, haI_k, haR_k, hsI_k, hsZ_k, hlen_k, hlet_p, hret_p, hretZ_0, hretZ_1, hif_p, okk_setV, okk_setF, nV, nF, fV, vF]
      rw [if_neg (by decide), if_neg (by decide), if_neg (by decide), if_pos trivial]
      by_cases z : b = 0
      · rw [if_neg (fun y => (l0.2.1.mp y) z), if_pos z]
      · rw [if_pos (l0.2.1.mpr z), if_neg z, hnz_p z, hret_p]
    · show m_X10_one 14 a b u = some (if b = 0 then 0 else lremZ a b, u)
      simp only [m_X10_one, m_X10_one_L107, hgI_k, hgR_k, hpI_k, hpR_k, hpZ_k, haI_k, haR_k, hsI_k, hsZ_k, hlen_k, hlet_p, hret_p, hretZ_0, hretZ_1, hif_p, okk_setV, okk_setF, nV, nF, fV, vF]
      rw [if_neg (by decide), if_neg (by decide), if_neg (by decide), if_neg (by decide), if_neg (by decide), if_neg (by decide), if_neg (by decide), if_neg (by decide), if_neg (by decide), if_neg (by decide), if_neg (by decide), if_neg (by decide), if_pos trivial]
      by_cases z : b = 0
      · rw [if_neg (fun y => (l0.2.1.mp y) z), if_pos z]
      · rw [if_pos (l0.2.1.mpr z), if_neg z, hnz_p z, hret_p]
  · rcases h with rfl | rfl | rfl | rfl | rfl
    · show m_X10_one 6 a b u = some (if a < b then 1 else 0, u)
      simp only [m_X10_one, m_X10_one_L119, hgI_k, hgR_k, hpI_k, hpR_k, hpZ_k, haI_k, haR_k, hsI_k, hsZ_k, hlen_k, hlet_p, hret_p, hretZ_0, hretZ_1, hif_p, okk_setV, okk_setF, nV, nF, fV, vF]
      rw [if_neg (by decide), if_neg (by decide), if_neg (by decide), if_neg (by decide), if_pos trivial]
      exact ite01 _ _ (by rw [l.1]; omega)
    · show m_X10_one 7 a b u = some (if a ≤ b then 1 else 0, u)
      simp only [m_X10_one, m_X10_one_L131, hgI_k, hgR_k, hpI_k, hpR_k, hpZ_k, haI_k, haR_k, hsI_k, hsZ_k, hlen_k, hlet_p, hret_p, hretZ_0, hretZ_1, hif_p, okk_setV, okk_setF, nV, nF, fV, vF]
      rw [if_neg (by decide), if_neg (by decide), if_neg (by decide), if_neg (by decide), if_neg (by decide), if_pos trivial]
      exact ite01 _ _ (by rw [l.2.2.2.1]; omega)
    · show m_X10_one 8 a b u = some (if a = b then 1 else 0, u)
      simp only [m_X10_one, m_X10_one_L143, hgI_k, hgR_k, hpI_k, hpR_k, hpZ_k, haI_k, haR_k, hsI_k, hsZ_k, hlen_k, hlet_p, hret_p, hretZ_0, hretZ_1, hif_p, okk_setV, okk_setF, nV, nF, fV, vF]
      rw [if_neg (by decide), if_neg (by decide), if_neg (by decide), if_neg (by decide), if_neg (by decide), if_neg (by decide), if_pos trivial]
      exact ite01 _ _ l.2.1
    · show m_X10_one 9 a b u = some (if b ≤ a then 1 else 0, u)
      simp only [m_X10_one, m_X10_one_L155, hgI_k, hgR_k, hpI_k, hpR_k, hpZ_k, haI_k, haR_k, hsI_k, hsZ_k, hlen_k, hlet_p, hret_p, hretZ_0, hretZ_1, hif_p, okk_setV, okk_setF, nV, nF, fV, vF]
      rw [if_neg (by decide), if_neg (by decide), if_neg (by decide), if_neg (by decide), if_neg (by decide), if_neg (by decide), if_neg (by decide), if_pos trivial]
      exact ite01 _ _ (by rw [l.2.2.1]; omega)
    · show m_X10_one 10 a b u = some (if b < a then 1 else 0, u)
      simp only [m_X10_one, m_X10_one_L167, hgI_k, hgR_k, hpI_k, hpR_k, hpZ_k, haI_k, haR_k, hsI_k, hsZ_k, hlen_k, hlet_p, hret_p, hretZ_0, hretZ_1, hif_p, okk_setV, okk_setF, nV, nF, fV, vF]
      rw [if_neg (by decide), if_neg (by decide), if_neg (by decide), if_neg (by decide), if_neg (by decide), if_neg (by decide), if_neg (by decide), if_neg (by decide), if_pos trivial]
      exact ite01 _ _ (by rw [l.2.2.2.2.1]; omega)
  · rcases h with rfl | rfl <;> rfl
