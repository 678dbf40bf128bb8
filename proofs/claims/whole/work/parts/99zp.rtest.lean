/-! tests: the reference's steps as programs -/
def TA (F : Nat) : hM := hcallV 10 220 (m_X10_isWord 220 6385252) fun v6 => hif (v6 ≠ 0) (m_X10_tested_L49 (m_X10_tested_L12 F) 220) (hcallV 10 220 (m_X10_isWord 220 28530) fun v7 => hif (v7 = 0) (m_X10_tested_L54 (m_X10_tested_L12 F) 220 0) (m_X10_tested_L49 (m_X10_tested_L12 F) 220))
def AF (F : Nat) : Int → hM := fun v5 => hif (v5 ≠ 0) (hcallV 10 220 (m_X10_closes 220) fun _ => TA F) (hretZ 0)
def RF (G F : Nat) : hM := fun X => hbind (m_X10_fact_L2 G 220 1 X) (AF F)
def RA (H F : Nat) : hM := fun X => hbind (hbind (m_X10_settles 220 3 X) (fun _ => m_X10_closes_L5 H 220)) (fun _ => TA F)
def eI (b : Bool) : Int := if b then 1 else 0
def eB (b : Bool) : Nat := if b then 1 else 0
def eS (b : Bool) (s : List Int) : List Int := if b then 13 :: s else s
def aS (b : Bool) (s : List Int) : List Int := if b then 12 :: s else s
def bsS (s : List Int) : Prop := s = [] ∨ ∃ s', s = 91 :: s'
theorem s3 {r : Nat} {s : List Int} (hb : bsS s) (b ei : Bool) (Z : Nat → Int) (M : Nat) (dp : Int) : sRes r 3 (aS b (eS ei s)) Z M dp = (Z, M, dp, aS b (eS ei s)) := by
  cases b with
  | true => exact sRes_s (by decide)
  | false =>
    cases ei with
    | true => exact sRes_s (by decide)
    | false =>
      rcases hb with rfl | ⟨s', rfl⟩
      · rfl
      · exact sRes_s (by decide)
theorem s2e {r : Nat} {s : List Int} (hb : bsS s) (ei : Bool) (Z : Nat → Int) (M : Nat) (dp : Int) : sRes r 2 (eS ei s) Z M dp = (Z, M, dp, eS ei s) := by
  cases ei with
  | true => exact sRes_s (by decide)
  | false =>
    rcases hb with rfl | ⟨s', rfl⟩
    · rfl
    · exact sRes_s (by decide)
theorem s1b {r : Nat} {s : List Int} (hb : bsS s) (Z : Nat → Int) (M : Nat) (dp : Int) : sRes r 1 s Z M dp = (Z, M, dp, s) := by
  rcases hb with rfl | ⟨s', rfl⟩
  · rfl
  · exact sRes_s (by decide)
/-- how far the reference is behind: b, a sign & still open -/
def bhd (r : Nat) (b : Bool) (Z cd op : Nat → Int) (M M0 : Nat) : Prop := if b then M = M0 + 1 ∧ zk r Z cd op M0 ∧ cd M0 = 38 else M = M0 ∧ zk r Z cd op M
theorem sgn_38 (o : Int) : sgn 38 o = 12 := rfl
theorem sgn_124 (o : Int) : sgn 124 o = 13 := rfl
theorem s2 {r : Nat} {s : List Int} (hb : bsS s) (b ei : Bool) {Z cd op : Nat → Int} {M M0 : Nat} (hM4 : M ≤ 400) (h : bhd r b Z cd op M M0) (dp : Int) : ∃ Z1, sRes r 2 (aS b (eS ei s)) Z M0 dp = (Z1, M, dp, eS ei s) ∧ zF r Z Z1 ∧ zk r Z1 cd op M := by
  cases b with
  | true =>
    obtain ⟨h1, h2, h3⟩ := h
    subst h1
    refine ⟨sup Z (400 * r + M0) 12, ?_, zF.s (by omega), fun j hj => ?_⟩
    · show sRes r 2 (12 :: eS ei s) Z M0 dp = _
      rw [sRes_p (by decide), if_neg (by decide)]
      exact s2e hb ei _ _ _
    · by_cases y : j = M0
      · subst y
        rw [sup_s, h3, sgn_38]
      · rw [sup_n (by omega)]
        exact h2 j (by omega)
  | false =>
    obtain ⟨h1, h2⟩ := h
    subst h1
    exact ⟨Z, s2e hb ei _ _ _, zF.rf r Z, h2⟩
def cE (ei : Bool) (cd : Nat → Int) (M : Nat) : Nat → Int := if ei then sup cd M 124 else cd
def oE (ei : Bool) (op : Nat → Int) (M : Nat) : Nat → Int := if ei then sup op M 0 else op
theorem s1 {r : Nat} {s : List Int} (hb : bsS s) (b ei : Bool) {Z cd op : Nat → Int} {M M0 : Nat} (hM4 : M + eB ei ≤ 400) (h : bhd r b Z cd op M M0) (dp : Int) : ∃ Z1, sRes r 1 (aS b (eS ei s)) Z M0 dp = (Z1, M + eB ei, dp, s) ∧ zF r Z Z1 ∧ zk r Z1 (cE ei cd M) (oE ei op M) (M + eB ei) := by
  have st : ∃ Z1, sRes r 1 (aS b (eS ei s)) Z M0 dp = sRes r 1 (eS ei s) Z1 M dp ∧ zF r Z Z1 ∧ zk r Z1 cd op M := by
    cases b with
    | true =>
      obtain ⟨h1, h2, h3⟩ := h
      subst h1
      refine ⟨sup Z (400 * r + M0) 12, ?_, zF.s (by omega), fun j hj => ?_⟩
      · show sRes r 1 (12 :: eS ei s) Z M0 dp = _
        rw [sRes_p (by decide), if_neg (by decide)]
        rfl
      · by_cases y : j = M0
        · subst y
          rw [sup_s, h3, sgn_38]
        · rw [sup_n (by omega)]
          exact h2 j (by omega)
    | false =>
      obtain ⟨h1, h2⟩ := h
      subst h1
      exact ⟨Z, rfl, zF.rf r Z, h2⟩
  obtain ⟨Z1, e1, e2, e3⟩ := st
  cases ei with
  | true =>
    have hM4 : M + 1 ≤ 400 := hM4
    refine ⟨sup Z1 (400 * r + M) 13, ?_, e2.tr (zF.s (by omega)), ?_⟩
    · rw [e1]
      show sRes r 1 (13 :: s) Z1 M dp = _
      rw [sRes_p (by decide), if_neg (by decide)]
      exact s1b hb _ _ _
    · exact e3.s (c := 124) (o := 0) rfl
  | false =>
    refine ⟨Z1, ?_, e2, e3⟩
    rw [e1]
    exact s1b hb _ _ _
theorem dpc_aS (b ei : Bool) (s : List Int) : dpc (aS b (eS ei s)) = dpc s := by
  cases b <;> cases ei <;> simp [aS, eS, dpc]
theorem len_aS (b ei : Bool) (s : List Int) : (aS b (eS ei s)).length = s.length + eB b + eB ei := by
  cases b <;> cases ei <;> simp [aS, eS, eB]
theorem in_aS (b ei : Bool) (s : List Int) : 91 ∈ aS b (eS ei s) ↔ 91 ∈ s := by
  cases b <;> cases ei <;> simp [aS, eS]
theorem stk_aS {O : Nat → Int} {b ei : Bool} {s : List Int} (h : stk O (aS b (eS ei s))) : stk O (eS ei s) ∧ stk O s := by
  cases b <;> cases ei
  · exact ⟨h, h⟩
  · exact ⟨h, h.2⟩
  · exact ⟨h.2, h.2⟩
  · exact ⟨h.2, h.2.2⟩
theorem isW_lt {B : Nat → Int} {n : Nat} (hB : byB B n) {q : Nat} (hq : q ≤ n) {W : Int} (w : isW B n q W) : q < n ∧ 0 < wl B n q ∧ 97 ≤ chr B n q ∧ chr B n q ≤ 122 := by
  have w1 : 0 < wl B n q := w.1
  have b := wl_b B hq
  have l := b.2 0 w1
  rw [Nat.add_zero] at l
  have lt : q < n := by omega
  unfold isLt at l
  unfold chr
  rw [if_pos lt, iand255 (hB q lt), if_pos (by omega)]
  exact ⟨lt, w1, l.1, l.2⟩
theorem t12 {n : Nat} {B : Nat → Int} {v : hS} (hv : rTp n B v) {r : Nat} (F : Nat) (Z : Nat → Int) (M : Int) (O : Nat → Int) (k dp oc p m : Int) : m_X10_tested_L12 (F + 1) 220 1 (rS (RX v r Z M O k dp oc) p 0 m) = RF 1000000000 F (rS (RX v r Z M O k dp oc) p 0 m) := by
  rw [m_X10_tested_L12, hif_p, if_neg (by decide), X_cv hv]
  rfl
theorem af1 {n : Nat} {B : Nat → Int} {v : hS} (hv : rTp n B v) {r : Nat} (F : Nat) (Z : Nat → Int) (M : Int) (O : Nat → Int) (k dp oc p m : Int) : AF F 1 (rS (RX v r Z M O k dp oc) p 0 m) = RA 1000000000 F (rS (RX v r Z M O k dp oc) p 0 m) := by
  unfold AF
  rw [hif_p, if_pos (by decide), X_cv hv]
  unfold m_X10_closes
  rw [X_cv hv]
  rfl
theorem af0 {n : Nat} {B : Nat → Int} {v : hS} (hv : rTp n B v) (F : Nat) (X : hS) : AF F 0 X = some (0, X) := by
  unfold AF
  rw [hif_p, if_neg (fun z => z rfl), hretZ_0]
/-- a fault in the reference -/
def rfB (v : hS) (r : Nat) (Z : Nat → Int) (f : Nat) (y : Option (Int × hS)) : Prop := ∃ (Z' O' : Nat → Int) (m' p'' k'' M'' dp'' oc'' : Int), y = some (0, rS (RX v r Z' M'' O' k'' dp'' oc'') p'' (f : Int) m') ∧ zF r Z Z'
def FactP (n : Nat) (B : Nat → Int) (u : hS) (Q r N : Nat) : Prop := ∀ (d p M k a e : Nat) (cd op : Nat → Int) (ts : List Bool) (s : Int), d ≤ 10 → n - p ≤ N → p ≤ n → M + e ≤ p → tk cd op M a ts k → ∃ (f p' k' M' : Nat) (s' : Int) (cd' op' : Nat → Int), M_X3_readFact (13 - d) Q 2 (d : Int) (tS (RM u Q cd op M k) (p : Int) s 0) = some (0, tS (RM u Q cd' op' M' k') (p' : Int) s' (f : Int)) ∧ p' ≤ n ∧ M' ≤ 400 ∧ (f = 0 → p < p' ∧ mv p M cd op p' M' cd' op' ∧ tk cd' op' M' a (true :: ts) k') ∧ ∀ (v : hS) (Z O : Nat → Int) (m : Int) (st : List Int) (G F : Nat), rTp n B v → hV v 220 11 = (r : Int) → zk r Z cd op M → stk O st → st.length ≤ e → dpc st = d → N + 3 ≤ G → n + 3 ≤ F + p → (f ≠ 0 → rfB v r Z f (RF G F (rS (RX v r Z M O k d st.length) (p : Int) 0 m))) ∧ (f = 0 → ∃ (Z' O' : Nat → Int) (m' : Int) (H' F' : Nat), RF G F (rS (RX v r Z M O k d st.length) (p : Int) 0 m) = RA H' F' (rS (RX v r Z' M' O' k' d st.length) (p' : Int) 0 m') ∧ zF r Z Z' ∧ zk r Z' cd' op' M' ∧ stk O' st ∧ n + 2 ≤ H' + p' ∧ n + 3 ≤ F' + p')
def LoopP (n : Nat) (B : Nat → Int) (u : hS) (Q r N : Nat) : Prop := ∀ (d p M k a e c Fc : Nat) (ei : Bool) (cd op : Nat → Int) (ts : List Bool) (s : Int), d ≤ 10 → n - p ≤ N → p ≤ n → M + e + eB ei ≤ p → c < p → N + 3 ≤ Fc → tk cd op M a (if ei then true :: true :: ts else true :: ts) k → ∃ (f p' k' M' : Nat) (s' : Int) (cd' op' : Nat → Int), m_X3_readTest_L14 (M_X3_readFact (13 - d)) Fc Q 2 (d : Int) (eI ei) 1 (c : Int) (tS (RM u Q cd op M k) (p : Int) s 0) = some (0, tS (RM u Q cd' op' M' k') (p' : Int) s' (f : Int)) ∧ p' ≤ n ∧ M' ≤ 400 ∧ (f = 0 → p ≤ p' ∧ sk B n p' = p' ∧ mvE (eB ei) p M cd op p' M' cd' op' ∧ tk cd' op' M' a (true :: ts) k') ∧ ∀ (v : hS) (Z O : Nat → Int) (m : Int) (st : List Int) (b : Bool) (M0 H F : Nat), rTp n B v → hV v 220 11 = (r : Int) → bhd r b Z cd op M M0 → stk O (aS b (eS ei st)) → st.length ≤ e → bsS st → dpc st = d → n + 2 ≤ H + p → n + 3 ≤ F + p → (f ≠ 0 → rfB v r Z f (RA H F (rS (RX v r Z M0 O k d (aS b (eS ei st)).length) (p : Int) 0 m))) ∧ (f = 0 → ∃ (Z' O' : Nat → Int) (m' : Int), zF r Z Z' ∧ zk r Z' cd' op' M' ∧ stk O' st ∧ (st = [] → RA H F (rS (RX v r Z M0 O k d (aS b (eS ei st)).length) (p : Int) 0 m) = some (1, rS (RX v r Z' M' O' k' d 0) (p' : Int) 0 m')) ∧ ∀ st', st = 91 :: st' → (chr B n p' = 93 → ∃ H' F', RA H F (rS (RX v r Z M0 O k d (aS b (eS ei st)).length) (p : Int) 0 m) = RA H' F' (rS (RX v r Z' M' O' k' ((d : Int) - 1) st'.length) ((p' + 1 : Nat) : Int) 0 m') ∧ n + 2 ≤ H' + (p' + 1) ∧ n + 3 ≤ F' + (p' + 1)) ∧ (chr B n p' ≠ 93 → rfB v r Z (1 + 8 * p') (RA H F (rS (RX v r Z M0 O k d (aS b (eS ei st)).length) (p : Int) 0 m))))
