/-! rules read: what both readers keep -/
theorem iand255 {x : Int} (h : -128 ≤ x ∧ x ≤ 127) : iandZ x 255 = if 0 ≤ x then x else x + 256 := by
  have d : ∀ k : Fin 256, iandZ ((k.val : Int) - 128) 255 = if 0 ≤ (k.val : Int) - 128 then (k.val : Int) - 128 else (k.val : Int) - 128 + 256 := by decide +kernel
  have := d ⟨(x + 128).toNat, by omega⟩
  have e : (((x + 128).toNat : Nat) : Int) - 128 = x := by omega
  simp only [e] at this
  exact this
def byB (B : Nat → Int) (n : Nat) : Prop := ∀ i, i < n → -128 ≤ B i ∧ B i ≤ 127
theorem chr_c {B : Nat → Int} {n : Nat} (hB : byB B n) {q : Nat} {c : Int} (c0 : 0 ≤ c) (c1 : c ≤ 127) : chr B n q = c ↔ q < n ∧ B q = c := by
  unfold chr
  by_cases h : q < n
  · rw [if_pos h, iand255 (hB q h)]
    have := hB q h
    constructor
    · intro z
      by_cases y : 0 ≤ B q
      · rw [if_pos y] at z
        exact ⟨h, z⟩
      · rw [if_neg y] at z
        omega
    · intro z
      rw [z.2, if_pos c0]
  · rw [if_neg h]
    constructor
    · intro z
      omega
    · intro z
      exact absurd z.1 h
theorem isDg_chr {B : Nat → Int} {n : Nat} (hB : byB B n) {q : Nat} : isDg (chr B n q) ↔ q < n ∧ isDg (B q) := by
  unfold chr
  by_cases h : q < n
  · rw [if_pos h, iand255 (hB q h)]
    have := hB q h
    unfold isDg
    by_cases y : 0 ≤ B q
    · rw [if_pos y]
      omega
    · rw [if_neg y]
      omega
  · rw [if_neg h]
    unfold isDg
    omega
theorem tyL_cg {cd cd' : Nat → Int} : ∀ (k i : Nat) (st : List Bool), (∀ j, i ≤ j → j < i + k → cd' j = cd j) → tyL cd' k i st = tyL cd k i st := by
  intro k
  induction k with
  | zero => exact fun _ _ _ => rfl
  | succ k ih =>
    intro i st h
    show (match tyS (cd' i) st with | some st1 => tyL cd' k (i + 1) st1 | none => none) = match tyS (cd i) st with | some st1 => tyL cd k (i + 1) st1 | none => none
    rw [h i (by omega) (by omega)]
    cases tyS (cd i) st with
    | none => rfl
    | some st1 => exact ih (i + 1) st1 (fun j h1 h2 => h j (by omega) (by omega))
theorem tyL_snoc {cd : Nat → Int} : ∀ (k i : Nat) (st ts ts' : List Bool), tyL cd k i st = some ts → tyS (cd (i + k)) ts = some ts' → tyL cd (k + 1) i st = some ts' := by
  intro k
  induction k with
  | zero =>
    intro i st ts ts' h1 h2
    have e : st = ts := Option.some.inj h1
    show (match tyS (cd i) st with | some st1 => tyL cd 0 (i + 1) st1 | none => none) = some ts'
    rw [e, show i = i + 0 from rfl, h2]
    rfl
  | succ k ih =>
    intro i st ts ts' h1 h2
    obtain ⟨s1, h3, h4⟩ := tyL_s h1
    show (match tyS (cd i) st with | some st1 => tyL cd (k + 1) (i + 1) st1 | none => none) = some ts'
    rw [h3]
    exact ih (i + 1) s1 ts ts' h4 (by rw [show i + 1 + k = i + (k + 1) by omega]; exact h2)
/-- the signs so far: from a on they leave kinds ts; k parts are counted -/
def tk (cd op : Nat → Int) (M a : Nat) (ts : List Bool) (k : Nat) : Prop := a ≤ M ∧ tyL cd (M - a) a [] = some ts ∧ (∀ j, j < M → okO (cd j) (op j)) ∧ ts.length ≤ k ∧ k ≤ 60
theorem tk_e {cd op : Nat → Int} {M a : Nat} {ts ts' : List Bool} {k k' : Nat} (h : tk cd op M a ts k) {c o : Int} (ty : tyS c ts = some ts') (oo : okO c o) (l : ts'.length ≤ k') (k6 : k' ≤ 60) : tk (sup cd M c) (sup op M o) (M + 1) a ts' k' := by
  obtain ⟨h1, h2, h3, h4, h5⟩ := h
  refine ⟨by omega, ?_, fun j hj => ?_, l, k6⟩
  · rw [show M + 1 - a = (M - a) + 1 by omega]
    refine tyL_snoc (M - a) a [] ts ts' ?_ ?_
    · rw [tyL_cg (cd := cd) (M - a) a [] (fun j _ hj => sup_n (by omega))]
      exact h2
    · rw [show a + (M - a) = M by omega, sup_s]
      exact ty
  · by_cases e : j = M
    · subst e
      rw [sup_s, sup_s]
      exact oo
    · rw [sup_n e, sup_n e]
      exact h3 j (by omega)
theorem okO_n {c : Int} (h0 : c ≠ 0) (h1 : c ≠ 1) (o : Int) : okO c o := ⟨fun z => absurd z h0, fun z => absurd z h1⟩
theorem ty_push {c : Int} (h : c = 0 ∨ c = 1) {ts : List Bool} (l : ts.length < 60) : tyS c ts = some (false :: ts) := by
  unfold tyS
  rw [if_pos h, if_pos l]
theorem ty_num {c : Int} (h : isNum c) (ts : List Bool) : tyS c (false :: false :: ts) = some (false :: ts) := by
  rcases h with rfl | rfl | rfl | rfl | rfl <;> rfl
theorem ty_cmp {c : Int} (h : isCmp c) (ts : List Bool) : tyS c (false :: false :: ts) = some (true :: ts) := by
  rcases h with rfl | rfl | rfl | rfl | rfl <;> rfl
theorem ty_log {c : Int} (h : isLog c) (ts : List Bool) : tyS c (true :: true :: ts) = some (true :: ts) := by
  rcases h with rfl | rfl <;> rfl
theorem ty_not (ts : List Bool) : tyS 2 (true :: ts) = some (true :: ts) := rfl
/-- from p, M to p', M' -/
def mv (p M : Nat) (cd op : Nat → Int) (p' M' : Nat) (cd' op' : Nat → Int) : Prop := M ≤ M' ∧ M' + p ≤ M + p' ∧ ∀ j, j < M → cd' j = cd j ∧ op' j = op j
theorem mv.tr {p M p1 M1 p2 M2 : Nat} {cd op cd1 op1 cd2 op2 : Nat → Int} (h : mv p M cd op p1 M1 cd1 op1) (k : mv p1 M1 cd1 op1 p2 M2 cd2 op2) : mv p M cd op p2 M2 cd2 op2 := by
  obtain ⟨h1, h2, h3⟩ := h
  obtain ⟨k1, k2, k3⟩ := k
  exact ⟨by omega, by omega, fun j hj => ⟨(k3 j (by omega)).1.trans (h3 j hj).1, (k3 j (by omega)).2.trans (h3 j hj).2⟩⟩
theorem mv.e {p M p' : Nat} {cd op : Nat → Int} (h : p < p') (c o : Int) : mv p M cd op p' (M + 1) (sup cd M c) (sup op M o) := ⟨by omega, by omega, fun j hj => ⟨sup_n (by omega), sup_n (by omega)⟩⟩
theorem mv.p {p M p' : Nat} {cd op : Nat → Int} (h : p ≤ p') : mv p M cd op p' M cd op := ⟨by omega, by omega, fun j hj => ⟨rfl, rfl⟩⟩
/-- the reference's row of signs -/
def zk (r : Nat) (Z cd op : Nat → Int) (M : Nat) : Prop := ∀ j, j < M → Z (400 * r + j) = sgn (cd j) (op j)
def zF (r : Nat) (Z Z' : Nat → Int) : Prop := ∀ i, i < 400 * r ∨ 400 * r + 400 ≤ i → Z' i = Z i
theorem zF.rf (r : Nat) (Z : Nat → Int) : zF r Z Z := fun _ _ => rfl
theorem zF.tr {r : Nat} {Z Z1 Z2 : Nat → Int} (h : zF r Z Z1) (k : zF r Z1 Z2) : zF r Z Z2 := fun i hi => (k i hi).trans (h i hi)
theorem zF.s {r M : Nat} {Z : Nat → Int} {x : Int} (h : M < 400) : zF r Z (sup Z (400 * r + M) x) := fun i hi => sup_n (by omega)
theorem zk.s {r M : Nat} {Z cd op : Nat → Int} {c o x : Int} (h : zk r Z cd op M) (e : x = sgn c o) : zk r (sup Z (400 * r + M) x) (sup cd M c) (sup op M o) (M + 1) := by
  intro j hj
  by_cases z : j = M
  · subst z
    rw [sup_s, sup_s, sup_s, e]
  · rw [sup_n (by omega), sup_n z, sup_n z]
    exact h j (by omega)
/-! the class's rule -/
def ruF (g : Nat → Int) (M k : Int) : Nat → Int := fun i => if i = 6 then M else if i = 8 then k else g i
def RM (u : hS) (q : Nat) (cd op : Nat → Int) (M k : Int) : hS := hput (hput (hput u (q + 1) cd) (q + 2) op) q (ruF (hV u q) M k)
theorem RM_k (u : hS) (q : Nat) (cd op : Nat → Int) (M k : Int) (a j : Nat) : okk (RM u q cd op M k) a j = okk u a j := propext ⟨fun h => h, fun h => h⟩
theorem RM_N (u : hS) (q : Nat) (cd op : Nat → Int) (M k : Int) : hN (RM u q cd op M k) = hN u := Eq.trans (b := hN u) rfl rfl
theorem RM_F (u : hS) (q : Nat) (cd op : Nat → Int) (M k : Int) : hF (RM u q cd op M k) = hF u := Eq.trans (b := hF u) rfl rfl
theorem RM_shp (u : hS) (q : Nat) (cd op : Nat → Int) (M k : Int) : shp (RM u q cd op M k) = shp u := propext ⟨fun h => h, fun h => h⟩
theorem RM_6 (u : hS) (q : Nat) (cd op : Nat → Int) (M k : Int) : hV (RM u q cd op M k) q 6 = M := by
  unfold RM
  rw [hV_put_s]
  rfl
theorem RM_8 (u : hS) (q : Nat) (cd op : Nat → Int) (M k : Int) : hV (RM u q cd op M k) q 8 = k := by
  unfold RM
  rw [hV_put_s]
  rfl
theorem RM_i {u : hS} {q : Nat} {cd op : Nat → Int} {M k : Int} {i : Nat} (h : i ≠ 6 ∧ i ≠ 8) : hV (RM u q cd op M k) q i = hV u q i := by
  unfold RM
  rw [hV_put_s]
  unfold ruF
  rw [if_neg h.1, if_neg h.2]
theorem RM_1 (u : hS) (q : Nat) (cd op : Nat → Int) (M k : Int) : hV (RM u q cd op M k) (q + 1) = cd := by
  unfold RM
  rw [hV_put_n (by omega), hV_put_n (by omega), hV_put_s]
theorem RM_2 (u : hS) (q : Nat) (cd op : Nat → Int) (M k : Int) : hV (RM u q cd op M k) (q + 2) = op := by
  unfold RM
  rw [hV_put_n (by omega), hV_put_s]
theorem RM_o {u : hS} {q : Nat} {cd op : Nat → Int} {M k : Int} {a : Nat} (h : a ≠ q ∧ a ≠ q + 1 ∧ a ≠ q + 2) : hV (RM u q cd op M k) a = hV u a := by
  unfold RM
  rw [hV_put_n h.1, hV_put_n h.2.2, hV_put_n h.2.1]
theorem RM_w6 (u : hS) (q : Nat) (cd op : Nat → Int) (M k x : Int) : hsetV (RM u q cd op M k) q 6 x = RM u q cd op x k := by
  unfold RM
  rw [setV_put]
  congr 1
  funext i
  unfold sup ruF
  by_cases h : i = 6
  · rw [if_pos h, if_pos h]
  · rw [if_neg h, if_neg h, if_neg h]
theorem RM_w8 (u : hS) (q : Nat) (cd op : Nat → Int) (M k x : Int) : hsetV (RM u q cd op M k) q 8 x = RM u q cd op M x := by
  unfold RM
  rw [setV_put]
  congr 1
  funext i
  unfold sup ruF
  by_cases h : i = 8
  · subst h
    rfl
  · rw [if_neg h, if_neg h, if_neg h]
theorem RM_wc (u : hS) (q : Nat) (cd op : Nat → Int) (M k : Int) (i : Nat) (x : Int) : hsetV (RM u q cd op M k) (q + 1) i x = RM u q (sup cd i x) op M k := by
  unfold RM
  rw [put_set_c _ _ _ _ (show q + 1 ≠ q by omega), put_set_c _ _ _ _ (show q + 1 ≠ q + 2 by omega), setV_put]
theorem RM_wo (u : hS) (q : Nat) (cd op : Nat → Int) (M k : Int) (i : Nat) (x : Int) : hsetV (RM u q cd op M k) (q + 2) i x = RM u q cd (sup op i x) M k := by
  unfold RM
  rw [put_set_c _ _ _ _ (show q + 2 ≠ q by omega), setV_put]
theorem RM_tp {n : Nat} {B : Nat → Int} {u : hS} (h : cTp n B u) {q : Nat} (q54 : 54 ≤ q) (cd op : Nat → Int) (M k : Int) : cTp n B (RM u q cd op M k) := h.agr (by rw [RM_shp]; exact h.1) (by rw [RM_o (by omega)]) (RM_o (by omega))
theorem RM_ru {u : hS} {q : Nat} (h : RuA u q) (cd op : Nat → Int) (M k : Int) : RuA (RM u q cd op M k) q := h
theorem RM_self (u : hS) (q : Nat) : RM u q (hV u (q + 1)) (hV u (q + 2)) (hV u q 6) (hV u q 8) = u := by
  have e : ruF (hV u q) (hV u q 6) (hV u q 8) = hV u q := by
    funext i
    unfold ruF
    by_cases h : i = 6
    · rw [if_pos h, h]
    · rw [if_neg h]
      by_cases h2 : i = 8
      · rw [if_pos h2, h2]
      · rw [if_neg h2]
  unfold RM
  rw [e, hput_self, hput_self, hput_self]
theorem x_emit {u : hS} {q : Nat} (ru : RuA u q) (q54 : 54 ≤ q) (cd op : Nat → Int) {M : Nat} (hM : M < 400) (k p s f c o : Int) : m_X3_emit q c o (tS (RM u q cd op M k) p s f) = some (0, tS (RM u q (sup cd M c) (sup op M o) ((M + 1 : Nat) : Int) k) p s f) := by
  have M6 : M < 1000000 := by omega
  simp only [m_X3_emit, m_X3_emit_L42, hgI_k, hgR_k, hpI_k, hpR_k, hpZ_k, haI_k, haR_k, hsI_k, hsZ_k, hlen_k, hlet_p, hret_p, hretZ_0, hretZ_1, hif_p, okk_setV, okk_setF, nV, nF, fV, vF, hsI_n, tS_k, tS_N, tS_F, RM_k, RM_N, RM_F, tS_o (show q ≠ 2 by omega), tS_set (show q ≠ 2 by omega), tS_set (show q + 1 ≠ 2 by omega), tS_set (show q + 2 ≠ 2 by omega), RM_6, RM_w6, RM_wc, RM_wo, RuA.k0 ru, RuA.k1 ru, RuA.k2 ru, RuA.n1 ru, RuA.n2 ru, RuA.f0 ru, RuA.f1 ru, hM, ix_s M6]
  rw [if_neg (by omega)]
theorem x_emitJ {u : hS} {q : Nat} (ru : RuA u q) (q54 : 54 ≤ q) (cd op : Nat → Int) {M : Nat} (hM : M ≤ 400) (k p s f c o : Int) : ∃ (cd' op' : Nat → Int) (M' : Nat), M' ≤ 400 ∧ m_X3_emit q c o (tS (RM u q cd op M k) p s f) = some (0, tS (RM u q cd' op' (M' : Int) k) p s f) := by
  by_cases h : M < 400
  · exact ⟨_, _, M + 1, by omega, x_emit ru q54 cd op h k p s f c o⟩
  · refine ⟨cd, op, M, hM, ?_⟩
    simp only [m_X3_emit, m_X3_emit_L42, hgI_k, hgR_k, hpI_k, hpR_k, hpZ_k, haI_k, haR_k, hsI_k, hsZ_k, hlen_k, hlet_p, hret_p, hretZ_0, hretZ_1, hif_p, okk_setV, okk_setF, nV, nF, fV, vF, tS_k, tS_N, tS_F, RM_k, RM_N, RM_F, tS_o (show q ≠ 2 by omega), RM_6, RuA.k0 ru, RuA.k1 ru, RuA.n1 ru, RuA.f0 ru]
    rw [if_pos (by omega)]
theorem x_count {u : hS} {q : Nat} (ru : RuA u q) (q54 : 54 ≤ q) (hs : shp u) (cd op : Nat → Int) (M : Int) {k : Nat} (k6 : k ≤ 60) {w : Nat} (w4 : w ≤ 400) (p s f : Int) : m_X3_countPart q 2 (w : Int) (tS (RM u q cd op M k) p s f) = some (0, tS (RM u q cd op M ((k + 1 : Nat) : Int)) p s (if k < 60 then f else if f = 0 then ((1 + 8 * w + 3 : Nat) : Int) else f)) := by
  have k7 : k < 1000000 := by omega
  have F := x_fail (u := RM u q cd op M ((k + 1 : Nat) : Int)) (by rw [RM_shp]; exact hs) p s f w4 (k := 3) (by decide)
  have F : m_X6_fail 2 (w : Int) 3 _ = _ := F
  simp only [m_X3_countPart, m_X3_countPart_L25, hgI_k, hgR_k, hpI_k, hpR_k, hpZ_k, haI_k, haR_k, hsI_k, hsZ_k, hlen_k, hlet_p, hret_p, hretZ_0, hretZ_1, hif_p, okk_setV, okk_setF, nV, nF, fV, vF, hcallV_b, hbind_p, tS_k, RM_k, tS_o (show q ≠ 2 by omega), tS_set (show q ≠ 2 by omega), RM_8, RM_w8, RuA.k0 ru, ix_s k7, kk_2 hs, F]
  by_cases h : k < 60
  · rw [if_pos h, if_pos (by omega)]
  · rw [if_neg h, if_neg (by omega)]
theorem x_valF {u : hS} {q : Nat} (ru : RuA u q) (q54 : 54 ≤ q) (cd op : Nat → Int) (M k p s : Int) {f : Int} (hs : shp u) (hf : f ≠ 0) : m_X3_readValue q 2 (tS (RM u q cd op M k) p s f) = some (0, tS (RM u q cd op M k) p s f) := by
  simp only [m_X3_readValue, hgI_k, hgR_k, hpI_k, hpR_k, hpZ_k, haI_k, haR_k, hsI_k, hsZ_k, hlen_k, hlet_p, hret_p, hretZ_0, hretZ_1, hif_p, okk_setV, okk_setF, nV, nF, fV, vF, tS_k, RM_k, tS_4, kk_2 hs]
  rw [if_neg hf]
