/-! rules reckoned: the reference -/
def RS (u : hS) (X : Nat → Int) (n : Nat) : hS := hput (hput u 228 X) 220 (sup (hV u 220) 18 (n : Int))
theorem RS_228 (u : hS) (X : Nat → Int) (n : Nat) : hV (RS u X n) 228 = X := by
  unfold RS
  rw [hV_put_n (by decide), hV_put_s]
theorem RS_18 (u : hS) (X : Nat → Int) (n : Nat) : hV (RS u X n) 220 18 = (n : Int) := by
  unfold RS
  rw [hV_put_s, sup_s]
theorem RS_n {u : hS} {X : Nat → Int} {n a : Nat} (h : a ≠ 228) (h2 : a ≠ 220) : hV (RS u X n) a = hV u a := by
  unfold RS
  rw [hV_put_n h2, hV_put_n h]
theorem RS_shp {u : hS} (X : Nat → Int) (n : Nat) (hs : shp u) : shp (RS u X n) := hs
theorem RS_top (u : hS) (X : Nat → Int) (n m : Nat) : hsetV (RS u X n) 220 18 (m : Int) = RS u X m := by
  unfold RS
  rw [setV_put, sup_sup]
theorem RS_set (u : hS) (X : Nat → Int) (n i : Nat) (y : Int) : hsetV (RS u X n) 228 i y = RS u (sup X i y) n := by
  rw [setV_put1, RS_228]
  unfold RS
  rw [put_comm (show 220 ≠ 228 by decide), hput_put]
theorem y_push {u : hS} (hs : shp u) (X : Nat → Int) {n : Nat} (hn : n < 64) (v : Int) : m_X10_push 220 v (RS u X n) = some (0, RS u (sup X n v) (n + 1)) := by
  have hs1 := RS_shp X n hs
  have hs2 := RS_shp (sup X n v) n hs
  have w1 : w32 ((n : Int) + 1) = ((n + 1 : Nat) : Int) := ix_s (by omega)
  simp only [m_X10_push, hgI_k, hgR_k, hpI_k, hpR_k, hpZ_k, haI_k, haR_k, hsI_k, hsZ_k, hlen_k, hlet_p, hret_p, hretZ_0, hretZ_1, hif_p, okk_setV, okk_setF, nV, nF, fV, vF, hsI_n, kk_220 hs1, rf_220_17 hs1, kk_228 hs1, ln_228 hs1, RS_18, hn, RS_set, kk_220 hs2, w1, RS_top]
theorem y_pop {u : hS} (hs : shp u) (X : Nat → Int) {n : Nat} (hn : n < 64) : m_X10_pop 220 (RS u X (n + 1)) = some (X n, RS u X n) := by
  have hs1 := RS_shp X (n + 1) hs
  have hs2 := RS_shp X n hs
  have w1 : w32 (((n + 1 : Nat) : Int) - 1) = (n : Int) := by
    rw [w32_id ⟨by omega, by omega⟩]
    omega
  simp only [m_X10_pop, hgI_k, hgR_k, hpI_k, hpR_k, hpZ_k, haI_k, haR_k, hsI_k, hsZ_k, hlen_k, hlet_p, hret_p, hretZ_0, hretZ_1, hif_p, okk_setV, okk_setF, nV, nF, fV, vF, haI_n, kk_220 hs1, RS_18, w1, RS_top, kk_220 hs2, rf_220_17 hs2, kk_228 hs2, ln_228 hs2, hn, RS_228]
theorem iand15 {v : Nat} (h : v < 2147483648) : iandZ (v : Int) 15 = ((v % 16 : Nat) : Int) := by
  have e := iandZ_n (a := v) (b := 15) h
  have m : v &&& 15 = v % 16 := Nat.and_two_pow_sub_one_eq_mod v 4
  rw [m] at e
  exact e
theorem ishr4 {v : Nat} (h : v < 2147483648) : ishrZ (v : Int) 4 = ((v / 16 : Nat) : Int) := by
  have e : (Int32.ofInt (v : Int) >>> (Int32.ofInt 4 &&& 31)).toBitVec = (Int32.ofInt (v : Int)).toBitVec.sshiftRight 4 := by
    rw [Int32.toBitVec_shiftRight]
    rfl
  show (Int32.ofInt (v : Int) >>> (Int32.ofInt 4 &&& 31)).toBitVec.toInt = _
  rw [e, BitVec.toInt_sshiftRight, bvI, bvT h, Int.shiftRight_eq_div_pow]
  omega
/-- a sign taken apart -/
theorem sgn_c {c o : Int} (h : okO c o) : (c = 0 → iandZ (sgn c o) 15 = 0 ∧ ishrZ (sgn c o) 4 = o) ∧ (c = 1 → iandZ (sgn c o) 15 = 1 ∧ ishrZ (sgn c o) 4 = o) ∧ (c = 2 → iandZ (sgn c o) 15 = 11) ∧ (isNum c ∨ isCmp c ∨ isLog c → iandZ (sgn c o) 15 = sgn c 0 ∧ sgn c 0 ≠ 0 ∧ sgn c 0 ≠ 1 ∧ sgn c 0 ≠ 11) := by
  refine ⟨fun z => ?_, fun z => ?_, fun z => ?_, fun z => ?_⟩
  · have b := h.1 z
    obtain ⟨n, rfl⟩ : ∃ n : Nat, o = n := ⟨o.toNat, by omega⟩
    have e : sgn c n = ((16 * n : Nat) : Int) := by
      unfold sgn
      rw [if_pos z]
      omega
    rw [e, iand15 (by omega), ishr4 (by omega)]
    omega
  · have b := h.2 z
    obtain ⟨n, rfl⟩ : ∃ n : Nat, o = n := ⟨o.toNat, by omega⟩
    have e : sgn c n = ((1 + 16 * n : Nat) : Int) := by
      unfold sgn
      rw [if_neg (by omega), if_pos z]
      omega
    rw [e, iand15 (by omega), ishr4 (by omega)]
    omega
  · subst z
    have e : sgn 2 o = 11 := by
      unfold sgn
      rw [if_neg (by decide), if_neg (by decide), if_pos rfl]
    rw [e]
    decide
  · have n0 : ¬ c = 0 := by
      intro y
      rw [y] at z
      revert z
      decide
    have n1 : ¬ c = 1 := by
      intro y
      rw [y] at z
      revert z
      decide
    have e : sgn c o = sgn c 0 := by
      unfold sgn
      rw [if_neg n0, if_neg n1, if_neg n0, if_neg n1]
    rw [e]
    rcases z with z | z | z
    · rcases z with rfl | rfl | rfl | rfl | rfl <;> exact ⟨by decide, by decide, by decide, by decide⟩
    · rcases z with rfl | rfl | rfl | rfl | rfl <;> exact ⟨by decide, by decide, by decide, by decide⟩
    · rcases z with rfl | rfl <;> exact ⟨by decide, by decide, by decide, by decide⟩
theorem y_reckL {u : hS} (hs : shp u) {r M : Nat} (hr : r < 6) (hM : M ≤ 400) {cd op : Nat → Int} (oo : ∀ j, j < M → okO (cd j) (op j)) (sg : ∀ j, j < M → hV u 222 (400 * r + j) = sgn (cd j) (op j)) : ∀ (k n i : Nat) (X D : Nat → Int) (st st' : List Bool) (b : Bool), k < n → i + k ≤ M → tyL cd k i st = some (b :: st') → st.length ≤ 60 → (∀ j, j < st.length → X j = D j) → typ D st → ∃ X', m_X10_reckons_L8 n 220 r ((i + k : Nat) : Int) i (RS u X st.length) = some (evR cd op (hV u 229) k i D st.length st'.length, RS u X' st'.length) := by
  intro k
  induction k with
  | zero =>
    intro n i X D st st' b hn hi ht hl hX ty
    obtain ⟨n, rfl⟩ : ∃ k, n = k + 1 := ⟨n - 1, by omega⟩
    have e : some st = some (b :: st') := ht
    injection e with e
    subst e
    refine ⟨X, ?_⟩
    have hl' : st'.length + 1 ≤ 60 := hl
    have hs1 := RS_shp X (b :: st').length hs
    have po := y_pop hs X (n := st'.length) (by omega)
    have po' : m_X10_pop 220 (RS u X (b :: st').length) = some (X st'.length, RS u X st'.length) := po
    show _ = some (D st'.length, RS u X st'.length)
    rw [← hX st'.length (show st'.length < st'.length + 1 by omega)]
    simp only [m_X10_reckons_L8, hgI_k, hgR_k, hpI_k, hpR_k, hpZ_k, haI_k, haR_k, hsI_k, hsZ_k, hlen_k, hlet_p, hret_p, hretZ_0, hretZ_1, hif_p, okk_setV, okk_setF, nV, nF, fV, vF, hcallV_b, hbind_p, kk_220 hs1, po']
    rw [if_pos (by omega)]
  | succ k ih =>
    intro n i X D st st' b hn hi ht hl hX ty
    obtain ⟨n, rfl⟩ : ∃ k, n = k + 1 := ⟨n - 1, by omega⟩
    obtain ⟨st1, h1, h2⟩ := tyL_s ht
    have l1 := tyS_le h1 hl
    have cg := evD_cg (o := op i) (W := hV u 229) h1 hX
    have tn := ev_ty1 (o := op i) (W := hV u 229) h1 ty
    obtain ⟨X', q1⟩ := ih n (i + 1) (evD (cd i) (op i) (hV u 229) X st.length) (evD (cd i) (op i) (hV u 229) D st.length) st1 st' b (by omega) (by omega) h2 l1 cg tn.1
    refine ⟨X', ?_⟩
    have ev : evR cd op (hV u 229) (k + 1) i D st.length = evR cd op (hV u 229) k (i + 1) (evD (cd i) (op i) (hV u 229) D st.length) st1.length := by
      show evR cd op (hV u 229) k (i + 1) (evD (cd i) (op i) (hV u 229) D st.length) (evN (cd i) st.length) = _
      rw [tn.2]
    rw [ev, ← q1]
    have ik : ((i + 1 + k : Nat) : Int) = ((i + (k + 1) : Nat) : Int) := by omega
    rw [ik]
    have xi : ((i : Int) ≥ ((i + (k + 1) : Nat) : Int)) = False := by
      apply propext
      constructor
      · intro z
        omega
      · intro z
        exact z.elim
    have hs1 := RS_shp X st.length hs
    have wi : w32 (w32 (400 * (r : Int)) + i) = ((400 * r + i : Nat) : Int) := by
      rw [w32_id (x := 400 * (r : Int)) ⟨by omega, by omega⟩, w32_id ⟨by omega, by omega⟩]
      omega
    have i24 : 400 * r + i < 2400 := by omega
    have rd : hV (RS u X st.length) 222 (400 * r + i) = sgn (cd i) (op i) := by
      rw [RS_n (by decide) (by decide)]
      exact sg i (by omega)
    have sc := sgn_c (oo i (by omega))
    have nx : ∀ Y m, m_X10_reckons_L129 (m_X10_reckons_L8 n) 220 r ((i + (k + 1) : Nat) : Int) i (RS u Y m) = m_X10_reckons_L8 n 220 r ((i + (k + 1) : Nat) : Int) ((i + 1 : Nat) : Int) (RS u Y m) := fun Y m => by
      simp only [m_X10_reckons_L129, hgI_k, hgR_k, hpI_k, hpR_k, hpZ_k, haI_k, haR_k, hsI_k, hsZ_k, hlen_k, hlet_p, hret_p, hretZ_0, hretZ_1, hif_p, okk_setV, okk_setF, nV, nF, fV, vF, ix_s (show i < 1000000 by omega)]
    have n10 : ¬ (1 : Int) ≠ 1 := by decide
    rcases tyS_in h1 with ⟨hc, hl2, rfl⟩ | ⟨hc, r', rfl, rfl⟩ | ⟨hc, r', rfl, rfl⟩ | ⟨hc, r', rfl, rfl⟩ | ⟨hc, r', rfl, rfl⟩
    · rcases hc with hc | hc
      · have z := sc.1 hc
        have pu := y_push hs X (n := st.length) (by omega) (op i)
        have ex : sup X st.length (op i) = evD (cd i) (op i) (hV u 229) X st.length := by
          unfold evD
          rw [if_pos hc]
        rw [ex] at pu
        simp only [m_X10_reckons_L8, hgI_k, hgR_k, hpI_k, hpR_k, hpZ_k, haI_k, haR_k, hsI_k, hsZ_k, hlen_k, hlet_p, hret_p, hretZ_0, hretZ_1, hif_p, okk_setV, okk_setF, nV, nF, fV, vF, hcallV_b, hbind_p, haI_n, kk_220 hs1, rf_220_3 hs1, kk_222 hs1, ln_222 hs1, wi, i24, rd, z.1, z.2, xi, if_false, pu, nx, ne_eq, not_true_eq_false]
        rfl
      · have z := sc.2.1 hc
        have ob := (oo i (by omega)).2 hc
        obtain ⟨o, ho⟩ : ∃ o : Nat, op i = o := ⟨(op i).toNat, by omega⟩
        have o12 : o < 12 := by omega
        have pu := y_push hs X (n := st.length) (by omega) (hV u 229 o)
        have ex : sup X st.length (hV u 229 o) = evD (cd i) (op i) (hV u 229) X st.length := by
          unfold evD
          rw [if_neg (by omega), if_pos hc, ho, Int.toNat_natCast]
        rw [ex] at pu
        have r29 : hV (RS u X st.length) 229 = hV u 229 := RS_n (by decide) (by decide)
        have n1 : (1 : Int) ≠ 0 := by decide
        simp only [m_X10_reckons_L8, hgI_k, hgR_k, hpI_k, hpR_k, hpZ_k, haI_k, haR_k, hsI_k, hsZ_k, hlen_k, hlet_p, hret_p, hretZ_0, hretZ_1, hif_p, okk_setV, okk_setF, nV, nF, fV, vF, hcallV_b, hbind_p, haI_n, kk_220 hs1, rf_220_3 hs1, kk_222 hs1, ln_222 hs1, wi, i24, rd, z.1, z.2.trans ho, xi, if_false, rf_220_19 hs1, kk_229 hs1, ln_229 hs1, o12, r29, if_pos n1, if_neg n10, pu, nx]
        rfl
    · have z := sc.2.2.1 hc
      have hl' : r'.length + 1 ≤ 60 := hl
      have po := y_pop hs X (n := r'.length) (by omega)
      have po' : m_X10_pop 220 (RS u X (true :: r').length) = some (X r'.length, RS u X r'.length) := po
      have hs2 := RS_shp X r'.length hs
      have pu := y_push hs X (n := r'.length) (by omega) (w64 (1 - X r'.length))
      have tv : X r'.length = 0 ∨ X r'.length = 1 := by
        rw [hX r'.length (show r'.length < r'.length + 1 by omega)]
        exact ty.1 rfl
      have ex : sup X r'.length (w64 (1 - X r'.length)) = evD (cd i) (op i) (hV u 229) X (true :: r').length := by
        unfold evD
        rw [if_neg (by omega), if_neg (by omega), if_pos hc]
        show _ = sup X r'.length (if X r'.length = 0 then 1 else 0)
        rcases tv with v | v
        · rw [v]
          rfl
        · rw [v]
          rfl
      rw [ex] at pu
      have n1 : (11 : Int) ≠ 0 := by decide
      have n2 : (11 : Int) ≠ 1 := by decide
      have n3 : ¬ (11 : Int) ≠ 11 := by decide
      simp only [m_X10_reckons_L8, hgI_k, hgR_k, hpI_k, hpR_k, hpZ_k, haI_k, haR_k, hsI_k, hsZ_k, hlen_k, hlet_p, hret_p, hretZ_0, hretZ_1, hif_p, okk_setV, okk_setF, nV, nF, fV, vF, hcallV_b, hbind_p, haI_n, kk_220 hs1, rf_220_3 hs1, kk_222 hs1, ln_222 hs1, wi, i24, rd, z, xi, if_false, if_pos n1, if_pos n2, if_neg n3, po', kk_220 hs2, pu, nx]
      rfl
    all_goals
      have jc : isNum (cd i) ∨ isCmp (cd i) ∨ isLog (cd i) := by
        first
          | exact Or.inl hc
          | exact Or.inr (Or.inl hc)
          | exact Or.inr (Or.inr hc)
      have n0 : ¬ cd i = 0 := by
        intro z
        rw [z] at hc
        revert hc
        decide
      have n1 : ¬ cd i = 1 := by
        intro z
        rw [z] at hc
        revert hc
        decide
      have n2 : ¬ cd i = 2 := by
        intro z
        rw [z] at hc
        revert hc
        decide
      have z := sc.2.2.2 jc
      have hl' : r'.length + 1 + 1 ≤ 60 := hl
      have po := y_pop hs X (n := r'.length + 1) (by omega)
      have po1 : ∀ b c : Bool, m_X10_pop 220 (RS u X (b :: c :: r').length) = some (X (r'.length + 1), RS u X (r'.length + 1)) := fun b c => po
      have po2 := y_pop hs X (n := r'.length) (by omega)
      have hs2 := RS_shp X (r'.length + 1) hs
      have hs3 := RS_shp X r'.length hs
      have pu := y_push hs X (n := r'.length) (by omega) (jn (cd i) (X r'.length) (X (r'.length + 1)))
      have ex : ∀ b c : Bool, sup X r'.length (jn (cd i) (X r'.length) (X (r'.length + 1))) = evD (cd i) (op i) (hV u 229) X (b :: c :: r').length := fun b c => by
        unfold evD
        rw [if_neg n0, if_neg n1, if_neg n2]
        rfl
      simp only [m_X10_reckons_L8, hgI_k, hgR_k, hpI_k, hpR_k, hpZ_k, haI_k, haR_k, hsI_k, hsZ_k, hlen_k, hlet_p, hret_p, hretZ_0, hretZ_1, hif_p, okk_setV, okk_setF, nV, nF, fV, vF, hcallV_b, hcall_b, hbind_p, haI_n, kk_220 hs1, rf_220_3 hs1, kk_222 hs1, ln_222 hs1, wi, i24, rd, z.1, xi, if_false, if_pos z.2.1, if_pos z.2.2.1, if_pos z.2.2.2, po1, kk_220 hs2, po2, kk_220 hs3, y_one jc, pu, nx]
      rw [ex]
      rfl
