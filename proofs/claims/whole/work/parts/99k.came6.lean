/-! the reference's ways, all counted -/
theorem rfC_skip {S : Nat → Int} {fin : Int} {rc : Int → (Nat → Int) → cZ → cZ} {d : Nat} {q : Int} {L : Nat → Int} : ∀ k i z, rfC S fin rc d q L k i z = rfC S fin rc d q L (i + k - nxB (opQ S q L) k i) (nxB (opQ S q L) k i) z := by
  intro k
  induction k with
  | zero =>
    intro i z
    show z = rfC S fin rc d q L (i + 0 - i) i z
    rw [show i + 0 - i = 0 by omega]
    rfl
  | succ k ih =>
    intro i z
    show _ = rfC S fin rc d q L (i + (k + 1) - (if opQ S q L i = true then i else nxB (opQ S q L) k (i + 1))) (if opQ S q L i = true then i else nxB (opQ S q L) k (i + 1)) z
    by_cases h : opQ S q L i = true
    · rw [if_pos h, show i + (k + 1) - i = k + 1 by omega]
    · rw [if_neg h, rfC_s]
      have e : rsC S fin rc d q L i z = z := by
        unfold rsC
        rw [if_neg (fun y => h (decide_eq_true y))]
      rw [e, ih (i + 1) z, show i + 1 + k = i + (k + 1) by omega]
theorem cT_z {S : Nat → Int} {B : Nat} {fin : Int} (B9 : B ≤ 9) (d : Nat) (q : Int) (L : Nat → Int) (h : (cT S B fin (d + 1) q L).1 = 0) : cT S B fin (d + 1) q L = (0, 0, -2) := by
  rw [cT_s] at h ⊢
  have C : ∀ k i (t : cZ), 0 ≤ t.1 → (t.1 = 0 → t = (0, 0, -2)) → (foC S (cT S B fin d) d q L k i t).1 = 0 → foC S (cT S B fin d) d q L k i t = (0, 0, -2) := by
    intro k
    induction k with
    | zero =>
      intro i t _ ht h
      exact ht h
    | succ k ih =>
      intro i t t0 ht h
      rw [foC_s] at h ⊢
      have c := cT_in (S := S) (B := B) (fin := fin) B9 d (qEnd S (94 + 2 * i) q) (lsA L i)
      refine ih (i + 1) _ ?_ (fun y => ?_) h
      · unfold stC
        split
        · rename_i x
          show 0 ≤ t.1 + _
          have := x.2
          omega
        · exact t0
      · unfold stC at y ⊢
        by_cases x : (0 ≤ qEnd S (94 + 2 * i) q ∧ 0 < L i) ∧ 0 < (cT S B fin d (qEnd S (94 + 2 * i) q) (lsA L i)).1
        · rw [if_pos x] at y
          have y' : t.1 + (cT S B fin d (qEnd S (94 + 2 * i) q) (lsA L i)).1 = 0 := y
          have := x.2
          omega
        · rw [if_neg x] at y ⊢
          exact ht y
  exact C B 0 (0, 0, -2) (Int.le_refl _) (fun _ => rfl) h
/-- numbers of the count stay in range: few are left -/
def czB (z : cZ) (m : Int) : Prop := 0 ≤ z.1 ∧ z.1 + m ≤ 1000000000 ∧ z.2.1 < 512
def rcD (S : Nat → Int) (B : Nat) (fin : Int) : Nat → Int → (Nat → Int) → cZ → cZ
  | 0 => fun _ _ z => z
  | d + 1 => rN S B fin d
theorem rN_rc (S : Nat → Int) (B : Nat) (fin : Int) (d : Nat) (q : Int) (L : Nat → Int) (z : cZ) : rN S B fin d q L z = rfC S fin (rcD S B fin d) d q L B 0 z := by
  cases d with
  | zero => rfl
  | succ d => rfl
theorem rN_B {S : Nat → Int} {B : Nat} {fin : Int} (B9 : B ≤ 9) (d : Nat) (q : Int) (L : Nat → Int) (z : cZ) (m : Int) (h : czB z (pw9 (d + 1) + m)) : czB (rN S B fin d q L z) m := by
  have c := cT_in (S := S) (B := B) (fin := fin) B9 (d + 1) q L
  have p := pw9_pos (d + 1)
  obtain ⟨h1, h2, h3⟩ := h
  rw [rN_cT B9 d q L z h1]
  unfold jnC
  split
  · exact ⟨h1, by omega, h3⟩
  · refine ⟨?_, ?_, ?_⟩
    · show 0 ≤ z.1 + (cT S B fin (d + 1) q L).1
      have := c.1
      omega
    · show z.1 + (cT S B fin (d + 1) q L).1 + m ≤ _
      have := c.2.1
      omega
    · exact Nat.or_lt_two_pow (n := 9) h3 c.2.2.1
theorem rsC_B {S : Nat → Int} {B : Nat} {fin : Int} (B9 : B ≤ 9) (d : Nat) (q : Int) (L : Nat → Int) {b : Nat} (hb : b < 9) (z : cZ) (m : Int) (h : czB z (pw9 d + m)) : czB (rsC S fin (rcD S B fin d) d q L b z) m := by
  have p := pw9_pos d
  obtain ⟨h1, h2, h3⟩ := h
  unfold rsC
  split
  · cases d with
    | zero =>
      rw [if_pos rfl]
      split
      · refine ⟨?_, ?_, Nat.or_lt_two_pow (n := 9) h3 (p2lt hb)⟩
        · show 0 ≤ z.1 + 1
          omega
        · show z.1 + 1 + m ≤ _
          have e : pw9 0 = 1 := rfl
          omega
      · exact ⟨h1, by omega, h3⟩
    | succ d =>
      rw [if_neg (by omega)]
      exact rN_B B9 d _ _ z m ⟨h1, h2, h3⟩
  · exact ⟨h1, by omega, h3⟩
def chC (u : hS) (S : Nat → Int) (p B n : Nat) (fin : Int) (d k g : Nat) : Prop := ∀ (q : Int) (L W : Nat → Int) (z : cZ) (x nn : Nat), lok9 B L → W k = (x : Int) → x < 9 → 0 ≤ q → czB z (pw9 d) → g < nn → ∃ n' W', nn ≤ n' + g ∧ tlC (m_X10_findsRows_L33 nn) p n q k (VS u L W z) = m_X10_findsRows_L33 n' 220 p n q k (VS u L W' (if d = 0 then (if q = fin then (z.1 + 1, z.2.1 ||| 2 ^ x, if z.1 = 0 then (x : Int) else z.2.2) else z) else rcD S B fin d q L z)) ∧ ∀ j, j ≤ k → W' j = W j
theorem y_lvC {u : hS} {S : Nat → Int} {p B n : Nat} {fin : Int} (c : cmC u S p B n fin) {d k g : Nat} (hk : k < n) (child : chC u S p B n fin d k g) {q : Int} {L : Nat → Int} (hL : lok9 B L) : ∀ (M m i : Nat) (W : Nat → Int) (z : cZ) (nn : Nat), m ≤ M → i + m = B → W k = (i : Int) - 1 → czB z ((m : Int) * pw9 d) → m * (g + 1) < nn → ∃ n' W', nn ≤ n' + m * (g + 1) ∧ m_X10_findsRows_L77 (m_X10_findsRows_L33 nn) 220 p n q k (VS u L W z) = m_X10_findsRows_L33 n' 220 p n q ((k : Int) - 1) (VS u L W' (rfC S fin (rcD S B fin d) d q L m i z)) ∧ ∀ j, j < k → W' j = W j := by
  have B9 := c.2.2.2.1
  have pp := pw9_pos d
  intro M
  induction M with
  | zero =>
    intro m i W z nn hm hi hw hz hn
    obtain rfl : m = 0 := by omega
    have iB : i = B := by omega
    refine ⟨nn, sup (sup W k (B : Int)) k (-1), by omega, ?_, fun j hj => by rw [sup_n (by omega), sup_n (by omega)]⟩
    rw [y_upC c hL hk hi hw iB]
    rfl
  | succ M ihM =>
    intro m i W z nn hm hi hw hz hn
    have nb := nxB_in (opQ S q L) m i
    obtain ⟨x, hx⟩ : ∃ x, x = nxB (opQ S q L) m i := ⟨_, rfl⟩
    rw [rfC_skip m i z, ← hx]
    rw [← hx] at nb
    by_cases xB : x = B
    · refine ⟨nn, sup (sup W k (B : Int)) k (-1), by omega, ?_, fun j hj => by rw [sup_n (by omega), sup_n (by omega)]⟩
      rw [y_upC c hL hk hi hw (by rw [← hx]; exact xB), show i + m - x = 0 by omega]
      rfl
    have ox := of_decide_eq_true (nb.2.2 (by omega))
    have xB' : x < B := by omega
    obtain ⟨m', hm'⟩ : ∃ m', i + m - x = m' + 1 := ⟨i + m - x - 1, by omega⟩
    rw [hm', rfC_s]
    have mle : (m' + 1) * (g + 1) ≤ m * (g + 1) := Nat.mul_le_mul_right _ (by omega)
    rw [Nat.succ_mul] at mle
    have mz : ((m' + 1 : Nat) : Int) * pw9 d ≤ (m : Int) * pw9 d := Int.mul_le_mul_of_nonneg_right (by omega) (by omega)
    have ez : ((m' + 1 : Nat) : Int) * pw9 d = (m' : Int) * pw9 d + pw9 d := by
      rw [show ((m' + 1 : Nat) : Int) = (m' : Int) + 1 by omega, Int.add_mul, Int.one_mul]
    have mp : 0 ≤ (m' : Int) * pw9 d := Int.mul_nonneg (by omega) (by omega)
    have rb := rsC_B (S := S) (B := B) (fin := fin) B9 d q L (b := x) (by omega) z ((m' : Int) * pw9 d) ⟨hz.1, by have := hz.2.1; omega, hz.2.2⟩
    have lx := hL x xB'
    rw [y_dnC c hL hk hi hw hx.symm xB']
    obtain ⟨n1, W1, a1, a2, a3⟩ := child (qEnd S (94 + 2 * x) q) (lsA L x) (sup W k (x : Int)) z x nn (hL.ls ox.2) sup_s (by omega) ox.1 ⟨hz.1, by have := hz.2.1; omega, hz.2.2⟩ (by omega)
    have st : rsC S fin (rcD S B fin d) d q L x z = (if d = 0 then (if qEnd S (94 + 2 * x) q = fin then (z.1 + 1, z.2.1 ||| 2 ^ x, if z.1 = 0 then (x : Int) else z.2.2) else z) else rcD S B fin d (qEnd S (94 + 2 * x) q) (lsA L x) z) := by
      unfold rsC
      rw [if_pos ox]
    rw [← st] at a2
    obtain ⟨n1, rfl⟩ : ∃ y, n1 = y + 1 := ⟨n1 - 1, by omega⟩
    have w1 : W1 k = (x : Int) := by
      rw [a3 k (Nat.le_refl _), sup_s]
    obtain ⟨n', W', b1, b2, b3⟩ := ihM m' (x + 1) W1 _ n1 (by omega) (by omega) (by rw [w1]; omega) rb (by omega)
    refine ⟨n', W', by omega, ?_, fun j hj => by rw [b3 j hj, a3 j (by omega), sup_n (by omega)]⟩
    rw [a2, y_hdC c hk xB' ⟨ox.2, lx.2⟩ ox.1 w1, b2]
def cstC : Nat → Nat
  | 0 => 0
  | d + 1 => 1 + 9 * (cstC d + 1)
theorem y_chC {u : hS} {S : Nat → Int} {p B n : Nat} {fin : Int} (c : cmC u S p B n fin) : ∀ d k, k + d + 1 = n → chC u S p B n fin d k (cstC d) := by
  obtain ⟨hs, hS, hB, B9, p4, hf, hn⟩ := id c
  intro d
  induction d with
  | zero =>
    intro k hk q L W z x nn hL hw x9 q0 hz hg
    have h1 := VS_shp L W z hs
    have k8 : k < 8 := by omega
    have po := y_personOf0 h1 p4
    rw [VS_n (by decide) (by decide) (by decide), hS, hf] at po
    have wn : True → (k : Int) ≥ w32 ((n : Int) - 1) := by
      intro _
      rw [w32_id ⟨by omega, by omega⟩]
      omega
    refine ⟨nn, W, by omega, ?_, fun _ _ => rfl⟩
    rw [if_pos rfl]
    by_cases y : q = fin
    · rw [if_pos y]
      have sh : ishlZ 1 (x : Int) = ((2 ^ x : Nat) : Int) := ishl_1 x x9
      have p2 := p2lt x9
      obtain ⟨z1, z2, z3⟩ := hz
      have pp0 := pw9_pos 0
      have w1 : w32 (z.1 + 1) = z.1 + 1 := w32_id ⟨by omega, by omega⟩
      have L205 : ∀ f, m_X10_findsRows_L205 (m_X10_findsRows_L33 nn) 220 p n q k (VS u L W (z.1, z.2.1, f)) = m_X10_findsRows_L33 nn 220 p n q k (VS u L W (z.1 + 1, z.2.1 ||| 2 ^ x, f)) := fun f => by
        have h2 := VS_shp L W (z.1, z.2.1, f) hs
        have h3 := VS_shp L W (z.1, z.2.1 ||| 2 ^ x, f) hs
        simp only [m_X10_findsRows_L205, hgI_k, hgR_k, hpI_k, hpR_k, hpZ_k, haI_k, haR_k, hsI_k, hsZ_k, hlen_k, hlet_p, hret_p, hretZ_0, hretZ_1, hif_p, okk_setV, okk_setF, nV, nF, fV, vF, haI_n, kk_220 h2, rf_220_26 h2, kk_234 h2, ln_234 h2, k8, VS_234, VS_35, hw, sh, iorZ_n (a := z.2.1) (b := 2 ^ x) (show z.2.1 < 2147483648 by omega) (show 2 ^ x < 2147483648 by omega), VS_z2, kk_220 h3, VS_34, w1, VS_z1]
      unfold tlC
      simp only [hlet_p, hif_p, hgR_k, hgI_k, hpI_k, hcallV_b, hbind_p, haI_n, kk_220 h1, rf_220_26 h1, kk_234 h1, ln_234 h1, k8, VS_234, hw, po, VS_34, VS_z3]
      rw [if_pos (wn trivial), if_neg (fun x => x y)]
      by_cases z0 : z.1 = 0
      · rw [if_neg (fun x => x z0), if_pos z0, L205]
      · rw [if_pos z0, if_neg z0]
        exact L205 z.2.2
    · rw [if_neg y]
      unfold tlC
      simp only [hlet_p, hif_p, hgR_k, hgI_k, hcallV_b, hbind_p, kk_220 h1, po]
      rw [if_pos (wn trivial), if_pos y]
  | succ d ih =>
    intro k hk q L W z x nn hL hw x9 q0 hz hg
    have h1 := VS_shp L W z hs
    have k18 : k + 1 < 8 := by omega
    have cs : cstC (d + 1) = 1 + 9 * (cstC d + 1) := rfl
    rw [cs] at hg ⊢
    obtain ⟨nn, rfl⟩ : ∃ y, nn = y + 1 := ⟨nn - 1, by omega⟩
    have ble : B * (cstC d + 1) ≤ 9 * (cstC d + 1) := Nat.mul_le_mul_right _ B9
    have pz : (B : Int) * pw9 d ≤ 9 * pw9 d := Int.mul_le_mul_of_nonneg_right (by omega) (by have := pw9_pos d; omega)
    have e9 : pw9 (d + 1) = 9 * pw9 d := rfl
    obtain ⟨n', W', a1, a2, a3⟩ := y_lvC c (d := d) (k := k + 1) (g := cstC d) (by omega) (ih (k + 1) (by omega)) (q := q) hL B B 0 (sup W (k + 1) (-1)) z nn (Nat.le_refl _) (by omega) (by rw [sup_s]; rfl) ⟨hz.1, by have := hz.2.1; omega, hz.2.2⟩ (by omega)
    refine ⟨n', W', by omega, ?_, fun j hj => by rw [a3 j (by omega), sup_n (by omega)]⟩
    have ek : (((k + 1 : Nat) : Int) - 1) = (k : Int) := by omega
    rw [ek, ← rN_rc] at a2
    rw [if_neg (by omega)]
    show _ = m_X10_findsRows_L33 n' 220 p n q k (VS u L W' (rN S B fin d q L z))
    rw [← a2, ← y_hd0 hs k18 (by rw [sup_s]; decide)]
    have wn : True → ¬ (k : Int) ≥ w32 ((n : Int) - 1) := by
      intro _
      rw [w32_id ⟨by omega, by omega⟩]
      omega
    unfold tlC
    simp only [hlet_p, hif_p, hgR_k, hsI_n, kk_220 h1, rf_220_26 h1, kk_234 h1, ln_234 h1, k18, ix_s (show k < 1000000 by omega), VS_W]
    rw [if_neg (wn trivial)]
theorem cstC_7 : ∀ d, d < 8 → 9 * (cstC d + 1) + 10 < 999999999 := by decide
theorem y_findsRows {u : hS} {S : Nat → Int} {p B n : Nat} {fin home : Int} (c : cmC u S p B n fin) (hh : S (11 + 3 * p) = home) {L : Nat → Int} (hL : lok9 B L) (h238 : hV u 238 = L) : ∃ W, m_X10_findsRows 220 p n u = some (0, VS u L W (cT S B fin n home L)) := by
  obtain ⟨hs, hS, hB, B9, p4, hf, hn⟩ := id c
  obtain ⟨d, hd⟩ : ∃ d, n = d + 1 := ⟨n - 1, by omega⟩
  have c7 := cstC_7 d (by omega)
  have ble : B * (cstC d + 1) ≤ 9 * (cstC d + 1) := Nat.mul_le_mul_right _ B9
  have pz : (B : Int) * pw9 d ≤ 9 * pw9 d := Int.mul_le_mul_of_nonneg_right (by omega) (by have := pw9_pos d; omega)
  have p98 := pw9_8 d (by omega)
  obtain ⟨n', W', a1, a2, a3⟩ := y_lvC c (d := d) (k := 0) (g := cstC d) (by omega) (y_chC c d 0 (by omega)) (q := home) hL B B 0 (sup (hV u 234) 0 (-1)) (0, 0, -2) 999999999 (Nat.le_refl _) (by omega) (by rw [sup_s]; rfl) ⟨show (0 : Int) ≤ 0 by decide, by show (0 : Int) + (B : Int) * pw9 d ≤ 1000000000; omega, show (0 : Nat) < 512 by decide⟩ (by omega)
  obtain ⟨n', rfl⟩ : ∃ y, n' = y + 1 := ⟨n' - 1, by omega⟩
  rw [← rN_rc, rN_cT B9 d home L (0, 0, -2) (show (0 : Int) ≤ 0 by decide), ← hd] at a2
  have jz : jnC (0, 0, -2) (cT S B fin n home L) = cT S B fin n home L := by
    have ci := cT_in (S := S) (B := B) (fin := fin) B9 n home L
    unfold jnC
    by_cases y : (cT S B fin n home L).1 = 0
    · rw [if_pos y]
      have e : cT S B fin n home L = (0, 0, -2) := by
        rw [hd] at y ⊢
        exact cT_z B9 d home L y
      exact e.symm
    · rw [if_neg y]
      show (0 + (cT S B fin n home L).1, 0 ||| (cT S B fin n home L).2.1, if (0 : Int) = 0 then (cT S B fin n home L).2.2 else -2) = _
      rw [Int.zero_add, Nat.zero_or, if_pos rfl]
  rw [jz] at a2
  refine ⟨W', ?_⟩
  have fin' : m_X10_findsRows_L33 (n' + 1) 220 p n home (((0 : Nat) : Int) - 1) (VS u L W' (cT S B fin n home L)) = some (0, VS u L W' (cT S B fin n home L)) := by
    simp only [m_X10_findsRows_L33, hgI_k, hgR_k, hpI_k, hpR_k, hpZ_k, haI_k, haR_k, hsI_k, hsZ_k, hlen_k, hlet_p, hret_p, hretZ_0, hretZ_1, hif_p, okk_setV, okk_setF, nV, nF, fV, vF]
    rw [if_pos (by decide)]
  have hd0 := y_hd0 hs (p := p) (n := n) (k := 0) (nn := 999999999) (q := home) (L := L) (W := sup (hV u 234) 0 (-1)) (z := ((0 : Int), (0 : Nat), (-2 : Int))) (by decide) (by rw [sup_s]; decide)
  have all := (hd0.trans a2).trans fin'
  rw [← all]
  have st : VS u L (sup (hV u 234) 0 (-1)) (0, 0, -2) = hsetV (hsetV (hsetV (hsetV u 220 34 0) 220 35 0) 220 36 (-2)) 234 0 (-1) := by
    unfold VS
    have e1 : hput u 238 L = u := by rw [← h238, hput_self]
    rw [e1, setV_put1 u, setV_put, setV_put, setV_put1 (hput u 220 _), hV_put_n (show 234 ≠ 220 by decide), put_comm (show 234 ≠ 220 by decide)]
    rfl
  have po := y_personOf1 hs p4
  rw [hS, hh] at po
  rw [st]
  simp only [m_X10_findsRows, hgI_k, hgR_k, hpI_k, hpR_k, hpZ_k, haI_k, haR_k, hsI_k, hsZ_k, hlen_k, hlet_p, hret_p, hretZ_0, hretZ_1, hif_p, okk_setV, okk_setF, nV, nF, fV, vF, hcallV_b, hbind_p, kk_220 hs, kk_234 hs, rf_220_26 hs, ln_234 hs, po]
  rw [hsI_k (kk_234 (show shp (hsetV (hsetV (hsetV u 220 34 0) 220 35 0) 220 36 (-2)) from hs)) (by decide) (by rw [ln_234 (show shp (hsetV (hsetV (hsetV u 220 34 0) 220 35 0) 220 36 (-2)) from hs)]; decide)]
  rfl
