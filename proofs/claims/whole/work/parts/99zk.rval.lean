/-! a value of a rule, both readers -/
theorem y_wordHere {n : Nat} {B : Nat → Int} {u : hS} (h : rTp n B u) (w m : Int) {q : Nat} (hq : q ≤ n) (ss : sk B n q = q) : m_X10_wordHere 220 (rS u (q : Int) w m) = some (wfind B n q ruW 0, rS u (q : Int) w m) := by
  have I : ∀ W : Int, m_X10_isWord 220 W (rS u (q : Int) w m) = some (if isW B n q W then 1 else 0, rS u (q : Int) w m) := fun W => by
    have := r_isWord h W w m hq
    rwa [ss] at this
  have k : okk (rS u (q : Int) w m) 220 10 := by
    rw [rS_k]
    exact kk_220 h.1
  have z : ¬ ((1 : Int) = 0) := by decide
  unfold m_X10_wordHere ruW
  rw [wfind_c, hcallV_b k, I, hbind_p, hif_p]
  by_cases a0 : isW B n q 123581014175598
  · rw [if_pos a0, if_pos a0, if_neg z]
    rfl
  rw [if_neg a0, if_neg a0, if_pos rfl]
  rw [wfind_c, hcallV_b k, I, hbind_p, hif_p]
  by_cases a1 : isW B n q 108243533981541
  · rw [if_pos a1, if_pos a1, if_neg z]
    rfl
  rw [if_neg a1, if_neg a1, if_pos rfl]
  rw [wfind_c, hcallV_b k, I, hbind_p, hif_p]
  by_cases a2 : isW B n q 1718775661
  · rw [if_pos a2, if_pos a2, if_neg z]
    rfl
  rw [if_neg a2, if_neg a2, if_pos rfl]
  rw [wfind_c, hcallV_b k, I, hbind_p, hif_p]
  by_cases a3 : isW B n q 29807
  · rw [if_pos a3, if_pos a3, if_neg z]
    rfl
  rw [if_neg a3, if_neg a3, if_pos rfl]
  rw [wfind_c, hcallV_b k, I, hbind_p, hif_p]
  by_cases a4 : isW B n q 1752132965
  · rw [if_pos a4, if_pos a4, if_neg z]
    rfl
  rw [if_neg a4, if_neg a4, if_pos rfl]
  rw [wfind_c, hcallV_b k, I, hbind_p, hif_p]
  by_cases a5 : isW B n q 1818584692
  · rw [if_pos a5, if_pos a5, if_neg z]
    rfl
  rw [if_neg a5, if_neg a5, if_pos rfl]
  rw [wfind_c, hcallV_b k, I, hbind_p, hif_p]
  by_cases a6 : isW B n q 6578553
  · rw [if_pos a6, if_pos a6, if_neg z]
    rfl
  rw [if_neg a6, if_neg a6, if_pos rfl]
  rw [wfind_c, hcallV_b k, I, hbind_p, hif_p]
  by_cases a7 : isW B n q 1735352684
  · rw [if_pos a7, if_pos a7, if_neg z]
    rfl
  rw [if_neg a7, if_neg a7, if_pos rfl]
  rw [wfind_c, hcallV_b k, I, hbind_p, hif_p]
  by_cases a8 : isW B n q 7364985
  · rw [if_pos a8, if_pos a8, if_neg z]
    rfl
  rw [if_neg a8, if_neg a8, if_pos rfl]
  rw [wfind_c, hcallV_b k, I, hbind_p, hif_p]
  by_cases a9 : isW B n q 504364296556
  · rw [if_pos a9, if_pos a9, if_neg z]
    rfl
  rw [if_neg a9, if_neg a9, if_pos rfl]
  rw [wfind_c, hcallV_b k, I, hbind_p, hif_p]
  by_cases a10 : isW B n q 121381705639282
  · rw [if_pos a10, if_pos a10, if_neg z]
    rfl
  rw [if_neg a10, if_neg a10, if_pos rfl]
  rw [wfind_c, hcallV_b k, I, hbind_p, hif_p]
  by_cases a11 : isW B n q 123580963646565
  · rw [if_pos a11, if_pos a11, if_neg z]
    rfl
  rw [if_neg a11, if_neg a11, if_pos rfl]
  rfl
/-- what the reference does where the class has read on -/
def refO (v : hS) (r : Nat) (Z O : Nat → Int) (dp oc : Int) (g : hM) (st : hS) (f p' k' M' : Nat) (cd' op' : Nat → Int) : Prop := ∃ (Z' : Nat → Int) (m' p'' k'' M'' : Int), g st = some (if f = 0 then 1 else 0, rS (RX v r Z' M'' O k'' dp oc) p'' (f : Int) m') ∧ zF r Z Z' ∧ (f = 0 → p'' = (p' : Int) ∧ k'' = (k' : Int) ∧ M'' = (M' : Int) ∧ zk r Z' cd' op' M')
theorem refO_b {v : hS} {r : Nat} {Z O : Nat → Int} {dp oc : Int} {g : hM} {st : hS} {f p' k' M' : Nat} {cd' op' : Nat → Int} (hf : f ≠ 0) (Z' : Nat → Int) (m' p'' k'' M'' : Int) (e : g st = some (0, rS (RX v r Z' M'' O k'' dp oc) p'' (f : Int) m')) (z : zF r Z Z') : refO v r Z O dp oc g st f p' k' M' cd' op' := ⟨Z', m', p'', k'', M'', by rw [if_neg hf]; exact e, z, fun y => absurd y hf⟩
theorem refO_g {v : hS} {r : Nat} {Z O : Nat → Int} {dp oc : Int} {g : hM} {st : hS} {p' k' M' : Nat} {cd' op' : Nat → Int} (Z' : Nat → Int) (m' : Int) (e : g st = some (1, rS (RX v r Z' (M' : Int) O (k' : Int) dp oc) (p' : Int) 0 m')) (z : zF r Z Z') (y : zk r Z' cd' op' M') : refO v r Z O dp oc g st 0 p' k' M' cd' op' := ⟨Z', m', _, _, _, by rw [if_pos rfl]; exact e, z, fun _ => ⟨rfl, rfl, rfl, y⟩⟩
/-- both readers from p, M, k on -/
def Jt (n : Nat) (B : Nat → Int) (u : hS) (Q r : Nat) (g g' : hM) (p M k : Nat) (cd op : Nat → Int) (a : Nat) (ts' : List Bool) : Prop := ∀ s : Int, ∃ (f p' k' M' : Nat) (s' : Int) (cd' op' : Nat → Int), g (tS (RM u Q cd op M k) (p : Int) s 0) = some (0, tS (RM u Q cd' op' M' k') (p' : Int) s' (f : Int)) ∧ p' ≤ n ∧ M' ≤ 400 ∧ (f = 0 → p < p' ∧ mv p M cd op p' M' cd' op' ∧ tk cd' op' M' a ts' k') ∧ ∀ (v : hS) (Z O : Nat → Int) (dp oc m : Int), rTp n B v → hV v 220 11 = (r : Int) → zk r Z cd op M → refO v r Z O dp oc g' (rS (RX v r Z M O k dp oc) (p : Int) 0 m) f p' k' M' cd' op'
theorem sgn_0 (o : Int) : sgn 0 o = 16 * o := rfl
theorem sgn_1 (o : Int) : sgn 1 o = 1 + 16 * o := rfl
theorem wfind_pos' {B : Nat → Int} {n q : Nat} : ∀ (ws : List Int) (k : Nat), wfind B n q ws k ≠ -1 → 0 < wl B n q := by
  intro ws
  induction ws with
  | nil => exact fun k h => absurd rfl h
  | cons w ws ih =>
    intro k h
    rw [wfind_c] at h
    by_cases z : isW B n q w
    · exact z.1
    · rw [if_neg z] at h
      exact ih (k + 1) h
theorem wfind_pos {B : Nat → Int} {n q : Nat} {ws : List Int} {k : Nat} (h : wfind B n q ws k ≠ -1) : 0 < wl B n q := wfind_pos' ws k h
theorem j_val {n : Nat} {B : Nat → Int} (hB : byB B n) {u : hS} (h : cTp n B u) {Q r : Nat} (ru : RuA u Q) (q54 : 54 ≤ Q) (r6 : r < 6) {p M k a : Nat} {cd op : Nat → Int} {ts : List Bool} (t : tk cd op M a ts k) (Mp : M ≤ p) (hp : p ≤ n) : Jt n B u Q r (m_X3_readValue Q 2) (m_X10_value 220) p M k cd op a (false :: ts) := by
  intro s
  have hs := h.1
  have n4 := h.2.2.2
  have h0 := RM_tp h q54 cd op M k
  obtain ⟨t1, t2, t3, t4, t5⟩ := id t
  have sk1 := sk_le B hp
  have ss := sk_sk B hp
  have N := c_next h0 s 0 hp
  have pn := dl_b B sk1.2
  have pw := (wl_b B sk1.2).1
  have n10 : ¬ ((1 : Int) = 0) := by decide
  -- the reference's first steps
  have R0 : ∀ (v : hS) (Z O : Nat → Int) (dp oc m : Int), rTp n B v → m_X10_value 220 (rS (RX v r Z M O k dp oc) (p : Int) 0 m) = (if sk B n p < n ∧ isDg (B (sk B n p)) then hbind (m_X10_numberHere 220 0 99999 (rS (RX v r Z M O k dp oc) ((sk B n p : Nat) : Int) 0 m)) (fun v10 => hif (v10 = 0) m_X10_value_L39 (hcallV 10 220 (m_X10_makes 220 ((sk B n p : Nat) : Int)) fun v11 => hif (v11 ≠ 0) (hgI 10 220 10 fun v12 => hcallV 10 220 (m_X10_puts 220 0 v12) fun _ => hretZ 1) m_X10_value_L39)) else (hif (wfind B n (sk B n p) ruW 0 ≥ 0) (hcallV 10 220 (m_X10_makes 220 ((sk B n p : Nat) : Int)) fun v8 => hif (v8 ≠ 0) (hcallV 10 220 (m_X10_passWord 220) fun _ => hcallV 10 220 (m_X10_puts 220 1 (wfind B n (sk B n p) ruW 0)) fun _ => hretZ 1) (hretZ 0)) (hcallV 10 220 (m_X10_fails 220 0 ((sk B n p : Nat) : Int)) fun v9 => hretZ v9)) (rS (RX v r Z M O k dp oc) ((sk B n p : Nat) : Int) 0 m)) := fun v Z O dp oc m hv => by
    have hx := RX_tp hv r Z M O k dp oc
    unfold m_X10_value
    rw [X_cv hv, r_see hx 0 m hp, hbind_p, X_g8 hv, hlet_p, X_g8 hv, X_cv hv, r_isDigit hx _ 0 m sk1.2, hbind_p, hif_p]
    by_cases d : sk B n p < n ∧ isDg (B (sk B n p))
    · rw [if_pos d, if_pos d, if_neg n10, X_cv hv]
    · rw [if_neg d, if_neg d, if_pos rfl, X_cv hv, y_wordHere hx 0 m sk1.2 ss, hbind_p, hlet_p]
  by_cases d : sk B n p < n ∧ isDg (B (sk B n p))
  · -- a number
    have dd := (isDg_chr hB).2 d
    have E := c_number h0 s 0 99999 sk1.2
    rw [ss] at E
    have M4 : M < 400 := by omega
    have C0 : ∀ f : Int, m_X6_number 2 0 99999 (tS (RM u Q cd op M k) ((sk B n p : Nat) : Int) s 0) = some (dv B n (sk B n p), tS (RM u Q cd op M k) ((sk B n p + dl B n (sk B n p) : Nat) : Int) ((sk B n p : Nat) : Int) f) → m_X3_readValue Q 2 (tS (RM u Q cd op M k) (p : Int) s 0) = some (0, tS (RM u Q (sup cd M 0) (sup op M (dv B n (sk B n p))) ((M + 1 : Nat) : Int) ((k + 1 : Nat) : Int)) ((sk B n p + dl B n (sk B n p) : Nat) : Int) ((sk B n p : Nat) : Int) (if k < 60 then f else if f = 0 then ((1 + 8 * sk B n p + 3 : Nat) : Int) else f)) := fun f e => by
      simp only [m_X3_readValue, m_X3_readValue_L44, hgI_k, hgR_k, hpI_k, hpR_k, hpZ_k, haI_k, haR_k, hsI_k, hsZ_k, hlen_k, hlet_p, hret_p, hretZ_0, hretZ_1, hif_p, okk_setV, okk_setF, nV, nF, fV, vF, hcallV_b, hcall_b, hbind_p, tS_k, RM_k, tS_4, tS_3, kk_2 hs, RuA.k0 ru, N, x_isDigit, e, x_emit ru q54 cd op M4, x_count ru q54 hs _ _ _ t5 (show sk B n p ≤ 400 by omega)]
      rw [if_pos (by trivial), if_pos dd, if_neg n10]
    have C := C0 _ E
    by_cases f1 : fN B n (sk B n p) 0 99999 = 0
    · have fz := fN_0 f1
      by_cases kk : k < 60
      · rw [if_pos kk, f1] at C
        refine ⟨0, sk B n p + dl B n (sk B n p), k + 1, M + 1, _, _, _, C, pn, by omega, fun _ => ⟨by omega, mv.e (by omega) _ _, tk_e t (ty_push (.inl rfl) (by omega)) ⟨fun _ => fz.2.2, fun z => absurd z (by decide)⟩ (by show ts.length + 1 ≤ k + 1; omega) (by omega)⟩, fun v Z O dp oc m hv h11 hz => ?_⟩
        have hx := RX_tp hv r Z M O k dp oc
        have Nr := r_numG hx 0 99999 m sk1.2 (by rw [ss]; exact f1)
        rw [ss] at Nr
        refine refO_g (sup Z (400 * r + M) (w32 (0 + w32 (16 * dv B n (sk B n p))))) (dv B n (sk B n p)) ?_ (zF.s M4) (hz.s ?_)
        · rw [R0 v Z O dp oc m hv, if_pos d, Nr, hbind_p, hif_p, if_neg n10, X_cv hv, y_makes hv h11 r6 Z M O t5 dp oc _ _ sk1.2, if_pos kk, hbind_p, hif_p, if_pos (by decide), X_g10 hv, X_cv hv, y_puts hv h11 r6 Z M4, hbind_p, hretZ_1]
        · have b := fz.2.2
          have e1 : w32 (16 * dv B n (sk B n p)) = 16 * dv B n (sk B n p) := w32_id ⟨by omega, by omega⟩
          rw [e1, sgn_0, w32_id ⟨by omega, by omega⟩]
          omega
      · rw [if_neg kk, f1] at C
        refine ⟨1 + 8 * sk B n p + 3, sk B n p + dl B n (sk B n p), k + 1, M + 1, _, _, _, C, pn, by omega, fun z => absurd z (by omega), fun v Z O dp oc m hv h11 hz => ?_⟩
        have hx := RX_tp hv r Z M O k dp oc
        have Nr := r_numG hx 0 99999 m sk1.2 (by rw [ss]; exact f1)
        rw [ss] at Nr
        refine refO_b (by omega) Z (dv B n (sk B n p)) ((sk B n p + dl B n (sk B n p) : Nat) : Int) (k : Int) (M : Int) ?_ (zF.rf r Z)
        rw [R0 v Z O dp oc m hv, if_pos d, Nr, hbind_p, hif_p, if_neg n10, X_cv hv, y_makes hv h11 r6 Z M O t5 dp oc _ _ sk1.2, if_neg kk, hbind_p, hif_p, if_neg (by decide)]
        rfl
    · have fe : (if k < 60 then ((fN B n (sk B n p) 0 99999 : Nat) : Int) else if ((fN B n (sk B n p) 0 99999 : Nat) : Int) = 0 then ((1 + 8 * sk B n p + 3 : Nat) : Int) else ((fN B n (sk B n p) 0 99999 : Nat) : Int)) = ((fN B n (sk B n p) 0 99999 : Nat) : Int) := by
        by_cases kk : k < 60
        · rw [if_pos kk]
        · rw [if_neg kk, if_neg (by omega)]
      rw [fe] at C
      refine ⟨fN B n (sk B n p) 0 99999, sk B n p + dl B n (sk B n p), k + 1, M + 1, _, _, _, C, pn, by omega, fun z => absurd z f1, fun v Z O dp oc m hv h11 hz => ?_⟩
      have hx := RX_tp hv r Z M O k dp oc
      obtain ⟨p', k', Nr⟩ := r_numB hx 0 99999 m sk1.2 (by rw [ss]; exact f1)
      rw [ss] at Nr
      refine refO_b f1 Z k' p' (k : Int) (M : Int) ?_ (zF.rf r Z)
      rw [R0 v Z O dp oc m hv, if_pos d, Nr, hbind_p, hif_p, if_pos rfl]
      rfl
  · -- a word
    have dd : ¬ isDg (chr B n (sk B n p)) := fun z => d ((isDg_chr hB).1 z)
    have E := c_word2 h0 s sk1.2
    rw [ss] at E
    have C0 : ∀ (W P f : Int), m_X6_word 2 2 (tS (RM u Q cd op M k) ((sk B n p : Nat) : Int) s 0) = some (W, tS (RM u Q cd op M k) P ((sk B n p : Nat) : Int) f) → m_X3_readValue Q 2 (tS (RM u Q cd op M k) (p : Int) s 0) = hbind (m_X3_emit Q 1 W (tS (RM u Q cd op M k) P ((sk B n p : Nat) : Int) f)) (fun _ => m_X3_readValue_L44 Q 2) := fun W P f e => by
      simp only [m_X3_readValue, hgI_k, hgR_k, hpI_k, hpR_k, hpZ_k, haI_k, haR_k, hsI_k, hsZ_k, hlen_k, hlet_p, hret_p, hretZ_0, hretZ_1, hif_p, okk_setV, okk_setF, nV, nF, fV, vF, hcallV_b, hcall_b, hbind_p, tS_k, RM_k, tS_4, tS_3, kk_2 hs, RuA.k0 ru, N, x_isDigit, e]
      rw [if_pos (by trivial), if_neg dd, if_pos rfl]
    have L44 : ∀ (cd op : Nat → Int) (M : Int) (P f : Int), m_X3_readValue_L44 Q 2 (tS (RM u Q cd op M k) P ((sk B n p : Nat) : Int) f) = some (0, tS (RM u Q cd op M ((k + 1 : Nat) : Int)) P ((sk B n p : Nat) : Int) (if k < 60 then f else if f = 0 then ((1 + 8 * sk B n p + 3 : Nat) : Int) else f)) := fun cd op M P f => by
      simp only [m_X3_readValue_L44, hgI_k, hgR_k, hpI_k, hpR_k, hpZ_k, haI_k, haR_k, hsI_k, hsZ_k, hlen_k, hlet_p, hret_p, hretZ_0, hretZ_1, hif_p, okk_setV, okk_setF, nV, nF, fV, vF, hcallV_b, hbind_p, tS_k, RM_k, tS_3, kk_2 hs, RuA.k0 ru, x_count ru q54 hs _ _ _ t5 (show sk B n p ≤ 400 by omega)]
    by_cases w0 : wfind B n (sk B n p) ruW 0 = -1
    · rw [if_pos w0] at E
      have C := C0 _ _ _ E
      obtain ⟨cd', op', M', M4, e⟩ := x_emitJ ru q54 cd op (show M ≤ 400 by omega) k ((sk B n p : Nat) : Int) ((sk B n p : Nat) : Int) ((1 + 8 * sk B n p : Nat) : Int) 1 (-1)
      have fe : (if k < 60 then ((1 + 8 * sk B n p : Nat) : Int) else if ((1 + 8 * sk B n p : Nat) : Int) = 0 then ((1 + 8 * sk B n p + 3 : Nat) : Int) else ((1 + 8 * sk B n p : Nat) : Int)) = ((1 + 8 * sk B n p : Nat) : Int) := by
        by_cases kk : k < 60
        · rw [if_pos kk]
        · rw [if_neg kk, if_neg (by omega)]
      rw [e, hbind_p, L44, fe] at C
      refine ⟨1 + 8 * sk B n p, sk B n p, k + 1, M', _, _, _, C, sk1.2, M4, fun z => absurd z (by omega), fun v Z O dp oc m hv h11 hz => ?_⟩
      have F := y_fails (u := RX v r Z M O k dp oc) (by rw [RX_shp]; exact hv.1) ((sk B n p : Nat) : Int) m (at' := sk B n p) (by omega) (j := 0) (by decide)
      have F : m_X10_fails 220 0 _ _ = _ := F
      refine refO_b (by omega) Z m ((sk B n p : Nat) : Int) (k : Int) (M : Int) ?_ (zF.rf r Z)
      rw [R0 v Z O dp oc m hv, if_neg d, hif_p, if_neg (by rw [w0]; decide), X_cv hv, F, hbind_p]
      rfl
    · rw [if_neg w0] at E
      have C := C0 _ _ _ E
      have wi := (wfind_in B n (sk B n p) ruW 0).resolve_left w0
      have wi2 : wfind B n (sk B n p) ruW 0 < 12 := wi.2
      have wi1 : 0 ≤ wfind B n (sk B n p) ruW 0 := wi.1
      have wp : 0 < wl B n (sk B n p) := wfind_pos w0
      have M4 : M < 400 := by omega
      rw [x_emit ru q54 cd op M4, hbind_p, L44] at C
      have hp1 : ∀ (v : hS) (Z O : Nat → Int) (k dp oc m : Int), rTp n B v → m_X10_passWord 220 (rS (RX v r Z M O k dp oc) ((sk B n p : Nat) : Int) 0 m) = some (0, rS (RX v r Z M O k dp oc) ((sk B n p + wl B n (sk B n p) : Nat) : Int) 0 m) := fun v Z O k dp oc m hv => r_passWord (RX_tp hv r Z M O k dp oc) 0 m sk1.2
      by_cases kk : k < 60
      · rw [if_pos kk] at C
        refine ⟨0, sk B n p + wl B n (sk B n p), k + 1, M + 1, _, _, _, C, pw, by omega, fun _ => ⟨by omega, mv.e (by omega) _ _, tk_e t (ty_push (.inr rfl) (by omega)) ⟨fun z => absurd z (by decide), fun _ => ⟨wi1, by omega⟩⟩ (by show ts.length + 1 ≤ k + 1; omega) (by omega)⟩, fun v Z O dp oc m hv h11 hz => ?_⟩
        refine refO_g (sup Z (400 * r + M) (w32 (1 + w32 (16 * wfind B n (sk B n p) ruW 0)))) m ?_ (zF.s M4) (hz.s ?_)
        · rw [R0 v Z O dp oc m hv, if_neg d, hif_p, if_pos wi1, X_cv hv, y_makes hv h11 r6 Z M O t5 dp oc _ _ sk1.2, if_pos kk, hbind_p, hif_p, if_pos (by decide), X_cv hv, hp1 v Z O _ dp oc m hv, hbind_p, X_cv hv, y_puts hv h11 r6 Z M4, hbind_p, hretZ_1]
        · have e1 : w32 (16 * wfind B n (sk B n p) ruW 0) = 16 * wfind B n (sk B n p) ruW 0 := w32_id ⟨by omega, by omega⟩
          rw [e1, sgn_1, w32_id ⟨by omega, by omega⟩]
      · rw [if_neg kk, if_pos rfl] at C
        refine ⟨1 + 8 * sk B n p + 3, sk B n p + wl B n (sk B n p), k + 1, M + 1, _, _, _, C, pw, by omega, fun z => absurd z (by omega), fun v Z O dp oc m hv h11 hz => ?_⟩
        refine refO_b (by omega) Z m ((sk B n p : Nat) : Int) (k : Int) (M : Int) ?_ (zF.rf r Z)
        rw [R0 v Z O dp oc m hv, if_neg d, hif_p, if_pos wi1, X_cv hv, y_makes hv h11 r6 Z M O t5 dp oc _ _ sk1.2, if_neg kk, hbind_p, hif_p, if_neg (by decide)]
        rfl
