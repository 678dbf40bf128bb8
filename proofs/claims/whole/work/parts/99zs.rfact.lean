/-! tests: a fact -/
theorem y_opens {n : Nat} {B : Nat → Int} {v : hS} (hv : rTp n B v) {r : Nat} (x : Int) (Z : Nat → Int) (M : Int) (O : Nat → Int) (k : Int) {d oc p : Nat} (d10 : d ≤ 10) (o4 : oc < 400) (hp : p ≤ n) (m : Int) : m_X10_opens 220 x (rS (RX v r Z M O k d oc) (p : Int) 0 m) = if d < 10 then some (1, rS (RX v r Z M (sup O oc x) k ((d + 1 : Nat) : Int) ((oc + 1 : Nat) : Int)) (p : Int) 0 m) else some (0, rS (RX v r Z M O k d oc) (p : Int) ((1 + 8 * p + 2 : Nat) : Int) m) := by
  have F := y_fails (u := RX v r Z M O k d oc) (by rw [RX_shp]; exact hv.1) (p : Int) m (at' := p) (by have := hv.2.2.2; omega) (j := 2) (by decide)
  have F : m_X10_fails 220 2 _ _ = _ := F
  unfold m_X10_opens
  rw [X_g13 hv, hif_p]
  by_cases z : d < 10
  · rw [if_pos z, if_pos (by omega), X_g13 hv, X_p13 hv, ix_s (by omega), X_r15 hv, X_g16 hv, X_s227 hv o4, X_g16 hv, X_p16 hv, ix_s (by omega), hretZ_1]
  · rw [if_neg z, if_neg (by omega), X_g8 hv, X_cv hv, F, hbind_p, hretZ_0]
theorem ra_not {n : Nat} {B : Nat → Int} {v : hS} (hv : rTp n B v) {r : Nat} (h11 : hV v 220 11 = (r : Int)) (r6 : r < 6) {Z O : Nat → Int} {M d : Nat} {st : List Int} (k p m : Int) (so : stk O (11 :: st)) (hl : M + (11 :: st).length ≤ 400) (hd : dpc st = d) (d4 : d ≤ 10) (H F : Nat) : RA H F (rS (RX v r Z M O k ((d + 1 : Nat) : Int) (11 :: st).length) p 0 m) = RA H F (rS (RX v r (sup Z (400 * r + M) 11) ((M + 1 : Nat) : Int) O k (d : Int) st.length) p 0 m) := by
  have d1 : dpc (11 :: st) = 1 + dpc st := rfl
  have l1 := y_settles hv h11 r6 3 O k p 0 m (Z := Z) (M := M) (dp := d + 1) so hl (by omega) (by omega)
  have l2 := y_settles hv h11 r6 3 O k p 0 m (Z := sup Z (400 * r + M) 11) (M := M + 1) (dp := d) so.2 (by rw [List.length_cons] at hl; omega) (by omega) (by omega)
  have e : sRes r 3 (11 :: st) Z M ((d + 1 : Nat) : Int) = sRes r 3 st (sup Z (400 * r + M) 11) (M + 1) (d : Int) := by
    rw [sRes_p (by decide), if_pos rfl]
    have : (((d + 1 : Nat) : Int)) - 1 = (d : Int) := by omega
    rw [this]
    rfl
  rw [e] at l1
  unfold RA
  rw [l1, l2]
theorem fact_step {n : Nat} {B : Nat → Int} (hB : byB B n) {u : hS} (h : cTp n B u) {Q r : Nat} (ru : RuA u Q) (q54 : 54 ≤ Q) (r6 : r < 6) {N : Nat} (N4 : N ≤ 400) (ihF : ∀ N', N' < N → FactP n B u Q r N') (ihL : ∀ N', N' < N → LoopP n B u Q r N') : FactP n B u Q r N := by
  intro d p M k a e cd op ts s d10 hN hp hMe t
  have hs := h.1
  have n4 := h.2.2.2
  have s1 := sk_le B hp
  have ss := sk_sk B hp
  have h0 := RM_tp h q54 cd op M k
  have hsR : shp (RM u Q cd op M k) := by rw [RM_shp]; exact hs
  have k2 : ∀ cd op (M k P s f : Int), okk (tS (RM u Q cd op M k) P s f) 2 6 := fun _ _ _ _ _ _ _ => by rw [tS_k, RM_k]; exact kk_2 hs
  have kQ : ∀ cd op (M k P s f : Int), okk (tS (RM u Q cd op M k) P s f) Q 3 := fun _ _ _ _ _ _ _ => by rw [tS_k, RM_k]; exact ru.k0
  have e13 : 13 - d = (12 - d) + 1 := by omega
  have e12 : 12 - d = 13 - (d + 1) := by omega
  have d6 : d < 1000000 := by omega
  have z0 : ¬ ((0 : Int) ≠ 0) := fun z => z rfl
  have n10 : ¬ ((1 : Int) = 0) := by decide
  generalize hR2 : M_X3_readFact (12 - d) = R2
  have hR1 : M_X3_readFact (13 - d) = m_X3_readFact (fun a b c => m_X3_readTest R2 a b c) R2 := by
    rw [e13, ← hR2]
    rfl
  rw [hR1]
  generalize hR : (fun a b c => m_X3_readTest R2 a b c) = R1
  have N0 := c_next h0 s 0 hp
  have Sw := c_seesWord h0 s 0 okC_4 s1.2
  rw [ss] at Sw
  have TS := c_takeSign h0 s 0 91 s1.2
  rw [ss, if_neg z0] at TS
  have TW := c_takeWord h0 s okC_4 s1.2
  rw [ss] at TW
  -- the class's first steps
  have st0 : m_X3_readFact R1 R2 Q 2 (d : Int) (tS (RM u Q cd op M k) (p : Int) s 0) = (if chr B n (sk B n p) = 91 ∨ isW B n (sk B n p) 7237492 then m_X3_readFact_L36 R1 R2 Q 2 (d : Int) else m_X3_readFact_L54 R1 R2 Q 2 (d : Int)) (tS (RM u Q cd op M k) ((sk B n p : Nat) : Int) s 0) := by
    unfold m_X3_readFact
    rw [hgI_k (k2 _ _ _ _ _ _ _), tS_4, hif_p, if_pos rfl, hcallV_b (k2 _ _ _ _ _ _ _), N0, hbind_p, hif_p]
    by_cases c9 : chr B n (sk B n p) = 91
    · rw [if_neg (fun z => z c9), if_pos (.inl c9)]
      unfold m_X3_readFact_L22
      rw [hlet_p, hif_p, if_pos (by decide)]
    · rw [if_pos c9]
      unfold m_X3_readFact_L22
      rw [hlet_p, hif_p, if_neg z0, hcallV_b (k2 _ _ _ _ _ _ _), Sw, hbind_p, hif_p]
      by_cases W : isW B n (sk B n p) 7237492
      · rw [if_pos W, if_neg n10, if_pos (.inr W)]
      · rw [if_neg W, if_pos rfl, if_neg (fun z => z.elim c9 W)]
  -- the reference's first steps
  have rr0 : ∀ (v : hS) (Z O : Nat → Int) (m oc : Int) (G F : Nat), rTp n B v → RF (G + 1) F (rS (RX v r Z M O k d oc) (p : Int) 0 m) = hbind ((if isW B n (sk B n p) 7237492 then (hcallV 10 220 (m_X10_opens 220 11) fun v9 => hif (v9 ≠ 0) (hcallV 10 220 (m_X10_passWord 220) fun _ => hlet (1 : Int) fun (w10 : Int) => m_X10_fact_L72 (m_X10_fact_L2 G) 220 w10) (hretZ 0)) else hif (chr B n (sk B n p) ≠ 91) (m_X10_fact_L72 (m_X10_fact_L2 G) 220 0) (hcallV 10 220 (m_X10_opens 220 91) fun v6 => hif (v6 ≠ 0) (hgI 10 220 8 fun v7 => hpI 10 220 8 (w32 (v7 + 1)) <| hlet (1 : Int) fun (w8 : Int) => m_X10_fact_L72 (m_X10_fact_L2 G) 220 w8) (hretZ 0))) (rS (RX v r Z M O k d oc) ((sk B n p : Nat) : Int) 0 m)) (AF F) := fun v Z O m oc G F hv => by
    have hx := RX_tp hv r Z M O k d oc
    have W := r_isWord hx 7237492 0 m s1.2
    rw [ss] at W
    unfold RF
    rw [m_X10_fact_L2, hif_p, if_neg n10, hlet_p, X_cv hv, r_see hx 0 m hp, hbind_p, hlet_p, X_cv hv, W, hbind_p, hif_p]
    by_cases w : isW B n (sk B n p) 7237492
    · rw [if_pos w, if_pos w, if_neg n10]
    · rw [if_neg w, if_neg w, if_pos rfl]
  have d10' : ∀ (v : hS) (Z O : Nat → Int) (m : Int) (oc : Nat) (x : Int), rTp n B v → oc < 400 → d = 10 → m_X10_opens 220 x (rS (RX v r Z M O k d oc) ((sk B n p : Nat) : Int) 0 m) = some (0, rS (RX v r Z M O k d oc) ((sk B n p : Nat) : Int) ((1 + 8 * sk B n p + 2 : Nat) : Int) m) := fun v Z O m oc x hv o4 z => by
    rw [y_opens hv x Z M O k d10 o4 s1.2 m, if_neg (by omega)]
  have F36 : d = 10 → m_X3_readFact_L36 R1 R2 Q 2 (d : Int) (tS (RM u Q cd op M k) ((sk B n p : Nat) : Int) s 0) = some (0, tS (RM u Q cd op M k) ((sk B n p : Nat) : Int) s ((1 + 8 * sk B n p + 2 : Nat) : Int)) := fun z => by
    have F := x_fail hsR ((sk B n p : Nat) : Int) s 0 (w := sk B n p) (by omega) (k := 2) (by decide)
    rw [if_pos rfl] at F
    have F : m_X6_fail 2 ((sk B n p : Nat) : Int) 2 _ = _ := F
    unfold m_X3_readFact_L36
    rw [hif_p, if_neg (by omega), hgI_k (k2 _ _ _ _ _ _ _), tS_2, hcallV_b (k2 _ _ _ _ _ _ _), F, hbind_p]
    rfl
  have G36 : d < 10 → m_X3_readFact_L36 R1 R2 Q 2 (d : Int) (tS (RM u Q cd op M k) ((sk B n p : Nat) : Int) s 0) = m_X3_readFact_L54 R1 R2 Q 2 (d : Int) (tS (RM u Q cd op M k) ((sk B n p : Nat) : Int) s 0) := fun z => by
    unfold m_X3_readFact_L36
    rw [hif_p, if_pos (by omega)]
  by_cases W : isW B n (sk B n p) 7237492
  · -- not
    obtain ⟨lt, wp, ch1, ch2⟩ := isW_lt hB s1.2 W
    have pw := (wl_b B s1.2).1
    rw [if_pos (.inr W)] at st0
    by_cases dd : d < 10
    case neg =>
      rw [F36 (by omega)] at st0
      refine ⟨1 + 8 * sk B n p + 2, sk B n p, k, M, s, cd, op, st0, s1.2, by omega, fun y => absurd y (by omega), fun v Z O m st G F hv h11 hz so hl hd hG hF => ⟨fun _ => ?_, fun y => absurd y (by omega)⟩⟩
      obtain ⟨G, rfl⟩ : ∃ j, G = j + 1 := ⟨G - 1, by omega⟩
      refine ⟨Z, O, m, ((sk B n p : Nat) : Int), (k : Int), (M : Int), (d : Int), (st.length : Int), ?_, zF.rf r Z⟩
      rw [rr0 v Z O m _ G F hv, if_pos W, X_cv hv, d10' v Z O m st.length 11 hv (by omega) (by omega), hbind_p, hif_p, if_neg z0, hretZ_0, hbind_p]
      exact af0 hv F _
    rw [G36 dd] at st0
    rw [if_neg (by omega)] at TS
    rw [if_pos W] at TW
    obtain ⟨f1, p2, k1, M1, s2, cd1, op1, V, vp, vM, vg, vr⟩ := ihF (N - 1) (by omega) (d + 1) (sk B n p + wl B n (sk B n p)) M k a (e + 1) cd op ts ((sk B n p : Nat) : Int) (by omega) (by omega) pw (by omega) t
    rw [← e12, hR2] at V
    have st1 : m_X3_readFact R1 R2 Q 2 (d : Int) (tS (RM u Q cd op M k) (p : Int) s 0) = hbind (m_X3_emit Q 2 0 (tS (RM u Q cd1 op1 M1 k1) (p2 : Int) s2 (f1 : Int))) (fun _ => m_X3_readFact_L142 R1 R2) := by
      rw [st0]
      unfold m_X3_readFact_L54
      rw [hcallV_b (k2 _ _ _ _ _ _ _), TS, hbind_p, hif_p, if_pos rfl, hcallV_b (k2 _ _ _ _ _ _ _), TW, hbind_p, hif_p, if_neg n10, hcallV_b (kQ _ _ _ _ _ _ _), ix_s d6, V, hbind_p, hcallV_b (kQ _ _ _ _ _ _ _)]
    have rf1 : ∀ (v : hS) (Z O : Nat → Int) (m : Int) (st : List Int) (G F : Nat), rTp n B v → st.length ≤ e → RF (G + 1) F (rS (RX v r Z M O k d st.length) (p : Int) 0 m) = RF G F (rS (RX v r Z M (sup O st.length 11) k ((d + 1 : Nat) : Int) (11 :: st).length) ((sk B n p + wl B n (sk B n p) : Nat) : Int) 0 m) := fun v Z O m st G F hv hl => by
      rw [rr0 v Z O m _ G F hv, if_pos W, X_cv hv, y_opens hv 11 Z M O k d10 (show st.length < 400 by omega) s1.2 m, if_pos dd, hbind_p, hif_p, if_pos (by decide), X_cv hv, r_passWord (RX_tp hv r Z M (sup O st.length 11) k ((d + 1 : Nat) : Int) ((st.length + 1 : Nat) : Int)) 0 m s1.2, hbind_p, hlet_p]
      rfl
    have dpc11 : ∀ st, dpc st = d → dpc (11 :: st) = d + 1 := fun st hd => by
      show 1 + dpc st = d + 1
      omega
    by_cases z : f1 = 0
    · obtain ⟨g1, g2, g3⟩ := vg z
      subst z
      have g2' := g2.2.1
      have M14 : M1 < 400 := by omega
      rw [x_emit ru q54 cd1 op1 M14, hbind_p] at st1
      refine ⟨0, p2, k1, M1 + 1, s2, sup cd1 M1 2, sup op1 M1 0, st1, vp, by omega, fun _ => ⟨by omega, ⟨by have := g2.1; omega, by omega, fun j hj => ?_⟩, tk_e g3 (ty_not _) (okO_n (by decide) (by decide) 0) g3.2.2.2.1 g3.2.2.2.2⟩, fun v Z O m st G F hv h11 hz so hl hd hG hF => ⟨fun y => absurd rfl y, fun _ => ?_⟩⟩
      · have a1 := g2.2.2 j hj
        have a2 := g2.1
        rw [sup_n (by omega), sup_n (by omega)]
        exact a1
      · obtain ⟨G, rfl⟩ : ∃ j, G = j + 1 := ⟨G - 1, by omega⟩
        obtain ⟨_, q2⟩ := vr v Z (sup O st.length 11) m (11 :: st) G F hv h11 hz (stk_p so 11) (by rw [List.length_cons]; omega) (dpc11 st hd) (by omega) (by omega)
        obtain ⟨Z2, O2, m2, H2, F2, x1, x2, x3, x4, x5, x6⟩ := q2 rfl
        refine ⟨sup Z2 (400 * r + M1) 11, O2, m2, H2, F2, ?_, x2.tr (zF.s M14), x3.s (c := 2) (o := 0) rfl, x4.2, x5, x6⟩
        rw [rf1 v Z O m st G F hv hl, x1]
        exact ra_not hv h11 r6 k1 (p2 : Int) m2 x4 (by rw [List.length_cons]; omega) hd d10 H2 F2
    · obtain ⟨cd3, op3, M3, e2, e3⟩ := x_emitJ ru q54 cd1 op1 vM k1 (p2 : Int) s2 (f1 : Int) 2 0
      rw [e3, hbind_p] at st1
      refine ⟨f1, p2, k1, M3, s2, cd3, op3, st1, vp, e2, fun y => absurd y z, fun v Z O m st G F hv h11 hz so hl hd hG hF => ⟨fun _ => ?_, fun y => absurd y z⟩⟩
      obtain ⟨G, rfl⟩ : ∃ j, G = j + 1 := ⟨G - 1, by omega⟩
      obtain ⟨q1, _⟩ := vr v Z (sup O st.length 11) m (11 :: st) G F hv h11 hz (stk_p so 11) (by rw [List.length_cons]; omega) (dpc11 st hd) (by omega) (by omega)
      rw [rf1 v Z O m st G F hv hl]
      exact q1 z
  · by_cases c9 : chr B n (sk B n p) = 91
    · -- [
      have lt : sk B n p < n := chr_lt (B := B) (by omega)
      rw [if_pos (.inl c9)] at st0
      by_cases dd : d < 10
      case neg =>
        rw [F36 (by omega)] at st0
        refine ⟨1 + 8 * sk B n p + 2, sk B n p, k, M, s, cd, op, st0, s1.2, by omega, fun y => absurd y (by omega), fun v Z O m st G F hv h11 hz so hl hd hG hF => ⟨fun _ => ?_, fun y => absurd y (by omega)⟩⟩
        obtain ⟨G, rfl⟩ : ∃ j, G = j + 1 := ⟨G - 1, by omega⟩
        refine ⟨Z, O, m, ((sk B n p : Nat) : Int), (k : Int), (M : Int), (d : Int), (st.length : Int), ?_, zF.rf r Z⟩
        rw [rr0 v Z O m _ G F hv, if_neg W, hif_p, if_neg (fun y => y c9), X_cv hv, d10' v Z O m st.length 91 hv (by omega) (by omega), hbind_p, hif_p, if_neg z0, hretZ_0, hbind_p]
        exact af0 hv F _
      rw [G36 dd] at st0
      rw [if_pos c9] at TS
      obtain ⟨f1, p2, k1, M1, s2, cd1, op1, V, vp, vM, vg, vr⟩ := ihF (N - 1) (by omega) (d + 1) (sk B n p + 1) M k a (e + 1) cd op ts s (by omega) (by omega) (by omega) (by omega) t
      rw [← e12, hR2] at V
      have st1 : m_X3_readFact R1 R2 Q 2 (d : Int) (tS (RM u Q cd op M k) (p : Int) s 0) = hbind (m_X3_readTest_L14 R2 1000000000 Q 2 ((d + 1 : Nat) : Int) 0 1 0 (tS (RM u Q cd1 op1 M1 k1) (p2 : Int) s2 (f1 : Int))) (fun _ => hcallV 6 2 (m_X6_takeSign 2 93) fun v5 => hif (v5 ≠ 0) (m_X3_readFact_L142 R1 R2) (hgI 6 2 2 fun v6 => hcallV 6 2 (m_X6_fail 2 v6 0) fun _ => m_X3_readFact_L142 R1 R2)) := by
        rw [st0]
        unfold m_X3_readFact_L54
        rw [hcallV_b (k2 _ _ _ _ _ _ _), TS, hbind_p, hif_p, if_neg n10, hcallV_b (kQ _ _ _ _ _ _ _), ix_s d6, ← hR]
        show hbind (m_X3_readTest R2 Q 2 ((d + 1 : Nat) : Int) _) _ = _
        unfold m_X3_readTest
        rw [hcallV_b (kQ _ _ _ _ _ _ _), V, hbind_p, hlet_p, hlet_p, hlet_p]
      have rf1 : ∀ (v : hS) (Z O : Nat → Int) (m : Int) (st : List Int) (G F : Nat), rTp n B v → st.length ≤ e → RF (G + 1) F (rS (RX v r Z M O k d st.length) (p : Int) 0 m) = RF G F (rS (RX v r Z M (sup O st.length 91) k ((d + 1 : Nat) : Int) (91 :: st).length) ((sk B n p + 1 : Nat) : Int) 0 m) := fun v Z O m st G F hv hl => by
        rw [rr0 v Z O m _ G F hv, if_neg W, hif_p, if_neg (fun y => y c9), X_cv hv, y_opens hv 91 Z M O k d10 (show st.length < 400 by omega) s1.2 m, if_pos dd, hbind_p, hif_p, if_pos (by decide), X_g8 hv, X_p8 hv, ix_s (by omega), hlet_p]
        rfl
      have dpc91 : ∀ st, dpc st = d → dpc (91 :: st) = d + 1 := fun st hd => by
        show 1 + dpc st = d + 1
        omega
      -- the class at a fault
      have flt : ∀ (cd op : Nat → Int) (M k : Int) (P : Nat) (s f : Int), f ≠ 0 → P ≤ n → (hcallV 6 2 (m_X6_takeSign 2 93) fun v5 => hif (v5 ≠ 0) (m_X3_readFact_L142 R1 R2) (hgI 6 2 2 fun v6 => hcallV 6 2 (m_X6_fail 2 v6 0) fun _ => m_X3_readFact_L142 R1 R2)) (tS (RM u Q cd op M k) (P : Int) s f) = some (0, tS (RM u Q cd op M k) (P : Int) s f) := fun cd op M k P s f hf hP => by
        have T3 := c_takeSign (RM_tp h q54 cd op M k) s f 93 hP
        rw [if_pos hf] at T3
        have F := x_fail (u := RM u Q cd op M k) (by rw [RM_shp]; exact hs) (P : Int) s f (w := P) (by omega) (k := 0) (by decide)
        rw [if_neg hf] at F
        have F : m_X6_fail 2 (P : Int) 0 _ = _ := F
        rw [hcallV_b (k2 _ _ _ _ _ _ _), T3, hbind_p, hif_p, if_neg z0, hgI_k (k2 _ _ _ _ _ _ _), tS_2, hcallV_b (k2 _ _ _ _ _ _ _), F, hbind_p]
        rfl
      by_cases z : f1 = 0
      · obtain ⟨g1, g2, g3⟩ := vg z
        subst z
        have g2' := g2.2.1
        obtain ⟨f2, p3, k3, M3, s3', cd3, op3, E, i1, i2, i3, i4⟩ := ihL (N - 1) (by omega) (d + 1) p2 M1 k1 a (e + 1) 0 1000000000 false cd1 op1 ts s2 (by omega) (by omega) vp (by show M1 + (e + 1) + 0 ≤ p2; omega) (by omega) (by omega) g3
        rw [← e12, hR2] at E
        have E : m_X3_readTest_L14 R2 1000000000 Q 2 ((d + 1 : Nat) : Int) 0 1 0 (tS (RM u Q cd1 op1 M1 k1) (p2 : Int) s2 0) = _ := E
        have st2 : m_X3_readFact R1 R2 Q 2 (d : Int) (tS (RM u Q cd op M k) (p : Int) s 0) = (hcallV 6 2 (m_X6_takeSign 2 93) fun v5 => hif (v5 ≠ 0) (m_X3_readFact_L142 R1 R2) (hgI 6 2 2 fun v6 => hcallV 6 2 (m_X6_fail 2 v6 0) fun _ => m_X3_readFact_L142 R1 R2)) (tS (RM u Q cd3 op3 M3 k3) (p3 : Int) s3' (f2 : Int)) := by
          rw [st1]
          show hbind (m_X3_readTest_L14 R2 1000000000 Q 2 ((d + 1 : Nat) : Int) 0 1 0 (tS (RM u Q cd1 op1 M1 k1) (p2 : Int) s2 0)) _ = _
          rw [E, hbind_p]
        -- the reference up to the loop
        have rl : ∀ (v : hS) (Z O : Nat → Int) (m : Int) (st : List Int) (G F : Nat), rTp n B v → hV v 220 11 = (r : Int) → zk r Z cd op M → stk O st → st.length ≤ e → dpc st = d → N + 3 ≤ G + 1 → n + 3 ≤ F + p → ∃ (Z2 O2 : Nat → Int) (m2 : Int) (H2 F2 : Nat), RF (G + 1) F (rS (RX v r Z M O k d st.length) (p : Int) 0 m) = RA H2 F2 (rS (RX v r Z2 M1 O2 k1 ((d + 1 : Nat) : Int) (91 :: st).length) (p2 : Int) 0 m2) ∧ zF r Z Z2 ∧ zk r Z2 cd1 op1 M1 ∧ stk O2 (91 :: st) ∧ n + 2 ≤ H2 + p2 ∧ n + 3 ≤ F2 + p2 := fun v Z O m st G F hv h11 hz so hl hd hG hF => by
          obtain ⟨_, q2⟩ := vr v Z (sup O st.length 91) m (91 :: st) G F hv h11 hz (stk_p so 91) (by rw [List.length_cons]; omega) (dpc91 st hd) (by omega) (by omega)
          obtain ⟨Z2, O2, m2, H2, F2, x1, x2, x3, x4, x5, x6⟩ := q2 rfl
          exact ⟨Z2, O2, m2, H2, F2, (rf1 v Z O m st G F hv hl).trans x1, x2, x3, x4, x5, x6⟩
        by_cases y2 : f2 = 0
        · obtain ⟨j1, j2, j3, j4⟩ := i3 y2
          subst y2
          obtain ⟨j5, j6, j7⟩ := j3
          have j6 : M3 + p2 ≤ M1 + 0 + p3 := j6
          have T3 := c_takeSign (RM_tp h q54 cd3 op3 M3 k3) s3' 0 93 i1
          rw [if_neg z0, j2] at T3
          have mvB : mv p M cd op p3 M3 cd3 op3 := ⟨by have := g2.1; omega, by omega, fun j hj => by
            have a1 := g2.2.2 j hj
            have a2 := j7 j (by have := g2.1; omega)
            exact ⟨a2.1.trans a1.1, a2.2.trans a1.2⟩⟩
          by_cases c3 : chr B n p3 = 93
          · have lt3 : p3 < n := chr_lt (B := B) (by omega)
            rw [if_pos c3] at T3
            refine ⟨0, p3 + 1, k3, M3, s3', cd3, op3, ?_, by omega, i2, fun _ => ⟨by omega, ⟨mvB.1, by have := mvB.2.1; omega, mvB.2.2⟩, j4⟩, fun v Z O m st G F hv h11 hz so hl hd hG hF => ⟨fun y => absurd rfl y, fun _ => ?_⟩⟩
            · rw [st2]
              show (hcallV 6 2 (m_X6_takeSign 2 93) _) (tS (RM u Q cd3 op3 M3 k3) (p3 : Int) s3' 0) = _
              rw [hcallV_b (k2 _ _ _ _ _ _ _), T3, hbind_p, hif_p, if_pos (by decide)]
              rfl
            · obtain ⟨G, rfl⟩ : ∃ j, G = j + 1 := ⟨G - 1, by omega⟩
              obtain ⟨Z2, O2, m2, H2, F2, x1, x2, x3, x4, x5, x6⟩ := rl v Z O m st G F hv h11 hz so hl hd hG hF
              have R := (i4 v Z2 O2 m2 (91 :: st) false M1 H2 F2 hv h11 ⟨rfl, x3⟩ x4 (by rw [List.length_cons]; omega) (.inr ⟨st, rfl⟩) (dpc91 st hd) x5 x6).2 rfl
              obtain ⟨Z', O', m', r1, r2, r3, _, r5⟩ := R
              obtain ⟨H', F', r7, r8, r9⟩ := (r5 st rfl).1 c3
              refine ⟨Z', O', m', H', F', ?_, x2.tr r1, r2, r3.2, by omega, by omega⟩
              rw [x1]
              have ed : (((d + 1 : Nat) : Int)) - 1 = (d : Int) := by omega
              rw [ed] at r7
              exact r7
          · rw [if_neg c3] at T3
            have F0 := x_fail (u := RM u Q cd3 op3 M3 k3) (by rw [RM_shp]; exact hs) (p3 : Int) s3' 0 (w := p3) (by omega) (k := 0) (by decide)
            rw [if_pos rfl] at F0
            have F0 : m_X6_fail 2 (p3 : Int) 0 _ = _ := F0
            refine ⟨1 + 8 * p3, p3, k3, M3, s3', cd3, op3, ?_, i1, i2, fun y => absurd y (by omega), fun v Z O m st G F hv h11 hz so hl hd hG hF => ⟨fun _ => ?_, fun y => absurd y (by omega)⟩⟩
            · rw [st2]
              show (hcallV 6 2 (m_X6_takeSign 2 93) _) (tS (RM u Q cd3 op3 M3 k3) (p3 : Int) s3' 0) = _
              rw [hcallV_b (k2 _ _ _ _ _ _ _), T3, hbind_p, hif_p, if_neg z0, hgI_k (k2 _ _ _ _ _ _ _), tS_2, hcallV_b (k2 _ _ _ _ _ _ _), F0, hbind_p]
              rfl
            · obtain ⟨G, rfl⟩ : ∃ j, G = j + 1 := ⟨G - 1, by omega⟩
              obtain ⟨Z2, O2, m2, H2, F2, x1, x2, x3, x4, x5, x6⟩ := rl v Z O m st G F hv h11 hz so hl hd hG hF
              have R := (i4 v Z2 O2 m2 (91 :: st) false M1 H2 F2 hv h11 ⟨rfl, x3⟩ x4 (by rw [List.length_cons]; omega) (.inr ⟨st, rfl⟩) (dpc91 st hd) x5 x6).2 rfl
              obtain ⟨_, _, _, _, _, _, _, r5⟩ := R
              obtain ⟨Z', O', m', p'', k'', M'', dp'', oc'', r7, r8⟩ := (r5 st rfl).2 c3
              exact ⟨Z', O', m', p'', k'', M'', dp'', oc'', x1.trans r7, x2.tr r8⟩
        · rw [flt cd3 op3 M3 k3 p3 s3' f2 (by omega) i1] at st2
          refine ⟨f2, p3, k3, M3, s3', cd3, op3, st2, i1, i2, fun y => absurd y y2, fun v Z O m st G F hv h11 hz so hl hd hG hF => ⟨fun _ => ?_, fun y => absurd y y2⟩⟩
          obtain ⟨G, rfl⟩ : ∃ j, G = j + 1 := ⟨G - 1, by omega⟩
          obtain ⟨Z2, O2, m2, H2, F2, x1, x2, x3, x4, x5, x6⟩ := rl v Z O m st G F hv h11 hz so hl hd hG hF
          obtain ⟨Z', O', m', p'', k'', M'', dp'', oc'', r7, r8⟩ := (i4 v Z2 O2 m2 (91 :: st) false M1 H2 F2 hv h11 ⟨rfl, x3⟩ x4 (by rw [List.length_cons]; omega) (.inr ⟨st, rfl⟩) (dpc91 st hd) x5 x6).1 y2
          exact ⟨Z', O', m', p'', k'', M'', dp'', oc'', x1.trans r7, x2.tr r8⟩
      · obtain ⟨cd4, op4, M4, e4, e6⟩ := x_L14F h ru q54 R2 0 ((d + 1 : Nat) : Int) 0 cd1 op1 vM (k1 : Int) (p2 : Int) s2 (f := (f1 : Int)) (by omega) 999999998
        rw [e6, hbind_p, flt cd4 op4 M4 k1 p2 s2 f1 (by omega) vp] at st1
        refine ⟨f1, p2, k1, M4, s2, cd4, op4, st1, vp, e4, fun y => absurd y z, fun v Z O m st G F hv h11 hz so hl hd hG hF => ⟨fun _ => ?_, fun y => absurd y z⟩⟩
        obtain ⟨G, rfl⟩ : ∃ j, G = j + 1 := ⟨G - 1, by omega⟩
        obtain ⟨q1, _⟩ := vr v Z (sup O st.length 91) m (91 :: st) G F hv h11 hz (stk_p so 91) (by rw [List.length_cons]; omega) (dpc91 st hd) (by omega) (by omega)
        rw [rf1 v Z O m st G F hv hl]
        exact q1 z
    · -- two sums
      rw [if_neg (fun y => y.elim c9 W)] at st0
      rw [if_neg c9] at TS
      rw [if_neg W] at TW
      obtain ⟨f1, p2, k1, M1, s2, cd1, op1, V, vp, vM, vg, vr⟩ := j_cmp hB h ru q54 r6 t (show M ≤ sk B n p by omega) s1.2 (m_X3_readFact_L142 R1 R2) (fun _ => rfl) s
      have st1 : m_X3_readFact R1 R2 Q 2 (d : Int) (tS (RM u Q cd op M k) (p : Int) s 0) = some (0, tS (RM u Q cd1 op1 M1 k1) (p2 : Int) s2 (f1 : Int)) := by
        rw [st0]
        unfold m_X3_readFact_L54
        rw [hcallV_b (k2 _ _ _ _ _ _ _), TS, hbind_p, hif_p, if_pos rfl, hcallV_b (k2 _ _ _ _ _ _ _), TW, hbind_p, hif_p, if_pos rfl]
        exact V
      refine ⟨f1, p2, k1, M1, s2, cd1, op1, st1, vp, vM, fun y => ?_, fun v Z O m st G F hv h11 hz so hl hd hG hF => ?_⟩
      · obtain ⟨g1, g2, g3⟩ := vg y
        exact ⟨by omega, ⟨g2.1, by have := g2.2.1; omega, g2.2.2⟩, g3⟩
      · obtain ⟨G, rfl⟩ : ∃ j, G = j + 2 := ⟨G - 2, by omega⟩
        obtain ⟨Z', m', p'', k'', M'', x1, x2, x3⟩ := vr v Z O d st.length m hv h11 hz
        have rf1 : RF (G + 2) F (rS (RX v r Z M O k d st.length) (p : Int) 0 m) = hbind (hbind (m_X10_compare 220 (rS (RX v r Z M O k d st.length) ((sk B n p : Nat) : Int) 0 m)) (fun v1 => hretZ v1)) (AF F) := by
          rw [rr0 v Z O m _ (G + 1) F hv, if_neg W, hif_p, if_pos c9]
          unfold m_X10_fact_L72
          rw [m_X10_fact_L2, hif_p, if_pos rfl, X_cv hv]
        rw [rf1, x1, hbind_p]
        refine ⟨fun y => ?_, fun y => ?_⟩
        · rw [if_neg y, hretZ_0, hbind_p]
          exact ⟨Z', O, m', p'', k'', M'', _, _, af0 hv F _, x2⟩
        · obtain ⟨x4, x5, x6, x7⟩ := x3 y
          obtain ⟨g1, g2, g3⟩ := vg y
          rw [if_pos y, hretZ_1, hbind_p, y, x4, x5, x6]
          exact ⟨Z', O, m', 1000000000, F, af1 hv F _ _ _ _ _ _ _ _, x2, x7, so, by omega, by omega⟩
theorem test_all {n : Nat} {B : Nat → Int} (hB : byB B n) {u : hS} (h : cTp n B u) {Q r : Nat} (ru : RuA u Q) (q54 : 54 ≤ Q) (r6 : r < 6) : ∀ N, N ≤ 400 → FactP n B u Q r N ∧ LoopP n B u Q r N := by
  intro N
  induction N using Nat.strongRecOn with
  | ind N ih => exact fun N4 => ⟨fact_step hB h ru q54 r6 N4 (fun N' h1 => (ih N' h1 (by omega)).1) (fun N' h1 => (ih N' h1 (by omega)).2), loop_step hB h ru q54 r6 N4 (fun N' h1 => (ih N' h1 (by omega)).1) (fun N' h1 => (ih N' h1 (by omega)).2)⟩
