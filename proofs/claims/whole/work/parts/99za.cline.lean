/-! a line of a town, as the class reads it -/
def cOut (n t : Nat) (u : hS) (g : hM) (st : hS) (K : Nat) (S1 : Nat → Int) (P1 : Nat) : Prop := ∃ (u' : hS) (p' s' : Nat), g st = some (0, tS u' (p' : Int) (s' : Int) (K : Int)) ∧ p' ≤ n ∧ frT t u u' ∧ (K = 0 → p' = P1 ∧ RT u' t S1)
theorem sk39 {t : Nat} {w e : Int} {st : hS} : m_X7_readClause_L39 t 2 w e e st = hcallV 7 t (m_X7_isFull t w) (fun v1 => hif (v1 = 0) (hif (w = 0) (hcallV 6 2 (m_X6_number 2 2 8) fun v2 => hpI 7 t 0 v2 <| hcallV 6 2 (m_X6_number 2 1 5) fun v3 => hpI 7 t 1 v3 <| m_X7_readClause_L177) <| hif (w = 1) (hgR 7 t 2 fun v4 => hcallV 7 t (m_X7_readLink t 2 v4) fun _ => m_X7_readClause_L177) <| hif (w = 2) (hgR 7 t 3 fun v5 => hcallV 7 t (m_X7_readLink t 2 v5) fun _ => m_X7_readClause_L177) <| hif (w = 3) (hcallV 7 t (m_X7_readFrost t 2) fun _ => m_X7_readClause_L177) <| hif (w = 4) (hcallV 7 t (m_X7_readPerson t 2) fun _ => m_X7_readClause_L177) <| hif (w = 5) (hcallV 7 t (m_X7_readCrossed t 2) fun _ => m_X7_readClause_L177) <| hcallV 7 t (m_X7_readWant t 2) fun _ => m_X7_readClause_L177) (m_X7_readClause_L50 2)) st := by
  unfold m_X7_readClause_L39
  rw [hif_p, if_neg (fun z => z rfl)]
theorem RT.ki {u : hS} {t : Nat} {S : Nat → Int} (h : RT u t S) : cnS S := h.2.1.1
theorem c_L50 {n : Nat} {B : Nat → Int} {u : hS} (h : cTp n B u) (p : Int) {q : Nat} (hq : q ≤ n) : m_X7_readClause_L50 2 (tS u p (q : Int) 0) = some (0, tS u p (q : Int) ((kF q : Nat) : Int)) := by
  have hs := h.1
  have F := x_fail hs p (q : Int) 0 (w := q) (by have := h.2.2.2; omega) (k := 4) (by decide)
  rw [if_pos rfl] at F
  have F : m_X6_fail 2 (q : Int) 4 _ = _ := F
  simp only [m_X7_readClause_L50, hgI_k, hgR_k, hpI_k, hpR_k, hpZ_k, haI_k, haR_k, hsI_k, hsZ_k, hlen_k, hlet_p, hret_p, hretZ_0, hretZ_1, hif_p, okk_setV, okk_setF, nV, nF, fV, vF, hcallV_b, hbind_p, tS_k, tS_3, kk_2 hs, F]
  rfl
theorem c_full {n : Nat} {B : Nat → Int} {u : hS} (h : cTp n B u) {t : Nat} (ht : TwA u t) (t3 : 243 ≤ t) (w : Int) {P q : Nat} (hP : P ≤ n) (hq : q ≤ n) (S1 : Nat → Int) (P1 : Nat) (f : m_X7_isFull t w (tS u (P : Int) (q : Int) 0) = some (1, tS u (P : Int) (q : Int) 0)) (e : Int) : cOut n t u (m_X7_readClause_L39 t 2 w e e) (tS u (P : Int) (q : Int) 0) (kF q) S1 P1 := by
  refine ⟨u, P, q, ?_, hP, frT.rf t u, fun z => absurd z (kF_n q)⟩
  rw [sk39, hcallV_b (by rw [tS_k]; exact ht.k0), f, hbind_p, hif_p, if_neg (by decide)]
  exact c_L50 h _ hq
theorem c_br {n : Nat} {B : Nat → Int} {u : hS} (h : cTp n B u) {t : Nat} (ht : TwA u t) (t3 : 243 ≤ t) {S : Nat → Int} (rt : RT u t S) {P q : Nat} (hP : P ≤ n) (hq : q ≤ n) (e : Int) : cOut n t u (m_X7_readClause_L39 t 2 1 e e) (tS u (P : Int) (q : Int) 0) (kCnt q (S 2) 9 (kLink B n P (S 0))) (sBridge B n P (S 2).toNat S) (np B n (np B n P)) := by
  have hs := h.1
  have cn := rt.ki
  have rc := rt.1
  obtain ⟨k, hk⟩ : ∃ k : Nat, S 2 = (k : Int) := ⟨(S 2).toNat, by have := cn.2.1; omega⟩
  have hc : hV u (t + 1) 3 = (k : Int) := rc.2.2.1.trans hk
  have F := x_isFullL ((lk_br ht).tS (P : Int) (q : Int) 0) (k := k) (by rw [tS_o (by omega)]; exact hc)
  have F' : m_X7_isFull t 1 (tS u (P : Int) (q : Int) 0) = some (if k < 9 then 0 else 1, tS u (P : Int) (q : Int) 0) := by
    simp only [m_X7_isFull, hgI_k, hgR_k, hpI_k, hpR_k, hpZ_k, haI_k, haR_k, hsI_k, hsZ_k, hlen_k, hlet_p, hret_p, hretZ_0, hretZ_1, hif_p, okk_setV, okk_setF, nV, nF, fV, vF, hcallV_b, hbind_p, tS_k, tS_F, TwA.k0 ht, TwA.k1 ht, TwA.k2 ht, TwA.k3 ht, TwA.k4 ht, TwA.k5 ht, TwA.k6 ht, TwA.k7 ht, TwA.k8 ht, TwA.k9 ht, TwA.k10 ht, TwA.k11 ht, TwA.k12 ht, TwA.k13 ht, TwA.k14 ht, TwA.k15 ht, TwA.k16 ht, TwA.k17 ht, TwA.n2 ht, TwA.n3 ht, TwA.n4 ht, TwA.n6 ht, TwA.n7 ht, TwA.n8 ht, TwA.n9 ht, TwA.n10 ht, TwA.n11 ht, TwA.n12 ht, TwA.n13 ht, TwA.n14 ht, TwA.n15 ht, TwA.n16 ht, TwA.n17 ht, TwA.f2 ht, TwA.f3 ht, TwA.f5 ht, TwA.f6 ht, TwA.f8 ht, TwA.f9 ht, TwA.f11 ht, TwA.f12 ht, TwA.f13 ht, TwA.f14 ht, TwA.f15 ht, TwA.b0 ht, TwA.b1 ht, TwA.b2 ht, TwA.g0 ht, TwA.g1 ht, TwA.g2 ht, F]
    by_cases kk : k < 9
    · rw [if_pos kk]
      rfl
    · rw [if_neg kk]
      rfl
  rw [hk, Int.toNat_natCast]
  by_cases kk : k < 9
  · rw [kCnt_t (by omega)]
    rw [if_pos kk] at F'
    obtain ⟨p', s', E, b1, b2⟩ := c_link h ht t3 (q : Int) (lk_br ht) (show 243 ≤ t + 1 by omega) (by decide) rc.1 cn.1.1 cn.1.2 hc kk hP
    by_cases z : kLink B n P (S 0) = 0
    · refine ⟨lkM u (t + 1) k (nv B n P) (nv B n (np B n P)), p', s', ?_, b1, ?_, fun _ => ⟨b2 z, ?_⟩⟩
      · rw [if_pos z] at E
        rw [sk39, hcallV_b (by rw [tS_k]; exact ht.k0), F', hbind_p]
        simp only [m_X7_readClause_L177, hgI_k, hgR_k, hpI_k, hpR_k, hpZ_k, haI_k, haR_k, hsI_k, hsZ_k, hlen_k, hlet_p, hret_p, hretZ_0, hretZ_1, hif_p, okk_setV, okk_setF, nV, nF, fV, vF, hcallV_b, hbind_p, tS_k, tS_F, TwA.k0 ht, TwA.k1 ht, TwA.k2 ht, TwA.k3 ht, TwA.k4 ht, TwA.k5 ht, TwA.k6 ht, TwA.k7 ht, TwA.k8 ht, TwA.k9 ht, TwA.k10 ht, TwA.k11 ht, TwA.k12 ht, TwA.k13 ht, TwA.k14 ht, TwA.k15 ht, TwA.k16 ht, TwA.k17 ht, TwA.n2 ht, TwA.n3 ht, TwA.n4 ht, TwA.n6 ht, TwA.n7 ht, TwA.n8 ht, TwA.n9 ht, TwA.n10 ht, TwA.n11 ht, TwA.n12 ht, TwA.n13 ht, TwA.n14 ht, TwA.n15 ht, TwA.n16 ht, TwA.n17 ht, TwA.f2 ht, TwA.f3 ht, TwA.f5 ht, TwA.f6 ht, TwA.f8 ht, TwA.f9 ht, TwA.f11 ht, TwA.f12 ht, TwA.f13 ht, TwA.f14 ht, TwA.f15 ht, TwA.b0 ht, TwA.b1 ht, TwA.b2 ht, TwA.g0 ht, TwA.g1 ht, TwA.g2 ht, E]
        rfl
      · exact ((((frT.rf t u).set (by omega) (by omega)).set (by omega) (by omega)).set (by omega) (by omega)).set (by omega) (by omega)
      · obtain ⟨z1, z2⟩ := sq_z z
        obtain ⟨z2, z3⟩ := sq_z z2
        have r1 := nf_0 z1
        have r2 := nf_0 z2
        refine rt.bridge hk kk ⟨r1.1, by omega⟩ ⟨r2.1, by omega⟩ (fun y => ?_)
        rw [if_pos y] at z3
        omega
    · refine ⟨u, p', s', ?_, b1, frT.rf t u, fun y => absurd y z⟩
      rw [if_neg z] at E
      rw [sk39, hcallV_b (by rw [tS_k]; exact ht.k0), F', hbind_p]
      simp only [m_X7_readClause_L177, hgI_k, hgR_k, hpI_k, hpR_k, hpZ_k, haI_k, haR_k, hsI_k, hsZ_k, hlen_k, hlet_p, hret_p, hretZ_0, hretZ_1, hif_p, okk_setV, okk_setF, nV, nF, fV, vF, hcallV_b, hbind_p, tS_k, tS_F, TwA.k0 ht, TwA.k1 ht, TwA.k2 ht, TwA.k3 ht, TwA.k4 ht, TwA.k5 ht, TwA.k6 ht, TwA.k7 ht, TwA.k8 ht, TwA.k9 ht, TwA.k10 ht, TwA.k11 ht, TwA.k12 ht, TwA.k13 ht, TwA.k14 ht, TwA.k15 ht, TwA.k16 ht, TwA.k17 ht, TwA.n2 ht, TwA.n3 ht, TwA.n4 ht, TwA.n6 ht, TwA.n7 ht, TwA.n8 ht, TwA.n9 ht, TwA.n10 ht, TwA.n11 ht, TwA.n12 ht, TwA.n13 ht, TwA.n14 ht, TwA.n15 ht, TwA.n16 ht, TwA.n17 ht, TwA.f2 ht, TwA.f3 ht, TwA.f5 ht, TwA.f6 ht, TwA.f8 ht, TwA.f9 ht, TwA.f11 ht, TwA.f12 ht, TwA.f13 ht, TwA.f14 ht, TwA.f15 ht, TwA.b0 ht, TwA.b1 ht, TwA.b2 ht, TwA.g0 ht, TwA.g1 ht, TwA.g2 ht, E]
      rfl
  · rw [kCnt_f (by omega)]
    rw [if_neg kk] at F'
    exact c_full h ht t3 1 hP hq _ _ F' e
theorem c_fe {n : Nat} {B : Nat → Int} {u : hS} (h : cTp n B u) {t : Nat} (ht : TwA u t) (t3 : 243 ≤ t) {S : Nat → Int} (rt : RT u t S) {P q : Nat} (hP : P ≤ n) (hq : q ≤ n) (e : Int) : cOut n t u (m_X7_readClause_L39 t 2 2 e e) (tS u (P : Int) (q : Int) 0) (kCnt q (S 3) 4 (kLink B n P (S 0))) (sFerry B n P (S 3).toNat S) (np B n (np B n P)) := by
  have hs := h.1
  have cn := rt.ki
  have rc := rt.1
  obtain ⟨k, hk⟩ : ∃ k : Nat, S 3 = (k : Int) := ⟨(S 3).toNat, by have := cn.2.2.1; omega⟩
  have hc : hV u (t + 5) 3 = (k : Int) := rc.2.2.2.1.trans hk
  have F := x_isFullL ((lk_fe ht).tS (P : Int) (q : Int) 0) (k := k) (by rw [tS_o (by omega)]; exact hc)
  have F' : m_X7_isFull t 2 (tS u (P : Int) (q : Int) 0) = some (if k < 4 then 0 else 1, tS u (P : Int) (q : Int) 0) := by
    simp only [m_X7_isFull, hgI_k, hgR_k, hpI_k, hpR_k, hpZ_k, haI_k, haR_k, hsI_k, hsZ_k, hlen_k, hlet_p, hret_p, hretZ_0, hretZ_1, hif_p, okk_setV, okk_setF, nV, nF, fV, vF, hcallV_b, hbind_p, tS_k, tS_F, TwA.k0 ht, TwA.k1 ht, TwA.k2 ht, TwA.k3 ht, TwA.k4 ht, TwA.k5 ht, TwA.k6 ht, TwA.k7 ht, TwA.k8 ht, TwA.k9 ht, TwA.k10 ht, TwA.k11 ht, TwA.k12 ht, TwA.k13 ht, TwA.k14 ht, TwA.k15 ht, TwA.k16 ht, TwA.k17 ht, TwA.n2 ht, TwA.n3 ht, TwA.n4 ht, TwA.n6 ht, TwA.n7 ht, TwA.n8 ht, TwA.n9 ht, TwA.n10 ht, TwA.n11 ht, TwA.n12 ht, TwA.n13 ht, TwA.n14 ht, TwA.n15 ht, TwA.n16 ht, TwA.n17 ht, TwA.f2 ht, TwA.f3 ht, TwA.f5 ht, TwA.f6 ht, TwA.f8 ht, TwA.f9 ht, TwA.f11 ht, TwA.f12 ht, TwA.f13 ht, TwA.f14 ht, TwA.f15 ht, TwA.b0 ht, TwA.b1 ht, TwA.b2 ht, TwA.g0 ht, TwA.g1 ht, TwA.g2 ht, F]
    by_cases kk : k < 4
    · rw [if_pos kk]
      rfl
    · rw [if_neg kk]
      rfl
  rw [hk, Int.toNat_natCast]
  by_cases kk : k < 4
  · rw [kCnt_t (by omega)]
    rw [if_pos kk] at F'
    obtain ⟨p', s', E, b1, b2⟩ := c_link h ht t3 (q : Int) (lk_fe ht) (show 243 ≤ t + 5 by omega) (by decide) rc.1 cn.1.1 cn.1.2 hc kk hP
    by_cases z : kLink B n P (S 0) = 0
    · refine ⟨lkM u (t + 5) k (nv B n P) (nv B n (np B n P)), p', s', ?_, b1, ?_, fun _ => ⟨b2 z, ?_⟩⟩
      · rw [if_pos z] at E
        rw [sk39, hcallV_b (by rw [tS_k]; exact ht.k0), F', hbind_p]
        simp only [m_X7_readClause_L177, hgI_k, hgR_k, hpI_k, hpR_k, hpZ_k, haI_k, haR_k, hsI_k, hsZ_k, hlen_k, hlet_p, hret_p, hretZ_0, hretZ_1, hif_p, okk_setV, okk_setF, nV, nF, fV, vF, hcallV_b, hbind_p, tS_k, tS_F, TwA.k0 ht, TwA.k1 ht, TwA.k2 ht, TwA.k3 ht, TwA.k4 ht, TwA.k5 ht, TwA.k6 ht, TwA.k7 ht, TwA.k8 ht, TwA.k9 ht, TwA.k10 ht, TwA.k11 ht, TwA.k12 ht, TwA.k13 ht, TwA.k14 ht, TwA.k15 ht, TwA.k16 ht, TwA.k17 ht, TwA.n2 ht, TwA.n3 ht, TwA.n4 ht, TwA.n6 ht, TwA.n7 ht, TwA.n8 ht, TwA.n9 ht, TwA.n10 ht, TwA.n11 ht, TwA.n12 ht, TwA.n13 ht, TwA.n14 ht, TwA.n15 ht, TwA.n16 ht, TwA.n17 ht, TwA.f2 ht, TwA.f3 ht, TwA.f5 ht, TwA.f6 ht, TwA.f8 ht, TwA.f9 ht, TwA.f11 ht, TwA.f12 ht, TwA.f13 ht, TwA.f14 ht, TwA.f15 ht, TwA.b0 ht, TwA.b1 ht, TwA.b2 ht, TwA.g0 ht, TwA.g1 ht, TwA.g2 ht, E]
        rfl
      · exact ((((frT.rf t u).set (by omega) (by omega)).set (by omega) (by omega)).set (by omega) (by omega)).set (by omega) (by omega)
      · obtain ⟨z1, z2⟩ := sq_z z
        obtain ⟨z2, z3⟩ := sq_z z2
        have r1 := nf_0 z1
        have r2 := nf_0 z2
        exact rt.ferry hk kk ⟨r1.1, by omega⟩ ⟨r2.1, by omega⟩
    · refine ⟨u, p', s', ?_, b1, frT.rf t u, fun y => absurd y z⟩
      rw [if_neg z] at E
      rw [sk39, hcallV_b (by rw [tS_k]; exact ht.k0), F', hbind_p]
      simp only [m_X7_readClause_L177, hgI_k, hgR_k, hpI_k, hpR_k, hpZ_k, haI_k, haR_k, hsI_k, hsZ_k, hlen_k, hlet_p, hret_p, hretZ_0, hretZ_1, hif_p, okk_setV, okk_setF, nV, nF, fV, vF, hcallV_b, hbind_p, tS_k, tS_F, TwA.k0 ht, TwA.k1 ht, TwA.k2 ht, TwA.k3 ht, TwA.k4 ht, TwA.k5 ht, TwA.k6 ht, TwA.k7 ht, TwA.k8 ht, TwA.k9 ht, TwA.k10 ht, TwA.k11 ht, TwA.k12 ht, TwA.k13 ht, TwA.k14 ht, TwA.k15 ht, TwA.k16 ht, TwA.k17 ht, TwA.n2 ht, TwA.n3 ht, TwA.n4 ht, TwA.n6 ht, TwA.n7 ht, TwA.n8 ht, TwA.n9 ht, TwA.n10 ht, TwA.n11 ht, TwA.n12 ht, TwA.n13 ht, TwA.n14 ht, TwA.n15 ht, TwA.n16 ht, TwA.n17 ht, TwA.f2 ht, TwA.f3 ht, TwA.f5 ht, TwA.f6 ht, TwA.f8 ht, TwA.f9 ht, TwA.f11 ht, TwA.f12 ht, TwA.f13 ht, TwA.f14 ht, TwA.f15 ht, TwA.b0 ht, TwA.b1 ht, TwA.b2 ht, TwA.g0 ht, TwA.g1 ht, TwA.g2 ht, E]
      rfl
  · rw [kCnt_f (by omega)]
    rw [if_neg kk] at F'
    exact c_full h ht t3 2 hP hq _ _ F' e
theorem c_fr {n : Nat} {B : Nat → Int} {u : hS} (h : cTp n B u) {t : Nat} (ht : TwA u t) (t3 : 243 ≤ t) {S : Nat → Int} (rt : RT u t S) {P q : Nat} (hP : P ≤ n) (hq : q ≤ n) (e : Int) : cOut n t u (m_X7_readClause_L39 t 2 3 e e) (tS u (P : Int) (q : Int) 0) (kCnt q (S 7) 4 (kFrost B n P)) (sFrost B n P (S 7).toNat S) (np B n (np B n P)) := by
  have hs := h.1
  have cn := rt.ki
  have rc := rt.1
  obtain ⟨k, hk⟩ : ∃ k : Nat, S 7 = (k : Int) := ⟨(S 7).toNat, by have := cn.2.2.2.2.2; omega⟩
  have hc : hV u t 4 = (k : Int) := rc.2.2.2.2.2.2.trans hk
  have F' : m_X7_isFull t 3 (tS u (P : Int) (q : Int) 0) = some (if k < 4 then 0 else 1, tS u (P : Int) (q : Int) 0) := by
    simp only [m_X7_isFull, m_X7_isFull_L69, hgI_k, hgR_k, hpI_k, hpR_k, hpZ_k, haI_k, haR_k, hsI_k, hsZ_k, hlen_k, hlet_p, hret_p, hretZ_0, hretZ_1, hif_p, okk_setV, okk_setF, nV, nF, fV, vF, hcallV_b, hbind_p, tS_k, tS_F, tS_o (show t ≠ 2 by omega), TwA.k0 ht, TwA.k1 ht, TwA.k2 ht, TwA.k3 ht, TwA.k4 ht, TwA.k5 ht, TwA.k6 ht, TwA.k7 ht, TwA.k8 ht, TwA.k9 ht, TwA.k10 ht, TwA.k11 ht, TwA.k12 ht, TwA.k13 ht, TwA.k14 ht, TwA.k15 ht, TwA.k16 ht, TwA.k17 ht, TwA.n2 ht, TwA.n3 ht, TwA.n4 ht, TwA.n6 ht, TwA.n7 ht, TwA.n8 ht, TwA.n9 ht, TwA.n10 ht, TwA.n11 ht, TwA.n12 ht, TwA.n13 ht, TwA.n14 ht, TwA.n15 ht, TwA.n16 ht, TwA.n17 ht, TwA.f2 ht, TwA.f3 ht, TwA.f5 ht, TwA.f6 ht, TwA.f8 ht, TwA.f9 ht, TwA.f11 ht, TwA.f12 ht, TwA.f13 ht, TwA.f14 ht, TwA.f15 ht, TwA.b0 ht, TwA.b1 ht, TwA.b2 ht, TwA.g0 ht, TwA.g1 ht, TwA.g2 ht, hc]
    by_cases kk : k < 4
    · rw [if_pos kk, if_neg (by decide), if_neg (by decide), if_pos (by trivial), if_pos (by omega)]
    · rw [if_neg kk, if_neg (by decide), if_neg (by decide), if_pos (by trivial), if_neg (by omega)]
  rw [hk, Int.toNat_natCast]
  by_cases kk : k < 4
  · rw [kCnt_t (by omega)]
    rw [if_pos kk] at F'
    obtain ⟨p', s', E, b1, b2⟩ := c_frost h ht t3 (q : Int) hc kk hP
    by_cases z : kFrost B n P = 0
    · refine ⟨frostM u t k (nv B n P) (nv B n (np B n P)), p', s', ?_, b1, ?_, fun _ => ⟨b2 z, ?_⟩⟩
      · rw [if_pos z] at E
        rw [sk39, hcallV_b (by rw [tS_k]; exact ht.k0), F', hbind_p]
        simp only [m_X7_readClause_L177, hgI_k, hgR_k, hpI_k, hpR_k, hpZ_k, haI_k, haR_k, hsI_k, hsZ_k, hlen_k, hlet_p, hret_p, hretZ_0, hretZ_1, hif_p, okk_setV, okk_setF, nV, nF, fV, vF, hcallV_b, hbind_p, tS_k, tS_F, TwA.k0 ht, TwA.k1 ht, TwA.k2 ht, TwA.k3 ht, TwA.k4 ht, TwA.k5 ht, TwA.k6 ht, TwA.k7 ht, TwA.k8 ht, TwA.k9 ht, TwA.k10 ht, TwA.k11 ht, TwA.k12 ht, TwA.k13 ht, TwA.k14 ht, TwA.k15 ht, TwA.k16 ht, TwA.k17 ht, TwA.n2 ht, TwA.n3 ht, TwA.n4 ht, TwA.n6 ht, TwA.n7 ht, TwA.n8 ht, TwA.n9 ht, TwA.n10 ht, TwA.n11 ht, TwA.n12 ht, TwA.n13 ht, TwA.n14 ht, TwA.n15 ht, TwA.n16 ht, TwA.n17 ht, TwA.f2 ht, TwA.f3 ht, TwA.f5 ht, TwA.f6 ht, TwA.f8 ht, TwA.f9 ht, TwA.f11 ht, TwA.f12 ht, TwA.f13 ht, TwA.f14 ht, TwA.f15 ht, TwA.b0 ht, TwA.b1 ht, TwA.b2 ht, TwA.g0 ht, TwA.g1 ht, TwA.g2 ht, E]
        rfl
      · exact (((frT.rf t u).set (by omega) (by omega)).set (by omega) (by omega)).set (by omega) (by omega)
      · exact rt.frost hk kk
    · refine ⟨u, p', s', ?_, b1, frT.rf t u, fun y => absurd y z⟩
      rw [if_neg z] at E
      rw [sk39, hcallV_b (by rw [tS_k]; exact ht.k0), F', hbind_p]
      simp only [m_X7_readClause_L177, hgI_k, hgR_k, hpI_k, hpR_k, hpZ_k, haI_k, haR_k, hsI_k, hsZ_k, hlen_k, hlet_p, hret_p, hretZ_0, hretZ_1, hif_p, okk_setV, okk_setF, nV, nF, fV, vF, hcallV_b, hbind_p, tS_k, tS_F, TwA.k0 ht, TwA.k1 ht, TwA.k2 ht, TwA.k3 ht, TwA.k4 ht, TwA.k5 ht, TwA.k6 ht, TwA.k7 ht, TwA.k8 ht, TwA.k9 ht, TwA.k10 ht, TwA.k11 ht, TwA.k12 ht, TwA.k13 ht, TwA.k14 ht, TwA.k15 ht, TwA.k16 ht, TwA.k17 ht, TwA.n2 ht, TwA.n3 ht, TwA.n4 ht, TwA.n6 ht, TwA.n7 ht, TwA.n8 ht, TwA.n9 ht, TwA.n10 ht, TwA.n11 ht, TwA.n12 ht, TwA.n13 ht, TwA.n14 ht, TwA.n15 ht, TwA.n16 ht, TwA.n17 ht, TwA.f2 ht, TwA.f3 ht, TwA.f5 ht, TwA.f6 ht, TwA.f8 ht, TwA.f9 ht, TwA.f11 ht, TwA.f12 ht, TwA.f13 ht, TwA.f14 ht, TwA.f15 ht, TwA.b0 ht, TwA.b1 ht, TwA.b2 ht, TwA.g0 ht, TwA.g1 ht, TwA.g2 ht, E]
      rfl
  · rw [kCnt_f (by omega)]
    rw [if_neg kk] at F'
    exact c_full h ht t3 3 hP hq _ _ F' e
theorem c_pe {n : Nat} {B : Nat → Int} {u : hS} (h : cTp n B u) {t : Nat} (ht : TwA u t) (t3 : 243 ≤ t) {S : Nat → Int} (rt : RT u t S) {P q : Nat} (hP : P ≤ n) (hq : q ≤ n) (e : Int) : cOut n t u (m_X7_readClause_L39 t 2 4 e e) (tS u (P : Int) (q : Int) 0) (kCnt q (S 4) 4 (kPerson B n P (S 0))) (sPerson B n P (S 4).toNat S) (np B n P) := by
  have hs := h.1
  have cn := rt.ki
  have rc := rt.1
  obtain ⟨k, hk⟩ : ∃ k : Nat, S 4 = (k : Int) := ⟨(S 4).toNat, by have := cn.2.2.2.1; omega⟩
  have hc : hV u t 7 = (k : Int) := rc.2.2.2.2.1.trans hk
  have F' : m_X7_isFull t 4 (tS u (P : Int) (q : Int) 0) = some (if k < 4 then 0 else 1, tS u (P : Int) (q : Int) 0) := by
    simp only [m_X7_isFull, m_X7_isFull_L69, m_X7_isFull_L83, hgI_k, hgR_k, hpI_k, hpR_k, hpZ_k, haI_k, haR_k, hsI_k, hsZ_k, hlen_k, hlet_p, hret_p, hretZ_0, hretZ_1, hif_p, okk_setV, okk_setF, nV, nF, fV, vF, hcallV_b, hbind_p, tS_k, tS_F, tS_o (show t ≠ 2 by omega), TwA.k0 ht, TwA.k1 ht, TwA.k2 ht, TwA.k3 ht, TwA.k4 ht, TwA.k5 ht, TwA.k6 ht, TwA.k7 ht, TwA.k8 ht, TwA.k9 ht, TwA.k10 ht, TwA.k11 ht, TwA.k12 ht, TwA.k13 ht, TwA.k14 ht, TwA.k15 ht, TwA.k16 ht, TwA.k17 ht, TwA.n2 ht, TwA.n3 ht, TwA.n4 ht, TwA.n6 ht, TwA.n7 ht, TwA.n8 ht, TwA.n9 ht, TwA.n10 ht, TwA.n11 ht, TwA.n12 ht, TwA.n13 ht, TwA.n14 ht, TwA.n15 ht, TwA.n16 ht, TwA.n17 ht, TwA.f2 ht, TwA.f3 ht, TwA.f5 ht, TwA.f6 ht, TwA.f8 ht, TwA.f9 ht, TwA.f11 ht, TwA.f12 ht, TwA.f13 ht, TwA.f14 ht, TwA.f15 ht, TwA.b0 ht, TwA.b1 ht, TwA.b2 ht, TwA.g0 ht, TwA.g1 ht, TwA.g2 ht, hc]
    by_cases kk : k < 4
    · rw [if_pos kk, if_neg (by decide), if_neg (by decide), if_neg (by decide), if_pos (by trivial), if_pos (by omega)]
    · rw [if_neg kk, if_neg (by decide), if_neg (by decide), if_neg (by decide), if_pos (by trivial), if_neg (by omega)]
  rw [hk, Int.toNat_natCast]
  by_cases kk : k < 4
  · rw [kCnt_t (by omega)]
    rw [if_pos kk] at F'
    obtain ⟨p', s', E, b1, b2⟩ := c_person h ht t3 (q : Int) rc.1 cn.1.1 cn.1.2 hc kk hP
    by_cases z : kPerson B n P (S 0) = 0
    · refine ⟨personM u t k (nv B n P), p', s', ?_, b1, ?_, fun _ => ⟨b2 z, ?_⟩⟩
      · rw [if_pos z] at E
        rw [sk39, hcallV_b (by rw [tS_k]; exact ht.k0), F', hbind_p]
        simp only [m_X7_readClause_L177, hgI_k, hgR_k, hpI_k, hpR_k, hpZ_k, haI_k, haR_k, hsI_k, hsZ_k, hlen_k, hlet_p, hret_p, hretZ_0, hretZ_1, hif_p, okk_setV, okk_setF, nV, nF, fV, vF, hcallV_b, hbind_p, tS_k, tS_F, TwA.k0 ht, TwA.k1 ht, TwA.k2 ht, TwA.k3 ht, TwA.k4 ht, TwA.k5 ht, TwA.k6 ht, TwA.k7 ht, TwA.k8 ht, TwA.k9 ht, TwA.k10 ht, TwA.k11 ht, TwA.k12 ht, TwA.k13 ht, TwA.k14 ht, TwA.k15 ht, TwA.k16 ht, TwA.k17 ht, TwA.n2 ht, TwA.n3 ht, TwA.n4 ht, TwA.n6 ht, TwA.n7 ht, TwA.n8 ht, TwA.n9 ht, TwA.n10 ht, TwA.n11 ht, TwA.n12 ht, TwA.n13 ht, TwA.n14 ht, TwA.n15 ht, TwA.n16 ht, TwA.n17 ht, TwA.f2 ht, TwA.f3 ht, TwA.f5 ht, TwA.f6 ht, TwA.f8 ht, TwA.f9 ht, TwA.f11 ht, TwA.f12 ht, TwA.f13 ht, TwA.f14 ht, TwA.f15 ht, TwA.b0 ht, TwA.b1 ht, TwA.b2 ht, TwA.g0 ht, TwA.g1 ht, TwA.g2 ht, E]
        rfl
      · exact ((frT.rf t u).set (by omega) (by omega)).set (by omega) (by omega)
      · have r1 := nf_0 z
        exact rt.person hk kk ⟨r1.1, by omega⟩
    · refine ⟨u, p', s', ?_, b1, frT.rf t u, fun y => absurd y z⟩
      rw [if_neg z] at E
      rw [sk39, hcallV_b (by rw [tS_k]; exact ht.k0), F', hbind_p]
      simp only [m_X7_readClause_L177, hgI_k, hgR_k, hpI_k, hpR_k, hpZ_k, haI_k, haR_k, hsI_k, hsZ_k, hlen_k, hlet_p, hret_p, hretZ_0, hretZ_1, hif_p, okk_setV, okk_setF, nV, nF, fV, vF, hcallV_b, hbind_p, tS_k, tS_F, TwA.k0 ht, TwA.k1 ht, TwA.k2 ht, TwA.k3 ht, TwA.k4 ht, TwA.k5 ht, TwA.k6 ht, TwA.k7 ht, TwA.k8 ht, TwA.k9 ht, TwA.k10 ht, TwA.k11 ht, TwA.k12 ht, TwA.k13 ht, TwA.k14 ht, TwA.k15 ht, TwA.k16 ht, TwA.k17 ht, TwA.n2 ht, TwA.n3 ht, TwA.n4 ht, TwA.n6 ht, TwA.n7 ht, TwA.n8 ht, TwA.n9 ht, TwA.n10 ht, TwA.n11 ht, TwA.n12 ht, TwA.n13 ht, TwA.n14 ht, TwA.n15 ht, TwA.n16 ht, TwA.n17 ht, TwA.f2 ht, TwA.f3 ht, TwA.f5 ht, TwA.f6 ht, TwA.f8 ht, TwA.f9 ht, TwA.f11 ht, TwA.f12 ht, TwA.f13 ht, TwA.f14 ht, TwA.f15 ht, TwA.b0 ht, TwA.b1 ht, TwA.b2 ht, TwA.g0 ht, TwA.g1 ht, TwA.g2 ht, E]
      rfl
  · rw [kCnt_f (by omega)]
    rw [if_neg kk] at F'
    exact c_full h ht t3 4 hP hq _ _ F' e
theorem c_cr {n : Nat} {B : Nat → Int} {u : hS} (h : cTp n B u) {t : Nat} (ht : TwA u t) (t3 : 243 ≤ t) {S : Nat → Int} (rt : RT u t S) {P q : Nat} (hP : P ≤ n) (hq : q ≤ n) (e : Int) : cOut n t u (m_X7_readClause_L39 t 2 5 e e) (tS u (P : Int) (q : Int) 0) (kCrossed B n P (S 4) (S 2) (S 1)) (sCross B n P S) (np B n (np B n (np B n P))) := by
  have hs := h.1
  have cn := rt.ki
  have rc := rt.1
  have F' : m_X7_isFull t 5 (tS u (P : Int) (q : Int) 0) = some (0, tS u (P : Int) (q : Int) 0) := by
    simp only [m_X7_isFull, m_X7_isFull_L99, hgI_k, hgR_k, hpI_k, hpR_k, hpZ_k, haI_k, haR_k, hsI_k, hsZ_k, hlen_k, hlet_p, hret_p, hretZ_0, hretZ_1, hif_p, okk_setV, okk_setF, nV, nF, fV, vF]
    rw [if_neg (by decide), if_neg (by decide), if_neg (by decide), if_neg (by decide), if_pos (by trivial)]
  obtain ⟨p', s', E, b1, b2⟩ := c_crossed h ht t3 (q : Int) rc.2.2.2.2.1 cn.2.2.2.1.1 cn.2.2.2.1.2 rc.2.2.1 cn.2.1.1 cn.2.1.2 rc.2.1 hP
  by_cases z : kCrossed B n P (S 4) (S 2) (S 1) = 0
  · refine ⟨hsetV u (t + 12) (9 * (nv B n P).toNat + (nv B n (np B n P)).toNat) (nv B n (np B n (np B n P))), p', s', ?_, b1, ?_, fun _ => ⟨b2 z, ?_⟩⟩
    · rw [if_pos z] at E
      rw [sk39, hcallV_b (by rw [tS_k]; exact ht.k0), F', hbind_p]
      simp only [m_X7_readClause_L177, hgI_k, hgR_k, hpI_k, hpR_k, hpZ_k, haI_k, haR_k, hsI_k, hsZ_k, hlen_k, hlet_p, hret_p, hretZ_0, hretZ_1, hif_p, okk_setV, okk_setF, nV, nF, fV, vF, hcallV_b, hbind_p, tS_k, tS_F, TwA.k0 ht, TwA.k1 ht, TwA.k2 ht, TwA.k3 ht, TwA.k4 ht, TwA.k5 ht, TwA.k6 ht, TwA.k7 ht, TwA.k8 ht, TwA.k9 ht, TwA.k10 ht, TwA.k11 ht, TwA.k12 ht, TwA.k13 ht, TwA.k14 ht, TwA.k15 ht, TwA.k16 ht, TwA.k17 ht, TwA.n2 ht, TwA.n3 ht, TwA.n4 ht, TwA.n6 ht, TwA.n7 ht, TwA.n8 ht, TwA.n9 ht, TwA.n10 ht, TwA.n11 ht, TwA.n12 ht, TwA.n13 ht, TwA.n14 ht, TwA.n15 ht, TwA.n16 ht, TwA.n17 ht, TwA.f2 ht, TwA.f3 ht, TwA.f5 ht, TwA.f6 ht, TwA.f8 ht, TwA.f9 ht, TwA.f11 ht, TwA.f12 ht, TwA.f13 ht, TwA.f14 ht, TwA.f15 ht, TwA.b0 ht, TwA.b1 ht, TwA.b2 ht, TwA.g0 ht, TwA.g1 ht, TwA.g2 ht, E]
      rfl
    · exact (frT.rf t u).set (by omega) (by omega)
    · obtain ⟨z1, z2⟩ := sq_z z
      obtain ⟨z2, z3⟩ := sq_z z2
      have r1 := nf_0 z1
      have r2 := nf_0 z2
      have r3 := nf_0 z3
      have := cn.2.1
      exact rt.crossed (by omega) (by omega) ⟨r3.1, r3.2⟩
  · refine ⟨u, p', s', ?_, b1, frT.rf t u, fun y => absurd y z⟩
    rw [if_neg z] at E
    rw [sk39, hcallV_b (by rw [tS_k]; exact ht.k0), F', hbind_p]
    simp only [m_X7_readClause_L177, hgI_k, hgR_k, hpI_k, hpR_k, hpZ_k, haI_k, haR_k, hsI_k, hsZ_k, hlen_k, hlet_p, hret_p, hretZ_0, hretZ_1, hif_p, okk_setV, okk_setF, nV, nF, fV, vF, hcallV_b, hbind_p, tS_k, tS_F, TwA.k0 ht, TwA.k1 ht, TwA.k2 ht, TwA.k3 ht, TwA.k4 ht, TwA.k5 ht, TwA.k6 ht, TwA.k7 ht, TwA.k8 ht, TwA.k9 ht, TwA.k10 ht, TwA.k11 ht, TwA.k12 ht, TwA.k13 ht, TwA.k14 ht, TwA.k15 ht, TwA.k16 ht, TwA.k17 ht, TwA.n2 ht, TwA.n3 ht, TwA.n4 ht, TwA.n6 ht, TwA.n7 ht, TwA.n8 ht, TwA.n9 ht, TwA.n10 ht, TwA.n11 ht, TwA.n12 ht, TwA.n13 ht, TwA.n14 ht, TwA.n15 ht, TwA.n16 ht, TwA.n17 ht, TwA.f2 ht, TwA.f3 ht, TwA.f5 ht, TwA.f6 ht, TwA.f8 ht, TwA.f9 ht, TwA.f11 ht, TwA.f12 ht, TwA.f13 ht, TwA.f14 ht, TwA.f15 ht, TwA.b0 ht, TwA.b1 ht, TwA.b2 ht, TwA.g0 ht, TwA.g1 ht, TwA.g2 ht, E]
    rfl
theorem c_wa {n : Nat} {B : Nat → Int} {u : hS} (h : cTp n B u) {t : Nat} (ht : TwA u t) (t3 : 243 ≤ t) {S : Nat → Int} (rt : RT u t S) {P q : Nat} (hP : P ≤ n) (hq : q ≤ n) (e : Int) : cOut n t u (m_X7_readClause_L39 t 2 6 e e) (tS u (P : Int) (q : Int) 0) (kCnt q (S 5) 8 (kWant B n P (S 4) (S 0))) (sWant B n P (S 5).toNat S) (np B n (np B n (np B n (np B n P)))) := by
  have hs := h.1
  have cn := rt.ki
  have rc := rt.1
  obtain ⟨k, hk⟩ : ∃ k : Nat, S 5 = (k : Int) := ⟨(S 5).toNat, by have := cn.2.2.2.2.1; omega⟩
  have hc : hV u t 10 = (k : Int) := rc.2.2.2.2.2.1.trans hk
  have F' : m_X7_isFull t 6 (tS u (P : Int) (q : Int) 0) = some (if k < 8 then 0 else 1, tS u (P : Int) (q : Int) 0) := by
    simp only [m_X7_isFull, m_X7_isFull_L69, m_X7_isFull_L83, m_X7_isFull_L98, hgI_k, hgR_k, hpI_k, hpR_k, hpZ_k, haI_k, haR_k, hsI_k, hsZ_k, hlen_k, hlet_p, hret_p, hretZ_0, hretZ_1, hif_p, okk_setV, okk_setF, nV, nF, fV, vF, hcallV_b, hbind_p, tS_k, tS_F, tS_o (show t ≠ 2 by omega), TwA.k0 ht, TwA.k1 ht, TwA.k2 ht, TwA.k3 ht, TwA.k4 ht, TwA.k5 ht, TwA.k6 ht, TwA.k7 ht, TwA.k8 ht, TwA.k9 ht, TwA.k10 ht, TwA.k11 ht, TwA.k12 ht, TwA.k13 ht, TwA.k14 ht, TwA.k15 ht, TwA.k16 ht, TwA.k17 ht, TwA.n2 ht, TwA.n3 ht, TwA.n4 ht, TwA.n6 ht, TwA.n7 ht, TwA.n8 ht, TwA.n9 ht, TwA.n10 ht, TwA.n11 ht, TwA.n12 ht, TwA.n13 ht, TwA.n14 ht, TwA.n15 ht, TwA.n16 ht, TwA.n17 ht, TwA.f2 ht, TwA.f3 ht, TwA.f5 ht, TwA.f6 ht, TwA.f8 ht, TwA.f9 ht, TwA.f11 ht, TwA.f12 ht, TwA.f13 ht, TwA.f14 ht, TwA.f15 ht, TwA.b0 ht, TwA.b1 ht, TwA.b2 ht, TwA.g0 ht, TwA.g1 ht, TwA.g2 ht, hc]
    by_cases kk : k < 8
    · rw [if_pos kk, if_neg (by decide), if_neg (by decide), if_neg (by decide), if_neg (by decide), if_neg (by decide), if_pos (by trivial), if_pos (by omega)]
    · rw [if_neg kk, if_neg (by decide), if_neg (by decide), if_neg (by decide), if_neg (by decide), if_neg (by decide), if_pos (by trivial), if_neg (by omega)]
  rw [hk, Int.toNat_natCast]
  by_cases kk : k < 8
  · rw [kCnt_t (by omega)]
    rw [if_pos kk] at F'
    obtain ⟨p', s', E, b1, b2⟩ := c_want h ht t3 (q : Int) rc.2.2.2.2.1 cn.2.2.2.1.1 cn.2.2.2.1.2 rc.1 cn.1.1 cn.1.2 hc kk hP
    by_cases z : kWant B n P (S 4) (S 0) = 0
    · refine ⟨wantM u t k (nv B n P) (nv B n (np B n P)) (nv B n (np B n (np B n P))) (nv B n (np B n (np B n (np B n P)))), p', s', ?_, b1, ?_, fun _ => ⟨b2 z, ?_⟩⟩
      · rw [if_pos z] at E
        rw [sk39, hcallV_b (by rw [tS_k]; exact ht.k0), F', hbind_p]
        simp only [m_X7_readClause_L177, hgI_k, hgR_k, hpI_k, hpR_k, hpZ_k, haI_k, haR_k, hsI_k, hsZ_k, hlen_k, hlet_p, hret_p, hretZ_0, hretZ_1, hif_p, okk_setV, okk_setF, nV, nF, fV, vF, hcallV_b, hbind_p, tS_k, tS_F, TwA.k0 ht, TwA.k1 ht, TwA.k2 ht, TwA.k3 ht, TwA.k4 ht, TwA.k5 ht, TwA.k6 ht, TwA.k7 ht, TwA.k8 ht, TwA.k9 ht, TwA.k10 ht, TwA.k11 ht, TwA.k12 ht, TwA.k13 ht, TwA.k14 ht, TwA.k15 ht, TwA.k16 ht, TwA.k17 ht, TwA.n2 ht, TwA.n3 ht, TwA.n4 ht, TwA.n6 ht, TwA.n7 ht, TwA.n8 ht, TwA.n9 ht, TwA.n10 ht, TwA.n11 ht, TwA.n12 ht, TwA.n13 ht, TwA.n14 ht, TwA.n15 ht, TwA.n16 ht, TwA.n17 ht, TwA.f2 ht, TwA.f3 ht, TwA.f5 ht, TwA.f6 ht, TwA.f8 ht, TwA.f9 ht, TwA.f11 ht, TwA.f12 ht, TwA.f13 ht, TwA.f14 ht, TwA.f15 ht, TwA.b0 ht, TwA.b1 ht, TwA.b2 ht, TwA.g0 ht, TwA.g1 ht, TwA.g2 ht, E]
        rfl
      · exact (((((frT.rf t u).set (by omega) (by omega)).set (by omega) (by omega)).set (by omega) (by omega)).set (by omega) (by omega)).set (by omega) (by omega)
      · obtain ⟨z1, z2⟩ := sq_z z
        obtain ⟨z2, z3⟩ := sq_z z2
        obtain ⟨z3, z4⟩ := sq_z z3
        have r1 := nf_0 z1
        have r2 := nf_0 z2
        have r3 := nf_0 z3
        have r4 := nf_0 z4
        exact rt.want hk kk ⟨r1.1, by omega⟩ ⟨r2.1, by omega⟩ ⟨r3.1, r3.2⟩ ⟨by omega, by omega⟩
    · refine ⟨u, p', s', ?_, b1, frT.rf t u, fun y => absurd y z⟩
      rw [if_neg z] at E
      rw [sk39, hcallV_b (by rw [tS_k]; exact ht.k0), F', hbind_p]
      simp only [m_X7_readClause_L177, hgI_k, hgR_k, hpI_k, hpR_k, hpZ_k, haI_k, haR_k, hsI_k, hsZ_k, hlen_k, hlet_p, hret_p, hretZ_0, hretZ_1, hif_p, okk_setV, okk_setF, nV, nF, fV, vF, hcallV_b, hbind_p, tS_k, tS_F, TwA.k0 ht, TwA.k1 ht, TwA.k2 ht, TwA.k3 ht, TwA.k4 ht, TwA.k5 ht, TwA.k6 ht, TwA.k7 ht, TwA.k8 ht, TwA.k9 ht, TwA.k10 ht, TwA.k11 ht, TwA.k12 ht, TwA.k13 ht, TwA.k14 ht, TwA.k15 ht, TwA.k16 ht, TwA.k17 ht, TwA.n2 ht, TwA.n3 ht, TwA.n4 ht, TwA.n6 ht, TwA.n7 ht, TwA.n8 ht, TwA.n9 ht, TwA.n10 ht, TwA.n11 ht, TwA.n12 ht, TwA.n13 ht, TwA.n14 ht, TwA.n15 ht, TwA.n16 ht, TwA.n17 ht, TwA.f2 ht, TwA.f3 ht, TwA.f5 ht, TwA.f6 ht, TwA.f8 ht, TwA.f9 ht, TwA.f11 ht, TwA.f12 ht, TwA.f13 ht, TwA.f14 ht, TwA.f15 ht, TwA.b0 ht, TwA.b1 ht, TwA.b2 ht, TwA.g0 ht, TwA.g1 ht, TwA.g2 ht, E]
      rfl
  · rw [kCnt_f (by omega)]
    rw [if_neg kk] at F'
    exact c_full h ht t3 6 hP hq _ _ F' e
theorem c_to {n : Nat} {B : Nat → Int} {u : hS} (h : cTp n B u) {t : Nat} (ht : TwA u t) (t3 : 243 ≤ t) {S : Nat → Int} (rt : RT u t S) (S0 : S 0 = 0) {P q : Nat} (hP : P ≤ n) (hq : q ≤ n) (e : Int) : cOut n t u (m_X7_readClause_L39 t 2 0 e e) (tS u (P : Int) (q : Int) 0) (kTown B n P) (sTown B n P S) (np B n (np B n P)) := by
  have hs := h.1
  have F' : m_X7_isFull t 0 (tS u (P : Int) (q : Int) 0) = some (0, tS u (P : Int) (q : Int) 0) := by
    simp only [m_X7_isFull, m_X7_isFull_L99, hgI_k, hgR_k, hpI_k, hpR_k, hpZ_k, haI_k, haR_k, hsI_k, hsZ_k, hlen_k, hlet_p, hret_p, hretZ_0, hretZ_1, hif_p, okk_setV, okk_setF, nV, nF, fV, vF]
    rw [if_neg (by decide), if_neg (by decide), if_neg (by decide), if_neg (by decide), if_neg (by decide), if_neg (by decide)]
  obtain ⟨p', s', u', E, ⟨a, b, hu⟩, b1, b2⟩ := c_town h ht t3 (q : Int) hP
  refine ⟨u', p', s', ?_, b1, ?_, fun z => ⟨(b2 z).1, ?_⟩⟩
  · rw [sk39, hcallV_b (by rw [tS_k]; exact ht.k0), F', hbind_p, hif_p, if_pos rfl, hif_p, if_pos rfl, hcallV_b (by rw [tS_k]; exact kk_2 hs)]
    exact E
  · rw [hu]
    exact ((frT.rf t u).set (by omega) (by omega)).set (by omega) (by omega)
  · rw [(b2 z).2]
    obtain ⟨z1, z2⟩ := sq_z z
    have r1 := nf_0 z1
    have r2 := nf_0 z2
    exact rt.town S0 r1 r2
theorem c_rc {n : Nat} {B : Nat → Int} {u : hS} (h : cTp n B u) {t : Nat} (ht : TwA u t) (t3 : 243 ≤ t) {c : Nat} (c4 : c < 40) (s : Int) {p : Nat} (hp : p ≤ n) (w0 : wfind B n (sk B n p) twW 0 ≠ -1) : m_X7_readClause t 2 (c : Int) (tS u (p : Int) s 0) = m_X7_readClause_L39 t 2 (wfind B n (sk B n p) twW 0) (if wfind B n (sk B n p) twW 0 = 0 then 1 else 0) (if c = 0 then 1 else 0) (tS u ((sk B n p + wl B n (sk B n p) : Nat) : Int) ((sk B n p : Nat) : Int) 0) := by
  have hs := h.1
  have E := c_word0 h s hp
  rw [if_neg w0] at E
  simp only [m_X7_readClause, m_X7_readClause_L30, hgI_k, hgR_k, hpI_k, hpR_k, hpZ_k, haI_k, haR_k, hsI_k, hsZ_k, hlen_k, hlet_p, hret_p, hretZ_0, hretZ_1, hif_p, okk_setV, okk_setF, nV, nF, fV, vF, hcallV_b, hbind_p, tS_k, tS_4, kk_2 hs, E]
  rw [if_pos (by trivial), if_neg (by omega)]
  by_cases y : wfind B n (sk B n p) twW 0 = 0
  · rw [if_pos y, if_neg (fun z => z y)]
    by_cases z : c = 0
    · rw [if_pos z, if_neg (by omega)]
    · rw [if_neg z, if_pos (by omega)]
  · rw [if_neg y, if_pos y]
    by_cases z : c = 0
    · rw [if_pos z, if_neg (by omega)]
    · rw [if_neg z, if_pos (by omega)]
theorem c_line {n : Nat} {B : Nat → Int} {u : hS} (h : cTp n B u) {t : Nat} (ht : TwA u t) (t3 : 243 ≤ t) {S : Nat → Int} (rt : RT u t S) {c : Nat} (c4 : c ≤ 40) (cz : c = 0 ↔ S 0 = 0) (s : Int) {p : Nat} (hp : p ≤ n) : cOut n t u (m_X7_readClause t 2 (c : Int)) (tS u (p : Int) s 0) (kLine B n (sk B n p) (wfind B n (sk B n p) twW 0) c S) (sLine B n (sk B n p) (wfind B n (sk B n p) twW 0) S) (pLine B n (sk B n p) (wfind B n (sk B n p) twW 0)) := by
  have hs := h.1
  have b := (sk_le B hp).2
  have P := (wl_b B b).1
  unfold kLine
  by_cases w0 : wfind B n (sk B n p) twW 0 = -1
  · rw [if_pos w0]
    have E := c_word0 h s hp
    rw [if_pos w0] at E
    refine ⟨u, sk B n p, sk B n p, ?_, b, frT.rf t u, fun z => absurd z (by omega)⟩
    simp only [m_X7_readClause, hgI_k, hgR_k, hpI_k, hpR_k, hpZ_k, haI_k, haR_k, hsI_k, hsZ_k, hlen_k, hlet_p, hret_p, hretZ_0, hretZ_1, hif_p, okk_setV, okk_setF, nV, nF, fV, vF, hcallV_b, hbind_p, tS_k, tS_4, kk_2 hs, E]
    rw [if_neg (by omega)]
  · rw [if_neg w0]
    by_cases cc : (40 : Int) ≤ (c : Int)
    · rw [if_pos cc]
      have E := c_word0 h s hp
      rw [if_neg w0] at E
      refine ⟨u, _, sk B n p, ?_, P, frT.rf t u, fun z => absurd z (kF_n _)⟩
      simp only [m_X7_readClause, hgI_k, hgR_k, hpI_k, hpR_k, hpZ_k, haI_k, haR_k, hsI_k, hsZ_k, hlen_k, hlet_p, hret_p, hretZ_0, hretZ_1, hif_p, okk_setV, okk_setF, nV, nF, fV, vF, hcallV_b, hbind_p, tS_k, tS_4, kk_2 hs, E]
      rw [if_pos (by trivial), if_pos (by omega)]
      exact c_L50 h _ b
    · rw [if_neg cc]
      have R := c_rc h ht t3 (c := c) (by omega) s hp w0
      have fl : ∀ w : Int, wfind B n (sk B n p) twW 0 = w → w ≠ 0 → c = 0 → cOut n t u (m_X7_readClause t 2 (c : Int)) (tS u (p : Int) s 0) (kF (sk B n p)) (sLine B n (sk B n p) w S) (pLine B n (sk B n p) w) := by
        intro w hw wn z
        refine ⟨u, _, sk B n p, ?_, P, frT.rf t u, fun z => absurd z (kF_n _)⟩
        rw [R, hw, if_neg wn, if_pos z]
        unfold m_X7_readClause_L39
        rw [hif_p, if_pos (by decide)]
        exact c_L50 h _ b
      have co : ∀ (w e : Int) (K : Nat) (S1 : Nat → Int) (P1 : Nat), wfind B n (sk B n p) twW 0 = w → (if w = 0 then (1 : Int) else 0) = e → (if c = 0 then (1 : Int) else 0) = e → cOut n t u (m_X7_readClause_L39 t 2 w e e) (tS u ((sk B n p + wl B n (sk B n p) : Nat) : Int) ((sk B n p : Nat) : Int) 0) K S1 P1 → cOut n t u (m_X7_readClause t 2 (c : Int)) (tS u (p : Int) s 0) K S1 P1 := by
        intro w e K S1 P1 hw h1 h2 o
        rw [hw, h1, h2] at R
        unfold cOut
        rw [R]
        exact o
      unfold kTl
      rcases tw_cases B n (sk B n p) with ⟨w, _⟩ | ⟨w, _⟩ | ⟨w, _⟩ | ⟨w, _⟩ | ⟨w, _⟩ | ⟨w, _⟩ | ⟨w, _⟩ | ⟨w, _⟩
      · exact absurd w w0
      · rw [w, if_pos rfl]
        by_cases z : S 0 = 0
        · rw [if_pos z]
          exact co 0 1 _ _ _ w (if_pos rfl) (if_pos (cz.2 z)) (c_to h ht t3 rt z P b 1)
        · rw [if_neg z]
          refine ⟨u, _, sk B n p, ?_, P, frT.rf t u, fun z => absurd z (kF_n _)⟩
          rw [R, w, if_pos rfl, if_neg (fun y => z (cz.1 y))]
          unfold m_X7_readClause_L39
          rw [hif_p, if_pos (by decide)]
          exact c_L50 h _ b
      · rw [w, if_neg (by decide)]
        by_cases z : S 0 = 0
        · rw [if_pos z]
          exact fl 1 w (by decide) (cz.2 z)
        · rw [if_neg z, if_pos rfl]
          exact co 1 0 _ _ _ w (if_neg (by decide)) (if_neg (fun y => z (cz.1 y))) (c_br h ht t3 rt P b 0)
      · rw [w, if_neg (by decide)]
        by_cases z : S 0 = 0
        · rw [if_pos z]
          exact fl 2 w (by decide) (cz.2 z)
        · rw [if_neg z, if_neg (by decide), if_pos rfl]
          exact co 2 0 _ _ _ w (if_neg (by decide)) (if_neg (fun y => z (cz.1 y))) (c_fe h ht t3 rt P b 0)
      · rw [w, if_neg (by decide)]
        by_cases z : S 0 = 0
        · rw [if_pos z]
          exact fl 3 w (by decide) (cz.2 z)
        · rw [if_neg z, if_neg (by decide), if_neg (by decide), if_pos rfl]
          exact co 3 0 _ _ _ w (if_neg (by decide)) (if_neg (fun y => z (cz.1 y))) (c_fr h ht t3 rt P b 0)
      · rw [w, if_neg (by decide)]
        by_cases z : S 0 = 0
        · rw [if_pos z]
          exact fl 4 w (by decide) (cz.2 z)
        · rw [if_neg z, if_neg (by decide), if_neg (by decide), if_neg (by decide), if_pos rfl]
          exact co 4 0 _ _ _ w (if_neg (by decide)) (if_neg (fun y => z (cz.1 y))) (c_pe h ht t3 rt P b 0)
      · rw [w, if_neg (by decide)]
        by_cases z : S 0 = 0
        · rw [if_pos z]
          exact fl 5 w (by decide) (cz.2 z)
        · rw [if_neg z, if_neg (by decide), if_neg (by decide), if_neg (by decide), if_neg (by decide), if_pos rfl]
          exact co 5 0 _ _ _ w (if_neg (by decide)) (if_neg (fun y => z (cz.1 y))) (c_cr h ht t3 rt P b 0)
      · rw [w, if_neg (by decide)]
        by_cases z : S 0 = 0
        · rw [if_pos z]
          exact fl 6 w (by decide) (cz.2 z)
        · rw [if_neg z, if_neg (by decide), if_neg (by decide), if_neg (by decide), if_neg (by decide), if_neg (by decide)]
          exact co 6 0 _ _ _ w (if_neg (by decide)) (if_neg (fun y => z (cz.1 y))) (c_wa h ht t3 rt P b 0)
theorem sLine_0 {B : Nat → Int} {n q : Nat} {w c : Int} {S : Nat → Int} (w0 : w ≠ -1) (z : kLine B n q w c S = 0) : sLine B n q w S 0 ≠ 0 ∧ c < 40 := by
  unfold kLine at z
  rw [if_neg w0] at z
  by_cases cc : 40 ≤ c
  · rw [if_pos cc] at z
    exact absurd z (kF_n _)
  · rw [if_neg cc] at z
    refine ⟨?_, by omega⟩
    unfold kTl at z
    unfold sLine
    by_cases h0 : w = 0
    · rw [if_pos h0] at z ⊢
      by_cases s0 : S 0 = 0
      · rw [if_pos s0] at z
        have := nf_0 (sq_z z).1
        unfold sTown
        rw [sup_s]
        omega
      · rw [if_neg s0] at z
        exact absurd z (kF_n _)
    · rw [if_neg h0] at z ⊢
      by_cases s0 : S 0 = 0
      · rw [if_pos s0] at z
        exact absurd z (kF_n _)
      · split
        · unfold sBridge
          rw [sup_n (by decide), sLink_o (by omega) (by omega)]
          exact s0
        · split
          · unfold sFerry
            rw [sup_n (by decide), sLink_o (by omega) (by omega)]
            exact s0
          · split
            · unfold sFrost
              rw [sup_n (by decide), sLink_o (by omega) (by omega)]
              exact s0
            · split
              · unfold sPerson
                rw [sup_n (by decide), zL_4 _ _ _ _ (by decide), sup_n (by omega), sup_n (by omega), sup_n (by omega)]
                exact s0
              · split
                · unfold sCross
                  rw [sup_n (by omega)]
                  exact s0
                · unfold sWant
                  rw [sup_n (by decide), sup_n (by omega), sup_n (by omega), sup_n (by omega), sup_n (by omega)]
                  exact s0
