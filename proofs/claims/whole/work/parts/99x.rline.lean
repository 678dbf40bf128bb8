/-! a line of a town, as the reference reads it -/
theorem tw_cases (B : Nat → Int) (n q : Nat) : (wfind B n q twW 0 = -1 ∧ ¬ isW B n q 1953462126 ∧ ¬ isW B n q 108243533981541 ∧ ¬ isW B n q 439788663417 ∧ ¬ isW B n q 440006570868 ∧ ¬ isW B n q 123581014175598 ∧ ¬ isW B n q 27991845698233700 ∧ ¬ isW B n q 2002873972) ∨ (wfind B n q twW 0 = 0 ∧ isW B n q 1953462126) ∨ (wfind B n q twW 0 = 1 ∧ ¬ isW B n q 1953462126 ∧ isW B n q 108243533981541) ∨ (wfind B n q twW 0 = 2 ∧ ¬ isW B n q 1953462126 ∧ ¬ isW B n q 108243533981541 ∧ isW B n q 439788663417) ∨ (wfind B n q twW 0 = 3 ∧ ¬ isW B n q 1953462126 ∧ ¬ isW B n q 108243533981541 ∧ ¬ isW B n q 439788663417 ∧ isW B n q 440006570868) ∨ (wfind B n q twW 0 = 4 ∧ ¬ isW B n q 1953462126 ∧ ¬ isW B n q 108243533981541 ∧ ¬ isW B n q 439788663417 ∧ ¬ isW B n q 440006570868 ∧ isW B n q 123581014175598) ∨ (wfind B n q twW 0 = 5 ∧ ¬ isW B n q 1953462126 ∧ ¬ isW B n q 108243533981541 ∧ ¬ isW B n q 439788663417 ∧ ¬ isW B n q 440006570868 ∧ ¬ isW B n q 123581014175598 ∧ isW B n q 27991845698233700) ∨ (wfind B n q twW 0 = 6 ∧ ¬ isW B n q 1953462126 ∧ ¬ isW B n q 108243533981541 ∧ ¬ isW B n q 439788663417 ∧ ¬ isW B n q 440006570868 ∧ ¬ isW B n q 123581014175598 ∧ ¬ isW B n q 27991845698233700 ∧ isW B n q 2002873972) := by
  unfold twW
  rw [wfind_c, wfind_c, wfind_c, wfind_c, wfind_c, wfind_c, wfind_c]
  by_cases a0 : isW B n q 1953462126
  · rw [if_pos a0]
    exact .inr (.inl ⟨rfl, a0⟩)
  · rw [if_neg a0]
    by_cases a1 : isW B n q 108243533981541
    · rw [if_pos a1]
      exact .inr (.inr (.inl ⟨rfl, a0, a1⟩))
    · rw [if_neg a1]
      by_cases a2 : isW B n q 439788663417
      · rw [if_pos a2]
        exact .inr (.inr (.inr (.inl ⟨rfl, a0, a1, a2⟩)))
      · rw [if_neg a2]
        by_cases a3 : isW B n q 440006570868
        · rw [if_pos a3]
          exact .inr (.inr (.inr (.inr (.inl ⟨rfl, a0, a1, a2, a3⟩))))
        · rw [if_neg a3]
          by_cases a4 : isW B n q 123581014175598
          · rw [if_pos a4]
            exact .inr (.inr (.inr (.inr (.inr (.inl ⟨rfl, a0, a1, a2, a3, a4⟩)))))
          · rw [if_neg a4]
            by_cases a5 : isW B n q 27991845698233700
            · rw [if_pos a5]
              exact .inr (.inr (.inr (.inr (.inr (.inr (.inl ⟨rfl, a0, a1, a2, a3, a4, a5⟩))))))
            · rw [if_neg a5]
              by_cases a6 : isW B n q 2002873972
              · rw [if_pos a6]
                exact .inr (.inr (.inr (.inr (.inr (.inr (.inr ⟨rfl, a0, a1, a2, a3, a4, a5, a6⟩))))))
              · rw [if_neg a6]
                exact .inl ⟨rfl, a0, a1, a2, a3, a4, a5, a6⟩
/-- the fault of a line, what it tells, where it ends -/
def kTl (B : Nat → Int) (n q : Nat) (w : Int) (S : Nat → Int) : Nat := if w = 0 then (if S 0 = 0 then kTown B n (q + wl B n q) else kF q) else if S 0 = 0 then kF q else if w = 1 then kCnt q (S 2) 9 (kLink B n (q + wl B n q) (S 0)) else if w = 2 then kCnt q (S 3) 4 (kLink B n (q + wl B n q) (S 0)) else if w = 3 then kCnt q (S 7) 4 (kFrost B n (q + wl B n q)) else if w = 4 then kCnt q (S 4) 4 (kPerson B n (q + wl B n q) (S 0)) else if w = 5 then kCrossed B n (q + wl B n q) (S 4) (S 2) (S 1) else kCnt q (S 5) 8 (kWant B n (q + wl B n q) (S 4) (S 0))
def sLine (B : Nat → Int) (n q : Nat) (w : Int) (S : Nat → Int) : Nat → Int := if w = 0 then sTown B n (q + wl B n q) S else if w = 1 then sBridge B n (q + wl B n q) (S 2).toNat S else if w = 2 then sFerry B n (q + wl B n q) (S 3).toNat S else if w = 3 then sFrost B n (q + wl B n q) (S 7).toNat S else if w = 4 then sPerson B n (q + wl B n q) (S 4).toNat S else if w = 5 then sCross B n (q + wl B n q) S else sWant B n (q + wl B n q) (S 5).toNat S
def pLine (B : Nat → Int) (n q : Nat) (w : Int) : Nat := if w = 4 then np B n (q + wl B n q) else if w = 5 then np B n (np B n (np B n (q + wl B n q))) else if w = 6 then np B n (np B n (np B n (np B n (q + wl B n q)))) else np B n (np B n (q + wl B n q))
def kLine (B : Nat → Int) (n q : Nat) (w c : Int) (S : Nat → Int) : Nat := if w = -1 then 1 + 8 * q else if 40 ≤ c then kF q else kTl B n q w S
theorem rOut_w {v : hS} {g G : hM} {st : hS} {K : Nat} {S1 : Nat → Int} {P1 : Nat} (r : rOut v g st K S1 P1) (e : G st = hbind (g st) fun x => hretZ x) : rOut v G st K S1 P1 := by
  obtain ⟨S', p', k', h, z⟩ := r
  refine ⟨S', p', k', ?_, z⟩
  rw [e, h, hbind_p]
  by_cases y : K = 0
  · rw [if_pos y, hretZ_1]
  · rw [if_neg y, hretZ_0]
/-- what the reference knows of the counts while it reads -/
def cnS (S : Nat → Int) : Prop := (0 ≤ S 0 ∧ S 0 ≤ 8) ∧ (0 ≤ S 2 ∧ S 2 ≤ 9) ∧ (0 ≤ S 3 ∧ S 3 ≤ 4) ∧ (0 ≤ S 4 ∧ S 4 ≤ 4) ∧ (0 ≤ S 5 ∧ S 5 ≤ 8) ∧ 0 ≤ S 7 ∧ S 7 ≤ 4
theorem r_wdS {n : Nat} {B : Nat → Int} {v : hS} (h : rTp n B v) (S : Nat → Int) (W m : Int) {q : Nat} (hq : q ≤ n) (ss : sk B n q = q) : m_X10_isWord 220 W (rS (hput v 226 S) (q : Int) 0 m) = some (if isW B n q W then 1 else 0, rS (hput v 226 S) (q : Int) 0 m) := by
  have := r_isWord (h.put (a := 226) (g := S) (by decide) (by decide)) W 0 m hq
  rwa [ss] at this
theorem r_wd1 {n : Nat} {B : Nat → Int} {v : hS} (h : rTp n B v) (S : Nat → Int) {W : Int} (m : Int) {q : Nat} (hq : q ≤ n) (ss : sk B n q = q) (z : isW B n q W) : m_X10_isWord 220 W (rS (hput v 226 S) (q : Int) 0 m) = some (1, rS (hput v 226 S) (q : Int) 0 m) := by
  rw [r_wdS h S W m hq ss, if_pos z]
theorem r_wd0 {n : Nat} {B : Nat → Int} {v : hS} (h : rTp n B v) (S : Nat → Int) {W : Int} (m : Int) {q : Nat} (hq : q ≤ n) (ss : sk B n q = q) (z : ¬ isW B n q W) : m_X10_isWord 220 W (rS (hput v 226 S) (q : Int) 0 m) = some (0, rS (hput v 226 S) (q : Int) 0 m) := by
  rw [r_wdS h S W m hq ss, if_neg z]
theorem r_twd {n : Nat} {B : Nat → Int} {v : hS} (h : rTp n B v) (S : Nat → Int) (m : Int) {q : Nat} (hq : q ≤ n) (ss : sk B n q = q) : m_X10_isTownWord 220 (rS (hput v 226 S) (q : Int) 0 m) = some (if wfind B n q twW 0 = -1 then 0 else 1, rS (hput v 226 S) (q : Int) 0 m) := by
  have I0 := fun {W : Int} z => r_wd0 h S (W := W) m hq ss z
  have I1 := fun {W : Int} z => r_wd1 h S (W := W) m hq ss z
  rcases tw_cases B n q with ⟨w, a0, a1, a2, a3, a4, a5, a6⟩ | ⟨w, a0⟩ | ⟨w, a0, a1⟩ | ⟨w, a0, a1, a2⟩ | ⟨w, a0, a1, a2, a3⟩ | ⟨w, a0, a1, a2, a3, a4⟩ | ⟨w, a0, a1, a2, a3, a4, a5⟩ | ⟨w, a0, a1, a2, a3, a4, a5, a6⟩
  · rw [if_pos w]
    simp only [m_X10_isTownWord, m_X10_isTownWord_L40, m_X10_isTownWord_L45, m_X10_isTownWord_L80, m_X10_isTownWord_L85, hgI_k, hgR_k, hpI_k, hpR_k, hpZ_k, haI_k, haR_k, hsI_k, hsZ_k, hlen_k, hlet_p, hret_p, hretZ_0, hretZ_1, hif_p, okk_setV, okk_setF, nV, nF, fV, vF, r_cv h, hbind_p, I0 a0, I0 a1, I0 a2, I0 a3, I0 a4, I0 a5, I0 a6]
    rfl
  all_goals
    rw [if_neg (by rw [w]; decide)]
  · simp only [m_X10_isTownWord, m_X10_isTownWord_L40, m_X10_isTownWord_L45, m_X10_isTownWord_L80, m_X10_isTownWord_L85, hgI_k, hgR_k, hpI_k, hpR_k, hpZ_k, haI_k, haR_k, hsI_k, hsZ_k, hlen_k, hlet_p, hret_p, hretZ_0, hretZ_1, hif_p, okk_setV, okk_setF, nV, nF, fV, vF, r_cv h, hbind_p, I1 a0]
    rfl
  · simp only [m_X10_isTownWord, m_X10_isTownWord_L40, m_X10_isTownWord_L45, m_X10_isTownWord_L80, m_X10_isTownWord_L85, hgI_k, hgR_k, hpI_k, hpR_k, hpZ_k, haI_k, haR_k, hsI_k, hsZ_k, hlen_k, hlet_p, hret_p, hretZ_0, hretZ_1, hif_p, okk_setV, okk_setF, nV, nF, fV, vF, r_cv h, hbind_p, I0 a0, I1 a1]
    rfl
  · simp only [m_X10_isTownWord, m_X10_isTownWord_L40, m_X10_isTownWord_L45, m_X10_isTownWord_L80, m_X10_isTownWord_L85, hgI_k, hgR_k, hpI_k, hpR_k, hpZ_k, haI_k, haR_k, hsI_k, hsZ_k, hlen_k, hlet_p, hret_p, hretZ_0, hretZ_1, hif_p, okk_setV, okk_setF, nV, nF, fV, vF, r_cv h, hbind_p, I0 a0, I0 a1, I1 a2]
    rfl
  · simp only [m_X10_isTownWord, m_X10_isTownWord_L40, m_X10_isTownWord_L45, m_X10_isTownWord_L80, m_X10_isTownWord_L85, hgI_k, hgR_k, hpI_k, hpR_k, hpZ_k, haI_k, haR_k, hsI_k, hsZ_k, hlen_k, hlet_p, hret_p, hretZ_0, hretZ_1, hif_p, okk_setV, okk_setF, nV, nF, fV, vF, r_cv h, hbind_p, I0 a0, I0 a1, I0 a2, I1 a3]
    rfl
  · simp only [m_X10_isTownWord, m_X10_isTownWord_L40, m_X10_isTownWord_L45, m_X10_isTownWord_L80, m_X10_isTownWord_L85, hgI_k, hgR_k, hpI_k, hpR_k, hpZ_k, haI_k, haR_k, hsI_k, hsZ_k, hlen_k, hlet_p, hret_p, hretZ_0, hretZ_1, hif_p, okk_setV, okk_setF, nV, nF, fV, vF, r_cv h, hbind_p, I0 a0, I0 a1, I0 a2, I0 a3, I1 a4]
    rfl
  · simp only [m_X10_isTownWord, m_X10_isTownWord_L40, m_X10_isTownWord_L45, m_X10_isTownWord_L80, m_X10_isTownWord_L85, hgI_k, hgR_k, hpI_k, hpR_k, hpZ_k, haI_k, haR_k, hsI_k, hsZ_k, hlen_k, hlet_p, hret_p, hretZ_0, hretZ_1, hif_p, okk_setV, okk_setF, nV, nF, fV, vF, r_cv h, hbind_p, I0 a0, I0 a1, I0 a2, I0 a3, I0 a4, I1 a5]
    rfl
  · simp only [m_X10_isTownWord, m_X10_isTownWord_L40, m_X10_isTownWord_L45, m_X10_isTownWord_L80, m_X10_isTownWord_L85, hgI_k, hgR_k, hpI_k, hpR_k, hpZ_k, haI_k, haR_k, hsI_k, hsZ_k, hlen_k, hlet_p, hret_p, hretZ_0, hretZ_1, hif_p, okk_setV, okk_setF, nV, nF, fV, vF, r_cv h, hbind_p, I0 a0, I0 a1, I0 a2, I0 a3, I0 a4, I0 a5, I1 a6]
    rfl
theorem r_tline {n : Nat} {B : Nat → Int} {v : hS} (h : rTp n B v) (S : Nat → Int) (cn : cnS S) (m : Int) {q : Nat} (hq : q ≤ n) (ss : sk B n q = q) (w0 : wfind B n q twW 0 ≠ -1) : rOut v (m_X10_townLineHere 220 (q : Int)) (rS (hput v 226 S) (q : Int) 0 m) (kTl B n q (wfind B n q twW 0) S) (sLine B n q (wfind B n q twW 0) S) (pLine B n q (wfind B n q twW 0)) := by
  have I0 := fun {W : Int} z => r_wd0 h S (W := W) m hq ss z
  have I1 := fun {W : Int} z => r_wd1 h S (W := W) m hq ss z
  have L0 : (0 : Int) = ((0 : Nat) : Int) := rfl
  have l0 := lt_c 0 160 rfl
  obtain ⟨⟨x0, x8⟩, ⟨b0, b9⟩, ⟨f0, f4⟩, ⟨a0, a4⟩, ⟨w0', w8⟩, r0, r4⟩ := cn
  have tn : ∀ z : Int, ∃ k : Nat, 0 ≤ z → z = (k : Int) := fun z => ⟨z.toNat, fun y => by omega⟩
  obtain ⟨kb, hb⟩ := tn (S 2)
  obtain ⟨kf, hf⟩ := tn (S 3)
  obtain ⟨ka, ha⟩ := tn (S 4)
  obtain ⟨kw, hw⟩ := tn (S 5)
  obtain ⟨kr, hr⟩ := tn (S 7)
  have hb := hb b0
  have hf := hf f0
  have ha := ha a0
  have hw := hw w0'
  have hr := hr r0
  have no : ∀ (z : Int), z ≠ 0 → ¬ (z = 0) := fun _ y => y
  have nz : ¬ (wfind B n q twW 0 = 0) → S 0 = 0 → ¬ isW B n q 1953462126 → ∀ S1 P1, rOut v (m_X10_townLineHere 220 (q : Int)) (rS (hput v 226 S) (q : Int) 0 m) (kF q) S1 P1 := by
    intro _ z y S1 P1
    refine rOut_b (kF_n q) S (q : Int) m ?_
    simp only [m_X10_townLineHere, hgI_k, hgR_k, hpI_k, hpR_k, hpZ_k, haI_k, haR_k, hsI_k, hsZ_k, hlen_k, hlet_p, hret_p, hretZ_0, hretZ_1, hif_p, okk_setV, okk_setF, nV, nF, fV, vF, r_cv h, hbind_p, I0 y, r_g7 h, r_ld h L0 l0, z]
    rw [if_pos (by trivial), if_neg (fun y => y rfl)]
    have := r_fail4 h S (q : Int) m hq (f := fun v15 => hretZ v15)
    rw [r_cv h] at this
    rw [this]
    rfl
  rcases tw_cases B n q with ⟨w, _⟩ | ⟨w, a0⟩ | ⟨w, a0, a1⟩ | ⟨w, a0, a1, a2⟩ | ⟨w, a0, a1, a2, a3⟩ | ⟨w, a0, a1, a2, a3, a4⟩ | ⟨w, a0, a1, a2, a3, a4, a5⟩ | ⟨w, a0, a1, a2, a3, a4, a5, a6⟩
  · exact absurd w w0
  · rw [w]
    show rOut v (m_X10_townLineHere 220 (q : Int)) (rS (hput v 226 S) (q : Int) 0 m) (if S 0 = 0 then kTown B n (q + wl B n q) else kF q) (sTown B n (q + wl B n q) S) (np B n (np B n (q + wl B n q)))
    by_cases z : S 0 = 0
    · rw [if_pos z]
      have R : rOut v (m_X10_isTownHere 220 (q : Int)) (rS (hput v 226 S) (q : Int) 0 m) (kTown B n (q + wl B n q)) (sTown B n (q + wl B n q) S) (np B n (np B n (q + wl B n q))) := by
        by_cases y : kTown B n (q + wl B n q) = 0
        · exact rOut_g y _ (r_town h S (by omega) (q : Int) m hq y)
        · obtain ⟨S', p', k', e⟩ := r_townX h S (by omega) (q : Int) m hq y
          exact rOut_b y S' p' k' e
      refine rOut_w R ?_
      simp only [m_X10_townLineHere, hgI_k, hgR_k, hpI_k, hpR_k, hpZ_k, haI_k, haR_k, hsI_k, hsZ_k, hlen_k, hlet_p, hret_p, hretZ_0, hretZ_1, hif_p, okk_setV, okk_setF, nV, nF, fV, vF, r_cv h, hbind_p, I1 a0]
      rfl
    · rw [if_neg z]
      refine rOut_b (kF_n q) S (q : Int) m ?_
      simp only [m_X10_townLineHere, m_X10_isTownHere, hgI_k, hgR_k, hpI_k, hpR_k, hpZ_k, haI_k, haR_k, hsI_k, hsZ_k, hlen_k, hlet_p, hret_p, hretZ_0, hretZ_1, hif_p, okk_setV, okk_setF, nV, nF, fV, vF, r_cv h, hbind_p, I1 a0, r_g7 h, r_ld h L0 l0]
      rw [if_neg (by decide), if_neg (by omega)]
      have := r_fail4 h S (q : Int) m hq (f := fun v15 => hretZ v15)
      rw [r_cv h] at this
      rw [this]
      rfl
  · rw [w]
    show rOut v (m_X10_townLineHere 220 (q : Int)) (rS (hput v 226 S) (q : Int) 0 m) (if S 0 = 0 then kF q else kCnt q (S 2) 9 (kLink B n (q + wl B n q) (S 0))) (sBridge B n (q + wl B n q) (S 2).toNat S) (np B n (np B n (q + wl B n q)))
    by_cases z : S 0 = 0
    · rw [if_pos z]
      exact nz (by rw [w]; decide) z a0 _ _
    · rw [if_neg z, hb, Int.toNat_natCast]
      refine rOut_w (r_bridge h S hb (by omega) rfl x0 x8 m hq) ?_
      simp only [m_X10_townLineHere, m_X10_townLineHere_L118, hgI_k, hgR_k, hpI_k, hpR_k, hpZ_k, haI_k, haR_k, hsI_k, hsZ_k, hlen_k, hlet_p, hret_p, hretZ_0, hretZ_1, hif_p, okk_setV, okk_setF, nV, nF, fV, vF, r_cv h, hbind_p, I0 a0, I1 a1, r_g7 h, r_ld h L0 l0]
      rw [if_pos (by trivial), if_pos z]
      rfl
  · rw [w]
    show rOut v (m_X10_townLineHere 220 (q : Int)) (rS (hput v 226 S) (q : Int) 0 m) (if S 0 = 0 then kF q else kCnt q (S 3) 4 (kLink B n (q + wl B n q) (S 0))) (sFerry B n (q + wl B n q) (S 3).toNat S) (np B n (np B n (q + wl B n q)))
    by_cases z : S 0 = 0
    · rw [if_pos z]
      exact nz (by rw [w]; decide) z a0 _ _
    · rw [if_neg z, hf, Int.toNat_natCast]
      refine rOut_w (r_ferry h S hf (by omega) rfl x0 x8 m hq) ?_
      simp only [m_X10_townLineHere, m_X10_townLineHere_L118, hgI_k, hgR_k, hpI_k, hpR_k, hpZ_k, haI_k, haR_k, hsI_k, hsZ_k, hlen_k, hlet_p, hret_p, hretZ_0, hretZ_1, hif_p, okk_setV, okk_setF, nV, nF, fV, vF, r_cv h, hbind_p, I0 a0, I0 a1, I1 a2, r_g7 h, r_ld h L0 l0]
      rw [if_pos (by trivial), if_pos z]
      rfl
  · rw [w]
    show rOut v (m_X10_townLineHere 220 (q : Int)) (rS (hput v 226 S) (q : Int) 0 m) (if S 0 = 0 then kF q else kCnt q (S 7) 4 (kFrost B n (q + wl B n q))) (sFrost B n (q + wl B n q) (S 7).toNat S) (np B n (np B n (q + wl B n q)))
    by_cases z : S 0 = 0
    · rw [if_pos z]
      exact nz (by rw [w]; decide) z a0 _ _
    · rw [if_neg z, hr, Int.toNat_natCast]
      refine rOut_w (r_frost h S hr (by omega) m hq) ?_
      simp only [m_X10_townLineHere, m_X10_townLineHere_L118, hgI_k, hgR_k, hpI_k, hpR_k, hpZ_k, haI_k, haR_k, hsI_k, hsZ_k, hlen_k, hlet_p, hret_p, hretZ_0, hretZ_1, hif_p, okk_setV, okk_setF, nV, nF, fV, vF, r_cv h, hbind_p, I0 a0, I0 a1, I0 a2, I1 a3, r_g7 h, r_ld h L0 l0]
      rw [if_pos (by trivial), if_pos z]
      rfl
  · rw [w]
    show rOut v (m_X10_townLineHere 220 (q : Int)) (rS (hput v 226 S) (q : Int) 0 m) (if S 0 = 0 then kF q else kCnt q (S 4) 4 (kPerson B n (q + wl B n q) (S 0))) (sPerson B n (q + wl B n q) (S 4).toNat S) (np B n (q + wl B n q))
    by_cases z : S 0 = 0
    · rw [if_pos z]
      exact nz (by rw [w]; decide) z a0 _ _
    · rw [if_neg z, ha, Int.toNat_natCast]
      refine rOut_w (r_person h S ha (by omega) rfl x0 x8 m hq) ?_
      simp only [m_X10_townLineHere, m_X10_townLineHere_L118, hgI_k, hgR_k, hpI_k, hpR_k, hpZ_k, haI_k, haR_k, hsI_k, hsZ_k, hlen_k, hlet_p, hret_p, hretZ_0, hretZ_1, hif_p, okk_setV, okk_setF, nV, nF, fV, vF, r_cv h, hbind_p, I0 a0, I0 a1, I0 a2, I0 a3, I1 a4, r_g7 h, r_ld h L0 l0]
      rw [if_pos (by trivial), if_pos z]
      rfl
  · rw [w]
    show rOut v (m_X10_townLineHere 220 (q : Int)) (rS (hput v 226 S) (q : Int) 0 m) (if S 0 = 0 then kF q else kCrossed B n (q + wl B n q) (S 4) (S 2) (S 1)) (sCross B n (q + wl B n q) S) (np B n (np B n (np B n (q + wl B n q))))
    by_cases z : S 0 = 0
    · rw [if_pos z]
      exact nz (by rw [w]; decide) z a0 _ _
    · rw [if_neg z]
      refine rOut_w (r_crossed h S rfl (by omega) (by omega) rfl b0 b9 rfl m hq) ?_
      simp only [m_X10_townLineHere, m_X10_townLineHere_L118, hgI_k, hgR_k, hpI_k, hpR_k, hpZ_k, haI_k, haR_k, hsI_k, hsZ_k, hlen_k, hlet_p, hret_p, hretZ_0, hretZ_1, hif_p, okk_setV, okk_setF, nV, nF, fV, vF, r_cv h, hbind_p, I0 a0, I0 a1, I0 a2, I0 a3, I0 a4, I1 a5, r_g7 h, r_ld h L0 l0]
      rw [if_pos (by trivial), if_pos z]
      rfl
  · rw [w]
    show rOut v (m_X10_townLineHere 220 (q : Int)) (rS (hput v 226 S) (q : Int) 0 m) (if S 0 = 0 then kF q else kCnt q (S 5) 8 (kWant B n (q + wl B n q) (S 4) (S 0))) (sWant B n (q + wl B n q) (S 5).toNat S) (np B n (np B n (np B n (np B n (q + wl B n q)))))
    by_cases z : S 0 = 0
    · rw [if_pos z]
      exact nz (by rw [w]; decide) z a0 _ _
    · rw [if_neg z, hw, Int.toNat_natCast]
      refine rOut_w (r_want h S hw (by omega) rfl (by omega) (by omega) rfl x0 x8 m hq) ?_
      simp only [m_X10_townLineHere, m_X10_townLineHere_L118, hgI_k, hgR_k, hpI_k, hpR_k, hpZ_k, haI_k, haR_k, hsI_k, hsZ_k, hlen_k, hlet_p, hret_p, hretZ_0, hretZ_1, hif_p, okk_setV, okk_setF, nV, nF, fV, vF, r_cv h, hbind_p, I0 a0, I0 a1, I0 a2, I0 a3, I0 a4, I0 a5, r_g7 h, r_ld h L0 l0]
      rw [if_pos (by trivial), if_pos z]
      rfl
theorem r_line {n : Nat} {B : Nat → Int} {v : hS} (h : rTp n B v) (h11 : hV v 220 11 = 6) (S : Nat → Int) (cn : cnS S) {c : Nat} (c4 : c ≤ 40) (m : Int) {p : Nat} (hp : p ≤ n) : ∃ (y : Nat) (S' : Nat → Int) (p' k' : Int), m_X10_clauseHere 220 (rS (hput (hsetV v 220 14 (c : Int)) 226 S) (p : Int) 0 m) = some (if kLine B n (sk B n p) (wfind B n (sk B n p) twW 0) c S = 0 then 1 else 0, rS (hput (hsetV v 220 14 (y : Int)) 226 S') p' ((kLine B n (sk B n p) (wfind B n (sk B n p) twW 0) c S : Nat) : Int) k') ∧ (kLine B n (sk B n p) (wfind B n (sk B n p) twW 0) c S = 0 → y = c + 1 ∧ S' = sLine B n (sk B n p) (wfind B n (sk B n p) twW 0) S ∧ p' = ((pLine B n (sk B n p) (wfind B n (sk B n p) twW 0) : Nat) : Int)) := by
  have h0 : rTp n B (hsetV v 220 14 (c : Int)) := h.set (by decide) (.inr (by decide))
  have h1 : rTp n B (hsetV v 220 14 ((c + 1 : Nat) : Int)) := h.set (by decide) (.inr (by decide))
  have b := (sk_le B hp).2
  have ss := sk_sk B hp
  have hs : shp v := h.1
  have k0 : ∀ (S : Nat → Int) (p w k : Int), okk (rS (hput (hsetV v 220 14 (c : Int)) 226 S) p w k) 220 10 := fun S p w k => by
    rw [rS_k, okk_put]
    exact kk_220 h0.1
  have c6 : c < 1000000 := by omega
  have g11 : ∀ (S : Nat → Int) (p w k : Int) (f : Int → hM), hgI 10 220 11 f (rS (hput (hsetV v 220 14 (c : Int)) 226 S) p w k) = f 6 (rS (hput (hsetV v 220 14 (c : Int)) 226 S) p w k) := fun S p w k f => by
    rw [hgI_k (k0 _ _ _ _), rS_i (by decide), hV_put_n (by decide), hV_setV_i (by decide), h11]
  have g14 : ∀ (S : Nat → Int) (p w k : Int) (f : Int → hM), hgI 10 220 14 f (rS (hput (hsetV v 220 14 (c : Int)) 226 S) p w k) = f (c : Int) (rS (hput (hsetV v 220 14 (c : Int)) 226 S) p w k) := fun S p w k f => by
    rw [hgI_k (k0 _ _ _ _), rS_i (by decide), hV_put_n (by decide), hV_setV_s]
  have g8 : ∀ (S : Nat → Int) (p w k : Int) (f : Int → hM), hgI 10 220 8 f (rS (hput (hsetV v 220 14 (c : Int)) 226 S) p w k) = f p (rS (hput (hsetV v 220 14 (c : Int)) 226 S) p w k) := fun S p w k f => by
    rw [hgI_k (k0 _ _ _ _), rS_8]
  have p14 : ∀ (S : Nat → Int) (p w k x : Int) (f : hM), hpI 10 220 14 x f (rS (hput (hsetV v 220 14 (c : Int)) 226 S) p w k) = f (rS (hput (hsetV v 220 14 x) 226 S) p w k) := fun S p w k x f => by
    rw [hpI_k (k0 _ _ _ _), rS_seti (by decide), put_set_c _ _ _ _ (by decide), set_same]
  have n6 : ¬ ((6 : Int) ≠ 6) := fun y => y rfl
  have n1 : ¬ ((1 : Int) = 0) := by decide
  unfold kLine
  by_cases w0 : wfind B n (sk B n p) twW 0 = -1
  · rw [if_pos w0]
    refine ⟨c, S, ((sk B n p : Nat) : Int), m, ?_, fun z => absurd z (by omega)⟩
    rw [if_neg (by omega)]
    have F := r_failS h0 S ((sk B n p : Nat) : Int) m b (j := 0) (by decide)
    have T := r_twd h0 S m b ss
    rw [if_pos w0] at T
    have F : m_X10_fails 220 0 _ _ = _ := F
    simp only [m_X10_clauseHere, m_X10_clauseHere_L24, m_X10_clauseHere_L49, m_X10_clauseHere_L56, hgI_k, hgR_k, hpI_k, hpR_k, hpZ_k, haI_k, haR_k, hsI_k, hsZ_k, hlen_k, hlet_p, hret_p, hretZ_0, hretZ_1, hif_p, okk_setV, okk_setF, nV, nF, fV, vF, r_cv h0, r_seeS h0 S 0 m hp, hbind_p, g8, g11, T, F, if_neg n6, if_neg n1]
    rfl
  · rw [if_neg w0]
    have T := r_twd h0 S m b ss
    rw [if_neg w0] at T
    by_cases cc : (40 : Int) ≤ (c : Int)
    · rw [if_pos cc]
      refine ⟨c, S, ((sk B n p : Nat) : Int), m, ?_, fun z => absurd z (kF_n _)⟩
      rw [if_neg (kF_n _)]
      have F := r_failS h0 S ((sk B n p : Nat) : Int) m b (j := 4) (by decide)
      have F : m_X10_fails 220 4 _ _ = _ := F
      have c40 : ¬ ((c : Int) ≠ 40) := fun y => y (by omega)
      simp only [m_X10_clauseHere, m_X10_clauseHere_L24, m_X10_clauseHere_L49, m_X10_clauseHere_L56, m_X10_clauseHere_L71, hgI_k, hgR_k, hpI_k, hpR_k, hpZ_k, haI_k, haR_k, hsI_k, hsZ_k, hlen_k, hlet_p, hret_p, hretZ_0, hretZ_1, hif_p, okk_setV, okk_setF, nV, nF, fV, vF, r_cv h0, r_seeS h0 S 0 m hp, hbind_p, g8, g11, g14, T, F, if_neg n6, if_neg n1, if_neg c40]
      rfl
    · rw [if_neg cc]
      obtain ⟨S', p', k', e, z⟩ := r_tline h1 S cn m b ss w0
      refine ⟨c + 1, S', p', k', ?_, fun y => ⟨rfl, z y⟩⟩
      have c40 : (c : Int) ≠ 40 := by omega
      simp only [m_X10_clauseHere, m_X10_clauseHere_L24, m_X10_clauseHere_L49, m_X10_clauseHere_L56, m_X10_clauseHere_L71, m_X10_clauseHere_L107, hgI_k, hgR_k, hpI_k, hpR_k, hpZ_k, haI_k, haR_k, hsI_k, hsZ_k, hlen_k, hlet_p, hret_p, hretZ_0, hretZ_1, hif_p, okk_setV, okk_setF, nV, nF, fV, vF, r_cv h0, r_seeS h0 S 0 m hp, hbind_p, g8, g11, g14, p14, ix_s c6, T, if_neg n6, if_neg n1, if_pos c40, r_cv h1, e]
      by_cases y : kTl B n (sk B n p) (wfind B n (sk B n p) twW 0) S = 0
      · rw [if_pos y]
        rfl
      · rw [if_neg y]
        rfl
