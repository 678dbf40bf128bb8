/-! what holds between the calls -/
def Inv (u : hS) : Prop := shp u ∧ actInv u ∧ RepI u ∧ RepP u ∧ RepR u ∧ RepX u
theorem RepF.lt {u : hS} {s t : Nat} {S : Nat → Int} (h : RepF u s t S) : t + 17 < hB u := h.1.ht.k17.2.1
theorem RepF.fr' {u v : hS} {s t : Nat} {S : Nat → Int} (h : RepF u s t S) (e : ext u v) (gs : ∀ a, s ≤ a → a ≤ s + 4 → agr u v a) (gt : ∀ a, (12 ≤ a ∧ a ≤ 29 ∨ 243 ≤ a) → a < hB u → agr u v a) : RepF v s t S := h.fr e gs (fun a h1 h2 => gt a (by have := h.2.1; omega) (by have := h.lt; omega))
theorem actInv.fr {u v : hS} (h : actInv u) (e : ext u v) (gs : ∀ a, 30 ≤ a → a ≤ 34 → agr u v a) (gp : ∀ a, 96 ≤ a → a ≤ 195 → agr u v a) (gt : ∀ a, (12 ≤ a ∧ a ≤ 29 ∨ 243 ≤ a) → a < hB u → agr u v a) (g6 : hV v 1 6 = hV u 1 6) (g7 : hV v 1 7 = hV u 1 7) (h0 : hV v 230 = hV u 230) (h3 : hV v 233 = hV u 233) (h5 : hV v 220 25 = hV u 220 25) : actInv v := by
  obtain ⟨t, c, r, ru, h25⟩ := h
  have tt : ∀ a, t ≤ a → a ≤ t + 17 → agr u v a := fun a h1 h2 => gt a (by have := r.2.1; omega) (by have := r.lt; omega)
  refine ⟨t, c, ?_, ?_, h5.trans h25⟩
  · rw [h0]
    exact r.fr e (fun a h1 h2 => gs a h1 h2) tt
  · rw [h3]
    exact ru.fr r.2.1 e g6 g7 gp tt (fun k _ => by rw [h0])
theorem RepI.fr' {u v : hS} (h : RepI u) (e : ext u v) (g : ∀ a, 196 ≤ a → a ≤ 219 → agr u v a) (gt : ∀ a, (12 ≤ a ∧ a ≤ 29 ∨ 243 ≤ a) → a < hB u → agr u v a) (g2 : hV v 242 = hV u 242) (g1 : hV v 241 = hV u 241) (g0 : hV v 240 = hV u 240) : RepI v := by
  intro k hk
  obtain ⟨a, b, c⟩ := h k hk
  refine ⟨?_, ?_, fun z => ?_⟩
  · rw [(g (196 + 6 * k) (by omega) (by omega) 1).1, g2]
    exact a
  · rw [g2]
    exact b
  · rw [g2] at z
    obtain ⟨c1, c2, t, c3⟩ := c z
    rw [(g (196 + 6 * k) (by omega) (by omega) 2).1, g1, g0]
    exact ⟨c1, c2, t, c3.fr' e (fun a _ _ => g a (by omega) (by omega)) gt⟩
theorem RepR.fr {u v : hS} (h : RepR u) (g1 : hV v 1 2 = hV u 1 2) (g2 : hV v 220 2 = hV u 220 2) (g : ∀ a, 54 ≤ a → a ≤ 95 → hV v a = hV u a) (s2 : hV v 222 = hV u 222) (s4 : hV v 224 = hV u 224) (s5 : hV v 225 = hV u 225) : RepR v := by
  obtain ⟨N, N6, a, b, c⟩ := h
  refine ⟨N, N6, g1.trans a, g2.trans b, fun r hr => ?_⟩
  have o := c r hr
  unfold RepR1 at o ⊢
  rw [g (54 + 7 * r) (by omega) (by omega), g (54 + 7 * r + 1) (by omega) (by omega), g (54 + 7 * r + 2) (by omega) (by omega), g (54 + 7 * r + 3) (by omega) (by omega), g (54 + 7 * r + 4) (by omega) (by omega), g (54 + 7 * r + 5) (by omega) (by omega), s2, s4, s5]
  exact o
theorem RepX.fr {u v : hS} (h : RepX u) (g1 : hV v 1 9 = hV u 1 9) (g2 : hV v 220 21 = hV u 220 21) (g : hV v 231 = hV u 231) : RepX v := by
  unfold RepX at h ⊢
  rw [g1, g2, g]
  exact h
theorem RepP.fr {u v : hS} (h : RepP u) (g2 : hV v 2 1 = hV u 2 1) (g0 : hV v 220 1 = hV u 220 1) (g3 : hV v 3 = hV u 3) (g1 : hV v 221 = hV u 221) : RepP v := by
  unfold RepP at h ⊢
  rw [g2, g0, g3, g1]
  exact h
theorem a_town {u : hS} (iv : Inv u) : agree Inv (m_X9_town 1) (m_X10_town 220) u := by
  obtain ⟨hs, ai, ri, rp, rr, rx⟩ := iv
  obtain ⟨n, n4, hn, hn', hb⟩ := id rp
  obtain ⟨u1, f, S', e1, tc, bad, good, rf⟩ := x_town hs n4 hn (hV u 226)
  obtain ⟨ex1, hs1, ag1, f1, F1, z1⟩ := id tc
  have b3 := hs.1
  have a220 := ag1 220 (by omega) (by decide) (by decide) (by decide)
  have a221 := ag1 221 (by omega) (by decide) (by decide) (by decide)
  have a226 := ag1 226 (by omega) (by decide) (by decide) (by decide)
  obtain ⟨u2, e2, tr, gd2, bd2⟩ := y_town hs1 f S' (fun v m G hv h1 h2 h11 hG => by
    rw [agrV a226]
    refine rf v m G ⟨hv, ?_, fun i hi => ?_, n4⟩ h11 hG
    · rw [h1, (a220 1).1, hn']
    · rw [h2, agrV a221]
      exact (hb i hi).1.symm)
  obtain ⟨ex2, hs2, F2, V2, f2, z2⟩ := id tr
  have ag : ∀ a, a < hB u → a ≠ 1 → a ≠ 2 → ¬ (30 ≤ a ∧ a ≤ 34) → a ≠ 220 → a ≠ 223 → a ≠ 226 → a ≠ 230 → agr u u2 a := fun a h0 h1 h2 h3 h4 h5 h6 h7 i => ⟨by rw [V2 a h4 h5 h6 h7]; exact (ag1 a h0 h1 h2 h3 i).1, by rw [F2]; exact (ag1 a h0 h1 h2 h3 i).2⟩
  have ex := ex1.tr ex2
  have agV : ∀ a, a < 243 → a ≠ 1 → a ≠ 2 → ¬ (30 ≤ a ∧ a ≤ 34) → a ≠ 220 → a ≠ 223 → a ≠ 226 → a ≠ 230 → hV u2 a = hV u a := fun a h0 h1 h2 h3 h4 h5 h6 h7 => agrV (ag a (by omega) h1 h2 h3 h4 h5 h6 h7)
  refine ⟨_, u1, u2, e1, e2, hs1, hs2, ?_, ?_, ?_, ?_, ?_⟩
  · by_cases z : f = 0
    · obtain ⟨g1, g2, g3⟩ := good z
      obtain ⟨g4, g5⟩ := gd2 z
      refine ⟨hB u, 0, ?_, ⟨0, by decide, ?_, by decide, ?_, fun j hj => by omega⟩, g5⟩
      · refine (g1.fr ex2 (fun a h1 h2 i => ⟨by rw [V2 a (by omega) (by omega) (by omega) (by omega)], F2 a i⟩) (fun a h1 h2 i => ⟨by rw [V2 a (by omega) (by omega) (by omega) (by omega)], F2 a i⟩)).cg (fun j hj => g4 j hj)
      · rw [V2 1 (by decide) (by decide) (by decide) (by decide)]
        exact g2
      · rw [V2 1 (by decide) (by decide) (by decide) (by decide)]
        exact g3
    · obtain ⟨g1, g2, g3⟩ := bad z
      obtain ⟨g4, g5⟩ := bd2 z
      refine ai.fr ex (fun a h1 h2 i => ⟨by rw [V2 a (by omega) (by omega) (by omega) (by omega)]; exact (g1 a h1 h2 i).1, by rw [F2]; exact (g1 a h1 h2 i).2⟩) (fun a h1 h2 => ag a (by omega) (by omega) (by omega) (by omega) (by omega) (by omega) (by omega) (by omega)) (fun a h1 h2 => ag a h2 (by omega) (by omega) (by omega) (by omega) (by omega) (by omega) (by omega)) ?_ ?_ ?_ ?_ ?_
      · rw [V2 1 (by decide) (by decide) (by decide) (by decide)]
        exact g2
      · rw [V2 1 (by decide) (by decide) (by decide) (by decide)]
        exact g3
      · rw [g4]
        exact agrV (ag1 230 (by omega) (by decide) (by decide) (by decide))
      · exact agV 233 (by decide) (by decide) (by decide) (by decide) (by decide) (by decide) (by decide) (by decide)
      · rw [g5]
        exact (a220 25).1
  · exact ri.fr' ex (fun a h1 h2 => ag a (by omega) (by omega) (by omega) (by omega) (by omega) (by omega) (by omega) (by omega)) (fun a h1 h2 => ag a h2 (by omega) (by omega) (by omega) (by omega) (by omega) (by omega) (by omega)) (agV 242 (by decide) (by decide) (by decide) (by decide) (by decide) (by decide) (by decide) (by decide)) (agV 241 (by decide) (by decide) (by decide) (by decide) (by decide) (by decide) (by decide) (by decide)) (agV 240 (by decide) (by decide) (by decide) (by decide) (by decide) (by decide) (by decide) (by decide))
  · refine ⟨0, by decide, ?_, z2, fun i hi => by omega⟩
    rw [V2 2 (by decide) (by decide) (by decide) (by decide)]
    exact z1
  · refine rr.fr ?_ ?_ (fun a h1 h2 => agV a (by omega) (by omega) (by omega) (by omega) (by omega) (by omega) (by omega) (by omega)) (agV 222 (by decide) (by decide) (by decide) (by decide) (by decide) (by decide) (by decide) (by decide)) (agV 224 (by decide) (by decide) (by decide) (by decide) (by decide) (by decide) (by decide) (by decide)) (agV 225 (by decide) (by decide) (by decide) (by decide) (by decide) (by decide) (by decide) (by decide))
    · rw [V2 1 (by decide) (by decide) (by decide) (by decide)]
      exact f1 2 (by decide) (by decide)
    · rw [f2 2 (by decide) (by decide) (by decide)]
      exact (a220 2).1
  · refine rx.fr ?_ ?_ (agV 231 (by decide) (by decide) (by decide) (by decide) (by decide) (by decide) (by decide) (by decide))
    · rw [V2 1 (by decide) (by decide) (by decide) (by decide)]
      exact f1 9 (by decide) (by decide)
    · rw [f2 21 (by decide) (by decide) (by decide)]
      exact (a220 21).1
