/-! every call keeps what must be kept -/
def kp (a : Nat) : Prop := a = 2 ∨ a = 3 ∨ (12 ≤ a ∧ a ≤ 29) ∨ 243 ≤ a ∨ (54 ≤ a ∧ a ≤ 95 ∧ a % 7 ≠ 4) ∨ (196 ≤ a ∧ a ≤ 219) ∨ a = 221 ∨ a = 222 ∨ a = 224 ∨ a = 225 ∨ (240 ≤ a ∧ a ≤ 242)
theorem RepR.fr7 {u v : hS} (h : RepR u) (g1 : hV v 1 2 = hV u 1 2) (g2 : hV v 220 2 = hV u 220 2) (g : ∀ a, 54 ≤ a → a ≤ 95 → a % 7 ≠ 4 → hV v a = hV u a) (s2 : hV v 222 = hV u 222) (s4 : hV v 224 = hV u 224) (s5 : hV v 225 = hV u 225) : RepR v := by
  obtain ⟨N, N6, a, b, c⟩ := h
  refine ⟨N, N6, g1.trans a, g2.trans b, fun r hr => (c r hr).fr (fun a h1 h2 => g a (by omega) (by omega) (by omega)) (fun j _ => by rw [s2]) (fun i _ => by rw [s4]) (by rw [s5])⟩
theorem Inv.gen {u v : hS} (iv : Inv u) (hs : shp v) (ex : ext u v) (ai : actInv v) (ag : ∀ a, kp a → agr u v a) (f2 : hV v 1 2 = hV u 1 2) (f9 : hV v 1 9 = hV u 1 9) (g1 : hV v 220 1 = hV u 220 1) (g2 : hV v 220 2 = hV u 220 2) (g21 : hV v 220 21 = hV u 220 21) (e : ∀ b, b < 9 → hV v 231 b = 0) : Inv v := by
  obtain ⟨_, _, ri, rp, rr, rx⟩ := iv
  have V : ∀ a, kp a → hV v a = hV u a := fun a h => agrV (ag a h)
  refine ⟨hs, ai, ?_, ?_, ?_, ?_⟩
  · exact ri.fr' ex (fun a h1 h2 => ag a (by unfold kp; omega)) (fun a h1 _ => ag a (by unfold kp; omega)) (V 242 (by unfold kp; omega)) (V 241 (by unfold kp; omega)) (V 240 (by unfold kp; omega))
  · exact rp.fr (by rw [V 2 (by unfold kp; omega)]) g1 (V 3 (by unfold kp; omega)) (V 221 (by unfold kp; omega))
  · exact rr.fr7 f2 g2 (fun a h1 h2 h3 => V a (by unfold kp; omega)) (V 222 (by unfold kp; omega)) (V 224 (by unfold kp; omega)) (V 225 (by unfold kp; omega))
  · refine ⟨?_, ?_, e⟩
    · rw [f9, g21]
      exact rx.1
    · rw [g21]
      exact rx.2.1
/-- calls that tell and change nothing that lasts -/
def kq (a : Nat) : Prop := kp a ∨ a = 1 ∨ (30 ≤ a ∧ a ≤ 34) ∨ (96 ≤ a ∧ a ≤ 195) ∨ a = 230 ∨ a = 233
theorem Inv.rd {u v : hS} (iv : Inv u) (hs : shp v) (ex : ext u v) (ag : ∀ a, kq a → agr u v a) (g1 : hV v 220 1 = hV u 220 1) (g2 : hV v 220 2 = hV u 220 2) (g21 : hV v 220 21 = hV u 220 21) (g25 : hV v 220 25 = hV u 220 25) (e : ∀ b, b < 9 → hV v 231 b = 0) : Inv v := by
  have V : ∀ a, kq a → hV v a = hV u a := fun a h => agrV (ag a h)
  have v1 := V 1 (by unfold kq; omega)
  refine iv.gen hs ex ?_ (fun a h => ag a (.inl h)) (by rw [v1]) (by rw [v1]) g1 g2 g21 e
  exact iv.2.1.fr ex (fun a h1 h2 => ag a (by unfold kq; omega)) (fun a h1 h2 => ag a (by unfold kq; omega)) (fun a h1 _ => ag a (by unfold kq kp; omega)) (by rw [v1]) (by rw [v1]) (V 230 (by unfold kq; omega)) (V 233 (by unfold kq; omega)) g25
theorem agree_rd {g1 g2 : hM} {u : hS} (iv : Inv u) (h : rdAgree g1 g2 u) : agree Inv g1 g2 u := by
  obtain ⟨r, e1, e2⟩ := h
  exact ⟨r, u, u, e1, e2, iv.1, iv⟩
theorem agree_act {g1 g2 : hM} {u : hS} (iv : Inv u) (h : actAgree g1 g2 u) : agree Inv g1 g2 u := by
  obtain ⟨r, u1, u2, e1, e2, oa, oR, ai⟩ := h
  obtain ⟨x1, s1, a1, f1, F1⟩ := oa
  obtain ⟨x2, s2, a2, f2, F2⟩ := oR
  have ag : ∀ a, ¬ (a = 1 ∨ 30 ≤ a ∧ a ≤ 34 ∨ 96 ≤ a ∧ a ≤ 195) → a ≠ 220 → a ≠ 230 → a ≠ 233 → agr u u2 a := fun a h1 h2 h3 h4 i => ⟨(a2 a h2 h3 h4 i).1.trans (a1 a h1 i).1, (a2 a h2 h3 h4 i).2.trans (a1 a h1 i).2⟩
  have g : ∀ i, i ≠ 25 → hV u2 220 i = hV u 220 i := fun i hi => (f2 i hi).trans (a1 220 (by omega) i).1
  have k : ∀ i, i ≠ 6 → i ≠ 7 → hV u2 1 i = hV u 1 i := fun i h6 h7 => (a2 1 (by decide) (by decide) (by decide) i).1.trans (f1 i h6 h7)
  refine ⟨r, u1, u2, e1, e2, s1, iv.gen s2 (x1.tr x2) ai (fun a h => ag a (by unfold kp at h; omega) (by unfold kp at h; omega) (by unfold kp at h; omega) (by unfold kp at h; omega)) (k 2 (by decide) (by decide)) (k 9 (by decide) (by decide)) (g 1 (by decide)) (g 2 (by decide)) (g 21 (by decide)) (fun b hb => ?_)⟩
  rw [(ag 231 (by omega) (by decide) (by decide) (by decide) b).1]
  exact iv.2.2.2.2.2.2.2 b hb
theorem Inv.e {u : hS} (iv : Inv u) : ∀ b, b < 9 → hV u 231 b = 0 := iv.2.2.2.2.2.2.2
theorem a_seed {u : hS} (iv : Inv u) (a : Int) (ha : inI a) : agree Inv (m_X9_seed 1 a) (m_X10_seed 220 a) u := by
  obtain ⟨hs, ai, ri, rp, rr, rx⟩ := id iv
  by_cases z : a ≥ 0
  · have hs1 : shp (hsetV u 1 9 a) := hs
    refine ⟨hV u 220 21, hsetV u 1 9 a, hsetV (hsetV u 1 9 a) 220 21 a, ?_, ?_, hs1, hs, ?_, ?_, ?_, ?_, ?_⟩
    · rw [x_seed u hs a, if_pos z, rx.1, w32_id ⟨by have := rx.2.1; omega, by have := rx.2.1; omega⟩]
    · rw [y_seed _ hs1 a, if_pos z, hV_setV_a (by decide)]
    · refine ai.fr ⟨Nat.le_refl _, fun _ _ => ⟨rfl, rfl⟩⟩ (fun a h1 h2 i => ⟨by rw [hV_setV_a (by omega), hV_setV_a (by omega)], rfl⟩) (fun a h1 h2 i => ⟨by rw [hV_setV_a (by omega), hV_setV_a (by omega)], rfl⟩) (fun a h1 h2 i => ⟨by rw [hV_setV_a (by omega), hV_setV_a (by omega)], rfl⟩) ?_ ?_ ?_ ?_ ?_
      · rw [hV_setV_a (by decide), hV_setV_i (by decide)]
      · rw [hV_setV_a (by decide), hV_setV_i (by decide)]
      · rw [hV_ne (by decide), hV_ne (by decide)]
      · rw [hV_ne (by decide), hV_ne (by decide)]
      · rw [hV_setV_i (by decide), hV_setV_a (by decide)]
    · exact ri.fr' ⟨Nat.le_refl _, fun _ _ => ⟨rfl, rfl⟩⟩ (fun a h1 h2 i => ⟨by rw [hV_setV_a (by omega), hV_setV_a (by omega)], rfl⟩) (fun a h1 h2 i => ⟨by rw [hV_setV_a (by omega), hV_setV_a (by omega)], rfl⟩) (by rw [hV_ne (by decide), hV_ne (by decide)]) (by rw [hV_ne (by decide), hV_ne (by decide)]) (by rw [hV_ne (by decide), hV_ne (by decide)])
    · exact rp.fr (by rw [hV_ne (by decide), hV_ne (by decide)]) (by rw [hV_setV_i (by decide), hV_setV_a (by decide)]) (by rw [hV_ne (by decide), hV_ne (by decide)]) (by rw [hV_ne (by decide), hV_ne (by decide)])
    · exact rr.fr7 (by rw [hV_setV_a (by decide), hV_setV_i (by decide)]) (by rw [hV_setV_i (by decide), hV_setV_a (by decide)]) (fun a h1 h2 _ => by rw [hV_ne (by omega), hV_ne (by omega)]) (by rw [hV_ne (by decide), hV_ne (by decide)]) (by rw [hV_ne (by decide), hV_ne (by decide)]) (by rw [hV_ne (by decide), hV_ne (by decide)])
    · refine ⟨?_, ?_, fun b hb => ?_⟩
      · rw [hV_setV_a (by decide), hV_setV_s, hV_setV_s]
      · rw [hV_setV_s]
        exact ⟨z, by have := ha.2; omega⟩
      · rw [hV_setV_a (by decide), hV_setV_a (by decide)]
        exact rx.2.2 b hb
  · refine ⟨-1, u, u, ?_, ?_, hs, iv⟩
    · rw [x_seed u hs a, if_neg z]
    · rw [y_seed u hs a, if_neg z]
theorem Inv.tap {u v : hS} (iv : Inv u) (o : okTap u v) (rp : RepP v) : Inv v := by
  obtain ⟨hs, ai, ri, _, rr, rx⟩ := iv
  obtain ⟨ex, hs2, ag, g, F⟩ := o
  have V : ∀ a, a ≠ 2 → a ≠ 3 → a ≠ 220 → a ≠ 221 → hV v a = hV u a := fun a h1 h2 h3 h4 => agrV (ag a h1 h2 h3 h4)
  have v1 := V 1 (by decide) (by decide) (by decide) (by decide)
  refine ⟨hs2, ?_, ?_, rp, ?_, ?_⟩
  · exact ai.fr ex (fun a h1 h2 => ag a (by omega) (by omega) (by omega) (by omega)) (fun a h1 h2 => ag a (by omega) (by omega) (by omega) (by omega)) (fun a h1 h2 => ag a (by omega) (by omega) (by omega) (by omega)) (by rw [v1]) (by rw [v1]) (V 230 (by decide) (by decide) (by decide) (by decide)) (V 233 (by decide) (by decide) (by decide) (by decide)) (g 25 (by decide))
  · exact ri.fr' ex (fun a h1 h2 => ag a (by omega) (by omega) (by omega) (by omega)) (fun a h1 h2 => ag a (by omega) (by omega) (by omega) (by omega)) (V 242 (by decide) (by decide) (by decide) (by decide)) (V 241 (by decide) (by decide) (by decide) (by decide)) (V 240 (by decide) (by decide) (by decide) (by decide))
  · exact rr.fr7 (by rw [v1]) (g 2 (by decide)) (fun a h1 h2 _ => V a (by omega) (by omega) (by omega) (by omega)) (V 222 (by decide) (by decide) (by decide) (by decide)) (V 224 (by decide) (by decide) (by decide) (by decide)) (V 225 (by decide) (by decide) (by decide) (by decide))
  · exact rx.fr (by rw [v1]) (g 21 (by decide)) (V 231 (by decide) (by decide) (by decide) (by decide))
theorem b_feed {u : hS} (iv : Inv u) (a b c d e : Int) : agree Inv (m_X9_feed 1 a b c d e) (m_X10_feed 220 a b c d e) u := by
  obtain ⟨r, u1, u2, e1, e2, s1, o, rp⟩ := a_feed iv.1 iv.2.2.2.1 a b c d e
  exact ⟨r, u1, u2, e1, e2, s1, iv.tap o rp⟩
theorem b_end {u : hS} (iv : Inv u) (a : Int) : agree Inv (m_X9_end 1 a) (m_X10_end 220 a) u := by
  obtain ⟨r, u1, u2, e1, e2, s1, o, rp⟩ := a_end iv.1 iv.2.2.2.1 a
  exact ⟨r, u1, u2, e1, e2, s1, iv.tap o rp⟩
theorem b_count {u : hS} (iv : Inv u) (a : Int) : agree Inv (m_X9_count 1 a) (m_X10_count 220 a) u := by
  obtain ⟨hs, ai, ri, rp, rr, rx⟩ := id iv
  obtain ⟨N, _, h1, h2, _⟩ := rr
  obtain ⟨n, _, h3, h4, _⟩ := rp
  exact agree_rd iv (a_count hs ai (h1.trans h2.symm) rx.1 ⟨by have := rx.2.1; omega, by have := rx.2.1; omega⟩ (h3.trans h4.symm) a)
theorem b_image {u : hS} (iv : Inv u) (a : Int) : agree Inv (m_X9_image 1 a) (m_X10_image 220 a) u := by
  obtain ⟨hs, ai, ri, rp, rr, rx⟩ := id iv
  obtain ⟨r, u1, u2, e1, e2, s1, ex, s2, ag, ri2⟩ := a_image hs ai rx ri a
  have V : ∀ a, ¬ (196 ≤ a ∧ a ≤ 219) → a ≠ 240 → a ≠ 241 → a ≠ 242 → hV u2 a = hV u a := fun a h1 h2 h3 h4 => agrV (ag a h1 h2 h3 h4)
  have v1 := V 1 (by decide) (by decide) (by decide) (by decide)
  have v220 := V 220 (by decide) (by decide) (by decide) (by decide)
  refine ⟨r, u1, u2, e1, e2, s1, s2, ?_, ri2, ?_, ?_, ?_⟩
  · exact ai.fr ex (fun a h1 h2 => ag a (by omega) (by omega) (by omega) (by omega)) (fun a h1 h2 => ag a (by omega) (by omega) (by omega) (by omega)) (fun a h1 h2 => ag a (by omega) (by omega) (by omega) (by omega)) (by rw [v1]) (by rw [v1]) (V 230 (by decide) (by decide) (by decide) (by decide)) (V 233 (by decide) (by decide) (by decide) (by decide)) (by rw [v220])
  · exact rp.fr (by rw [V 2 (by decide) (by decide) (by decide) (by decide)]) (by rw [v220]) (V 3 (by decide) (by decide) (by decide) (by decide)) (V 221 (by decide) (by decide) (by decide) (by decide))
  · exact rr.fr7 (by rw [v1]) (by rw [v220]) (fun a h1 h2 _ => V a (by omega) (by omega) (by omega) (by omega)) (V 222 (by decide) (by decide) (by decide) (by decide)) (V 224 (by decide) (by decide) (by decide) (by decide)) (V 225 (by decide) (by decide) (by decide) (by decide))
  · exact rx.fr (by rw [v1]) (by rw [v220]) (V 231 (by decide) (by decide) (by decide) (by decide))
theorem b_back {u : hS} (iv : Inv u) (a : Int) : agree Inv (m_X9_back 1 a) (m_X10_back 220 a) u := by
  obtain ⟨hs, ai, ri, rp, rr, rx⟩ := id iv
  obtain ⟨r, u1, u2, e1, e2, s1, ex, s2, ag, f1, f2, ai2, rx2⟩ := a_back hs ai rx ri a
  have V : ∀ a, ¬ (a = 1 ∨ 30 ≤ a ∧ a ≤ 34 ∨ a = 220 ∨ a = 230) → hV u2 a = hV u a := fun a h => agrV (ag a h)
  refine ⟨r, u1, u2, e1, e2, s1, s2, ai2, ?_, ?_, ?_, rx2⟩
  · exact ri.fr' ex (fun a h1 h2 => ag a (by omega)) (fun a h1 h2 => ag a (by omega)) (V 242 (by decide)) (V 241 (by decide)) (V 240 (by decide))
  · exact rp.fr (by rw [V 2 (by decide)]) (f2 1 (by decide) (by decide)) (V 3 (by decide)) (V 221 (by decide))
  · exact rr.fr7 (f1 2 (by decide) (by decide) (by decide)) (f2 2 (by decide) (by decide)) (fun a h1 h2 _ => V a (by omega)) (V 222 (by decide)) (V 224 (by decide)) (V 225 (by decide))
theorem agr.pp {u v : hS} {a b : Nat} {g : Nat → Int} (h : agr u v a) (k : a ≠ b) : agr u (hput v b g) a := fun i => ⟨by rw [hV_put_n k]; exact (h i).1, (h i).2⟩
theorem agr.rf (u : hS) (a : Nat) : agr u u a := fun _ => ⟨rfl, rfl⟩
theorem b_person {u : hS} (iv : Inv u) (a b : Int) : agree Inv (m_X9_person 1 a b) (m_X10_person 220 a b) u := by
  obtain ⟨r, D, e1, e2⟩ := a_person iv.1 iv.2.1 iv.e a b
  refine ⟨r, u, hput u 232 D, e1, e2, iv.1, iv.rd (by rw [shp_put]; exact iv.1) (ext.put u 232 D) (fun a h => (agr.rf u a).pp (by unfold kq kp at h; omega)) (by rw [hV_put_n (by decide)]) (by rw [hV_put_n (by decide)]) (by rw [hV_put_n (by decide)]) (by rw [hV_put_n (by decide)]) (fun b hb => by rw [hV_put_n (by decide)]; exact iv.e b hb)⟩
theorem b_way {u : hS} (iv : Inv u) (a b c : Int) : agree Inv (m_X9_way 1 a b c) (m_X10_way 220 a b c) u := by
  obtain ⟨r, E, D, e1, e2⟩ := a_way iv.1 iv.2.1 iv.e a b c
  refine ⟨r, hput u 8 E, hput (hput u 8 E) 232 D, e1, e2, by rw [shp_put]; exact iv.1, iv.rd (by rw [shp_put, shp_put]; exact iv.1) ⟨Nat.le_refl _, fun _ _ => ⟨rfl, rfl⟩⟩ (fun a h => ((agr.rf u a).pp (by unfold kq kp at h; omega)).pp (by unfold kq kp at h; omega)) (by rw [hV_put_n (by decide), hV_put_n (by decide)]) (by rw [hV_put_n (by decide), hV_put_n (by decide)]) (by rw [hV_put_n (by decide), hV_put_n (by decide)]) (by rw [hV_put_n (by decide), hV_put_n (by decide)]) (fun b hb => by rw [hV_put_n (by decide), hV_put_n (by decide)]; exact iv.e b hb)⟩
theorem b_meet {u : hS} (iv : Inv u) (a b c : Int) : agree Inv (m_X9_meet 1 a b c) (m_X10_meet 220 a b c) u := by
  obtain ⟨r, E, F, D, e1, e2⟩ := a_meet iv.1 iv.2.1 iv.e a b c
  refine ⟨r, _, _, e1, e2, by rw [shp_put, shp_put]; exact iv.1, iv.rd (by rw [shp_put, shp_put, shp_put]; exact iv.1) ⟨Nat.le_refl _, fun _ _ => ⟨rfl, rfl⟩⟩ (fun a h => (((agr.rf u a).pp (by unfold kq kp at h; omega)).pp (by unfold kq kp at h; omega)).pp (by unfold kq kp at h; omega)) (by rw [hV_put_n (by decide), hV_put_n (by decide), hV_put_n (by decide)]) (by rw [hV_put_n (by decide), hV_put_n (by decide), hV_put_n (by decide)]) (by rw [hV_put_n (by decide), hV_put_n (by decide), hV_put_n (by decide)]) (by rw [hV_put_n (by decide), hV_put_n (by decide), hV_put_n (by decide)]) (fun b hb => by rw [hV_put_n (by decide), hV_put_n (by decide), hV_put_n (by decide)]; exact iv.e b hb)⟩
theorem b_best {u : hS} (iv : Inv u) (a : Int) : agree Inv (m_X9_best 1 a) (m_X10_best 220 a) u := by
  obtain ⟨r, E, K, D, G, e1, e2, e3⟩ := a_best iv.1 iv.2.1 iv.e a
  refine ⟨r, _, _, e1, e2, by rw [shp_put]; exact iv.1, iv.rd (by rw [shp_put, shp_put, shp_put, shp_put]; exact iv.1) ⟨Nat.le_refl _, fun _ _ => ⟨rfl, rfl⟩⟩ (fun a h => ((((agr.rf u a).pp (by unfold kq kp at h; omega)).pp (by unfold kq kp at h; omega)).pp (by unfold kq kp at h; omega)).pp (by unfold kq kp at h; omega)) (by rw [hV_put_s, e3 _ (by decide) (by decide)]) (by rw [hV_put_s, e3 _ (by decide) (by decide)]) (by rw [hV_put_s, e3 _ (by decide) (by decide)]) (by rw [hV_put_s, e3 _ (by decide) (by decide)]) (fun b hb => by rw [hV_put_n (by decide), hV_put_n (by decide), hV_put_n (by decide), hV_put_n (by decide)]; exact iv.e b hb)⟩
theorem b_alone {u : hS} (iv : Inv u) : agree Inv (m_X9_alone 1) (m_X10_alone 220) u := by
  obtain ⟨r, E, D, e1, e2⟩ := a_alone iv.1 iv.2.1 iv.e
  refine ⟨r, _, _, e1, e2, by rw [shp_put]; exact iv.1, iv.rd (by rw [shp_put, shp_put]; exact iv.1) ⟨Nat.le_refl _, fun _ _ => ⟨rfl, rfl⟩⟩ (fun a h => ((agr.rf u a).pp (by unfold kq kp at h; omega)).pp (by unfold kq kp at h; omega)) (by rw [hV_put_n (by decide), hV_put_n (by decide)]) (by rw [hV_put_n (by decide), hV_put_n (by decide)]) (by rw [hV_put_n (by decide), hV_put_n (by decide)]) (by rw [hV_put_n (by decide), hV_put_n (by decide)]) (fun b hb => by rw [hV_put_n (by decide), hV_put_n (by decide)]; exact iv.e b hb)⟩
theorem b_letter {u : hS} (iv : Inv u) (a b c : Int) : agree Inv (m_X9_letter 1 a b c) (m_X10_letter 220 a b c) u := by
  obtain ⟨r, E, H, D, W, e1, e2⟩ := a_letter iv.1 iv.2.1 iv.e a b c
  refine ⟨r, _, _, e1, e2, by rw [shp_put, shp_put]; exact iv.1, iv.rd (by rw [shp_put, shp_put, shp_put, shp_put]; exact iv.1) ⟨Nat.le_refl _, fun _ _ => ⟨rfl, rfl⟩⟩ (fun a h => ((((agr.rf u a).pp (by unfold kq kp at h; omega)).pp (by unfold kq kp at h; omega)).pp (by unfold kq kp at h; omega)).pp (by unfold kq kp at h; omega)) (by rw [hV_put_n (by decide), hV_put_n (by decide), hV_put_n (by decide), hV_put_n (by decide)]) (by rw [hV_put_n (by decide), hV_put_n (by decide), hV_put_n (by decide), hV_put_n (by decide)]) (by rw [hV_put_n (by decide), hV_put_n (by decide), hV_put_n (by decide), hV_put_n (by decide)]) (by rw [hV_put_n (by decide), hV_put_n (by decide), hV_put_n (by decide), hV_put_n (by decide)]) (fun b hb => by rw [hV_put_n (by decide), hV_put_n (by decide), hV_put_n (by decide), hV_put_n (by decide)]; exact iv.e b hb)⟩
theorem b_lives {u : hS} (iv : Inv u) (a b c : Int) : agree Inv (m_X9_lives 1 a b c) (m_X10_lives 220 a b c) u := by
  obtain ⟨r, u1, u2, e1, e2, s1, ex, s2, ag, f⟩ := a_lives iv.1 iv.2.1 iv.2.2.2.2.2 a b c
  refine ⟨r, u1, u2, e1, e2, s1, iv.rd s2 ex (fun a h => ag a (by unfold kq kp at h; omega) (by unfold kq kp at h; omega) (by unfold kq kp at h; omega)) (f 1 (by decide)) (f 2 (by decide)) (f 21 (by decide)) (f 25 (by decide)) (fun b hb => ?_)⟩
  rw [(ag 231 (by omega) (by decide) (by decide) b).1]
  exact iv.e b hb
theorem b_run {u : hS} (iv : Inv u) (a b : Int) : agree Inv (m_X9_run 1 a b) (m_X10_run 220 a b) u := by
  obtain ⟨r, u1, u2, e1, e2, s1, ex, s2, ai, f1, f, ag⟩ := a_run iv.1 iv.2.1 iv.2.2.2.2.1 iv.e a b
  refine ⟨r, u1, u2, e1, e2, s1, iv.gen s2 ex ai (fun a h => ag a (by unfold kp at h; omega) (by unfold kp at h; omega) (by unfold kp at h; omega) (by unfold kp at h; omega) (by unfold kp at h; omega) (by unfold kp at h; omega) (by unfold kp at h; omega) (by unfold kp at h; omega) (by unfold kp at h; omega)) (f1 2 (by decide) (by decide)) (f1 9 (by decide) (by decide)) (f 1 (by decide) (by decide)) (f 2 (by decide) (by decide)) (f 21 (by decide) (by decide)) (fun b hb => ?_)⟩
  rw [(ag 231 (by decide) (by omega) (by decide) (by omega) (by decide) (by decide) (by decide) (by decide) (by decide) b).1]
  exact iv.e b hb
theorem b_trail {u : hS} (iv : Inv u) (a b : Int) : agree Inv (m_X9_trail 1 a b) (m_X10_trail 220 a b) u := by
  obtain ⟨r, u1, u2, e1, e2, s1, ex, s2, ag, f⟩ := a_trail iv.1 iv.2.1 iv.e a b
  refine ⟨r, u1, u2, e1, e2, s1, iv.rd s2 ex (fun a h => ag a (by unfold kq kp at h; omega) (by unfold kq kp at h; omega) (by unfold kq kp at h; omega) (by unfold kq kp at h; omega)) (f 1 (by decide) (by decide)) (f 2 (by decide) (by decide)) (f 21 (by decide) (by decide)) (f 25 (by decide) (by decide)) (fun b hb => ?_)⟩
  rw [(ag 231 (by decide) (by decide) (by decide) (by decide) b).1]
  exact iv.e b hb
theorem b_life {u : hS} (iv : Inv u) (a b c : Int) : agree Inv (m_X9_life 1 a b c) (m_X10_life 220 a b c) u := by
  obtain ⟨r, u1, u2, e1, e2, s1, ex, s2, ag, f⟩ := a_life iv.1 iv.2.1 iv.e a b c
  refine ⟨r, u1, u2, e1, e2, s1, iv.rd s2 ex (fun a h => ag a (by unfold kq kp at h; omega) (by unfold kq kp at h; omega) (by unfold kq kp at h; omega) (by unfold kq kp at h; omega)) (f 1 (by decide)) (f 2 (by decide)) (f 21 (by decide)) (f 25 (by decide)) (fun b hb => ?_)⟩
  rw [(ag 231 (by omega) (by decide) (by decide) (by decide) b).1]
  exact iv.e b hb
theorem b_worth {u : hS} (iv : Inv u) (a b c : Int) : agree Inv (m_X9_worth 1 a b c) (m_X10_worth 220 a b c) u := by
  obtain ⟨r, u1, u2, e1, e2, s1, ex, s2, ag, f, e⟩ := a_worth iv.1 iv.2.1 iv.e a b c
  exact ⟨r, u1, u2, e1, e2, s1, iv.rd s2 ex (fun a h => ag a (by unfold kq kp at h; omega) (by unfold kq kp at h; omega) (by unfold kq kp at h; omega) (by unfold kq kp at h; omega) (by unfold kq kp at h; omega)) (f 1 (by decide)) (f 2 (by decide)) (f 21 (by decide)) (f 25 (by decide)) e⟩
theorem b_more {u : hS} (iv : Inv u) (a b : Int) : agree Inv (m_X9_more 1 a b) (m_X10_more 220 a b) u := by
  obtain ⟨r, u1, u2, e1, e2, s1, ex, s2, ag, f, e⟩ := a_more iv.1 iv.2.1 iv.e a b
  exact ⟨r, u1, u2, e1, e2, s1, iv.rd s2 ex (fun a h => ag a (by unfold kq kp at h; omega) (by unfold kq kp at h; omega) (by unfold kq kp at h; omega) (by unfold kq kp at h; omega) (by unfold kq kp at h; omega)) (f 1 (by decide)) (f 2 (by decide)) (f 21 (by decide)) (f 25 (by decide)) e⟩
theorem b_came {u : hS} (iv : Inv u) (a b : Int) : agree Inv (m_X9_came 1 a b) (m_X10_came 220 a b) u := by
  obtain ⟨r, u1, u2, e1, e2, s1, ex, s2, ag, f⟩ := a_came iv.1 iv.2.1 a b
  refine ⟨r, u1, u2, e1, e2, s1, iv.rd s2 ex (fun a h => ag a (by unfold kq kp at h; omega) (by unfold kq kp at h; omega) (by unfold kq kp at h; omega) (by unfold kq kp at h; omega)) (f 1 (by decide) (by decide) (by decide)) (f 2 (by decide) (by decide) (by decide)) (f 21 (by decide) (by decide) (by decide)) (f 25 (by decide) (by decide) (by decide)) (fun b hb => ?_)⟩
  rw [(ag 231 (by omega) (by decide) (by decide) (by decide) b).1]
  exact iv.e b hb
