/-! the reference's rule -/
def rQ (g : Nat → Int) (k dp oc : Int) : Nat → Int := fun i => if i = 12 then k else if i = 13 then dp else if i = 16 then oc else g i
def RX (v : hS) (r : Nat) (Z : Nat → Int) (M : Int) (O : Nat → Int) (k dp oc : Int) : hS := hput (hput (hput (hput v 222 Z) 223 (sup (hV v 223) r M)) 227 O) 220 (rQ (hV v 220) k dp oc)
theorem RX_k (v : hS) (r : Nat) (Z : Nat → Int) (M : Int) (O : Nat → Int) (k dp oc : Int) (a j : Nat) : okk (RX v r Z M O k dp oc) a j = okk v a j := propext ⟨fun h => h, fun h => h⟩
theorem RX_N (v : hS) (r : Nat) (Z : Nat → Int) (M : Int) (O : Nat → Int) (k dp oc : Int) : hN (RX v r Z M O k dp oc) = hN v := Eq.trans (b := hN v) rfl rfl
theorem RX_F (v : hS) (r : Nat) (Z : Nat → Int) (M : Int) (O : Nat → Int) (k dp oc : Int) : hF (RX v r Z M O k dp oc) = hF v := Eq.trans (b := hF v) rfl rfl
theorem RX_shp (v : hS) (r : Nat) (Z : Nat → Int) (M : Int) (O : Nat → Int) (k dp oc : Int) : shp (RX v r Z M O k dp oc) = shp v := propext ⟨fun h => h, fun h => h⟩
theorem RX_12 (v : hS) (r : Nat) (Z : Nat → Int) (M : Int) (O : Nat → Int) (k dp oc : Int) : hV (RX v r Z M O k dp oc) 220 12 = k := by
  unfold RX
  rw [hV_put_s]
  rfl
theorem RX_13 (v : hS) (r : Nat) (Z : Nat → Int) (M : Int) (O : Nat → Int) (k dp oc : Int) : hV (RX v r Z M O k dp oc) 220 13 = dp := by
  unfold RX
  rw [hV_put_s]
  rfl
theorem RX_16 (v : hS) (r : Nat) (Z : Nat → Int) (M : Int) (O : Nat → Int) (k dp oc : Int) : hV (RX v r Z M O k dp oc) 220 16 = oc := by
  unfold RX
  rw [hV_put_s]
  rfl
theorem RX_222 (v : hS) (r : Nat) (Z : Nat → Int) (M : Int) (O : Nat → Int) (k dp oc : Int) : hV (RX v r Z M O k dp oc) 222 = Z := by
  unfold RX
  rw [hV_put_n (by decide), hV_put_n (by decide), hV_put_n (by decide), hV_put_s]
theorem RX_223 (v : hS) (r : Nat) (Z : Nat → Int) (M : Int) (O : Nat → Int) (k dp oc : Int) : hV (RX v r Z M O k dp oc) 223 r = M := by
  unfold RX
  rw [hV_put_n (by decide), hV_put_n (by decide), hV_put_s, sup_s]
theorem RX_227 (v : hS) (r : Nat) (Z : Nat → Int) (M : Int) (O : Nat → Int) (k dp oc : Int) : hV (RX v r Z M O k dp oc) 227 = O := by
  unfold RX
  rw [hV_put_n (by decide), hV_put_s]
theorem RX_w12 (v : hS) (r : Nat) (Z : Nat → Int) (M : Int) (O : Nat → Int) (k dp oc : Int) (x : Int) : hsetV (RX v r Z M O k dp oc) 220 12 x = RX v r Z M O x dp oc := by
  unfold RX
  rw [setV_put]
  congr 1
  funext i
  unfold sup rQ
  by_cases h : i = 12
  · rw [if_pos h, if_pos h]
  · rw [if_neg h, if_neg h, if_neg h]
theorem RX_w13 (v : hS) (r : Nat) (Z : Nat → Int) (M : Int) (O : Nat → Int) (k dp oc : Int) (x : Int) : hsetV (RX v r Z M O k dp oc) 220 13 x = RX v r Z M O k x oc := by
  unfold RX
  rw [setV_put]
  congr 1
  funext i
  unfold sup rQ
  by_cases h : i = 13
  · subst h
    rfl
  · rw [if_neg h, if_neg h, if_neg h]
theorem RX_w16 (v : hS) (r : Nat) (Z : Nat → Int) (M : Int) (O : Nat → Int) (k dp oc : Int) (x : Int) : hsetV (RX v r Z M O k dp oc) 220 16 x = RX v r Z M O k dp x := by
  unfold RX
  rw [setV_put]
  congr 1
  funext i
  unfold sup rQ
  by_cases h : i = 16
  · subst h
    rfl
  · rw [if_neg h, if_neg h, if_neg h]
theorem RX_w222 (v : hS) (r : Nat) (Z : Nat → Int) (M : Int) (O : Nat → Int) (k dp oc : Int) (i : Nat) (x : Int) : hsetV (RX v r Z M O k dp oc) 222 i x = RX v r (sup Z i x) M O k dp oc := by
  unfold RX
  rw [put_set_c _ _ _ _ (show 222 ≠ 220 by decide), put_set_c _ _ _ _ (show 222 ≠ 227 by decide), put_set_c _ _ _ _ (show 222 ≠ 223 by decide), setV_put]
theorem RX_w223 (v : hS) (r : Nat) (Z : Nat → Int) (M : Int) (O : Nat → Int) (k dp oc : Int) (x : Int) : hsetV (RX v r Z M O k dp oc) 223 r x = RX v r Z x O k dp oc := by
  unfold RX
  rw [put_set_c _ _ _ _ (show 223 ≠ 220 by decide), put_set_c _ _ _ _ (show 223 ≠ 227 by decide), setV_put, sup_sup]
theorem RX_w227 (v : hS) (r : Nat) (Z : Nat → Int) (M : Int) (O : Nat → Int) (k dp oc : Int) (i : Nat) (x : Int) : hsetV (RX v r Z M O k dp oc) 227 i x = RX v r Z M (sup O i x) k dp oc := by
  unfold RX
  rw [put_set_c _ _ _ _ (show 227 ≠ 220 by decide), setV_put]
theorem RX_i {v : hS} {r : Nat} {Z : Nat → Int} {M : Int} {O : Nat → Int} {k dp oc : Int} {i : Nat} (h : i ≠ 12 ∧ i ≠ 13 ∧ i ≠ 16) : hV (RX v r Z M O k dp oc) 220 i = hV v 220 i := by
  unfold RX
  rw [hV_put_s]
  unfold rQ
  rw [if_neg h.1, if_neg h.2.1, if_neg h.2.2]
theorem RX_o {v : hS} {r : Nat} {Z : Nat → Int} {M : Int} {O : Nat → Int} {k dp oc : Int} {a : Nat} (h : a ≠ 220 ∧ a ≠ 222 ∧ a ≠ 223 ∧ a ≠ 227) : hV (RX v r Z M O k dp oc) a = hV v a := by
  unfold RX
  rw [hV_put_n h.1, hV_put_n h.2.2.2, hV_put_n h.2.2.1, hV_put_n h.2.1]
theorem RX_tp {n : Nat} {B : Nat → Int} {v : hS} (h : rTp n B v) (r : Nat) (Z : Nat → Int) (M : Int) (O : Nat → Int) (k dp oc : Int) : rTp n B (RX v r Z M O k dp oc) := ⟨by rw [RX_shp]; exact h.1, by rw [RX_i (by decide)]; exact h.2.1, by rw [RX_o (by decide)]; exact h.2.2.1, h.2.2.2⟩
theorem X_ok {n : Nat} {B : Nat → Int} {v : hS} (h : rTp n B v) {r : Nat} (Z : Nat → Int) (M : Int) (O : Nat → Int) (k dp oc p w m : Int) : okk (rS (RX v r Z M O k dp oc) p w m) 220 10 := by
  rw [rS_k, RX_k]
  exact kk_220 h.1
theorem X_cv {n : Nat} {B : Nat → Int} {v : hS} (h : rTp n B v) {r : Nat} {Z : Nat → Int} {M : Int} {O : Nat → Int} {k dp oc p w m : Int} {g : hM} {f : Int → hM} : hcallV 10 220 g f (rS (RX v r Z M O k dp oc) p w m) = hbind (g (rS (RX v r Z M O k dp oc) p w m)) f := hcallV_b (X_ok h _ _ _ _ _ _ _ _ _)
theorem X_g8 {n : Nat} {B : Nat → Int} {v : hS} (h : rTp n B v) {r : Nat} {Z : Nat → Int} {M : Int} {O : Nat → Int} {k dp oc p w m : Int} {f : Int → hM} : hgI 10 220 8 f (rS (RX v r Z M O k dp oc) p w m) = f p (rS (RX v r Z M O k dp oc) p w m) := by
  rw [hgI_k (X_ok h _ _ _ _ _ _ _ _ _), rS_8]
theorem X_g10 {n : Nat} {B : Nat → Int} {v : hS} (h : rTp n B v) {r : Nat} {Z : Nat → Int} {M : Int} {O : Nat → Int} {k dp oc p w m : Int} {f : Int → hM} : hgI 10 220 10 f (rS (RX v r Z M O k dp oc) p w m) = f m (rS (RX v r Z M O k dp oc) p w m) := by
  rw [hgI_k (X_ok h _ _ _ _ _ _ _ _ _), rS_10]
theorem X_g11 {n : Nat} {B : Nat → Int} {v : hS} (h : rTp n B v) {r : Nat} (h11 : hV v 220 11 = (r : Int)) {Z : Nat → Int} {M : Int} {O : Nat → Int} {k dp oc p w m : Int} {f : Int → hM} : hgI 10 220 11 f (rS (RX v r Z M O k dp oc) p w m) = f (r : Int) (rS (RX v r Z M O k dp oc) p w m) := by
  rw [hgI_k (X_ok h _ _ _ _ _ _ _ _ _), rS_i (by decide), RX_i (by decide), h11]
theorem X_g12 {n : Nat} {B : Nat → Int} {v : hS} (h : rTp n B v) {r : Nat} {Z : Nat → Int} {M : Int} {O : Nat → Int} {k dp oc p w m : Int} {f : Int → hM} : hgI 10 220 12 f (rS (RX v r Z M O k dp oc) p w m) = f k (rS (RX v r Z M O k dp oc) p w m) := by
  rw [hgI_k (X_ok h _ _ _ _ _ _ _ _ _), rS_i (by decide), RX_12]
theorem X_g13 {n : Nat} {B : Nat → Int} {v : hS} (h : rTp n B v) {r : Nat} {Z : Nat → Int} {M : Int} {O : Nat → Int} {k dp oc p w m : Int} {f : Int → hM} : hgI 10 220 13 f (rS (RX v r Z M O k dp oc) p w m) = f dp (rS (RX v r Z M O k dp oc) p w m) := by
  rw [hgI_k (X_ok h _ _ _ _ _ _ _ _ _), rS_i (by decide), RX_13]
theorem X_g16 {n : Nat} {B : Nat → Int} {v : hS} (h : rTp n B v) {r : Nat} {Z : Nat → Int} {M : Int} {O : Nat → Int} {k dp oc p w m : Int} {f : Int → hM} : hgI 10 220 16 f (rS (RX v r Z M O k dp oc) p w m) = f oc (rS (RX v r Z M O k dp oc) p w m) := by
  rw [hgI_k (X_ok h _ _ _ _ _ _ _ _ _), rS_i (by decide), RX_16]
theorem X_g1 {n : Nat} {B : Nat → Int} {v : hS} (h : rTp n B v) {r : Nat} {Z : Nat → Int} {M : Int} {O : Nat → Int} {k dp oc p w m : Int} {f : Int → hM} : hgI 10 220 1 f (rS (RX v r Z M O k dp oc) p w m) = f (n : Int) (rS (RX v r Z M O k dp oc) p w m) := by
  rw [hgI_k (X_ok h _ _ _ _ _ _ _ _ _), rS_i (by decide), RX_i (by decide), h.2.1]
theorem X_p8 {n : Nat} {B : Nat → Int} {v : hS} (h : rTp n B v) {r : Nat} {Z : Nat → Int} {M : Int} {O : Nat → Int} {k dp oc p w m x : Int} {f : hM} : hpI 10 220 8 x f (rS (RX v r Z M O k dp oc) p w m) = f (rS (RX v r Z M O k dp oc) x w m) := by
  rw [hpI_k (X_ok h _ _ _ _ _ _ _ _ _), rS_w8]
theorem X_p12 {n : Nat} {B : Nat → Int} {v : hS} (h : rTp n B v) {r : Nat} {Z : Nat → Int} {M : Int} {O : Nat → Int} {k dp oc p w m x : Int} {f : hM} : hpI 10 220 12 x f (rS (RX v r Z M O k dp oc) p w m) = f (rS (RX v r Z M O x dp oc) p w m) := by
  rw [hpI_k (X_ok h _ _ _ _ _ _ _ _ _), rS_seti (by decide), RX_w12]
theorem X_p13 {n : Nat} {B : Nat → Int} {v : hS} (h : rTp n B v) {r : Nat} {Z : Nat → Int} {M : Int} {O : Nat → Int} {k dp oc p w m x : Int} {f : hM} : hpI 10 220 13 x f (rS (RX v r Z M O k dp oc) p w m) = f (rS (RX v r Z M O k x oc) p w m) := by
  rw [hpI_k (X_ok h _ _ _ _ _ _ _ _ _), rS_seti (by decide), RX_w13]
theorem X_p16 {n : Nat} {B : Nat → Int} {v : hS} (h : rTp n B v) {r : Nat} {Z : Nat → Int} {M : Int} {O : Nat → Int} {k dp oc p w m x : Int} {f : hM} : hpI 10 220 16 x f (rS (RX v r Z M O k dp oc) p w m) = f (rS (RX v r Z M O k dp x) p w m) := by
  rw [hpI_k (X_ok h _ _ _ _ _ _ _ _ _), rS_seti (by decide), RX_w16]
theorem X_r0 {n : Nat} {B : Nat → Int} {v : hS} (h : rTp n B v) {r : Nat} {Z : Nat → Int} {M : Int} {O : Nat → Int} {k dp oc p w m : Int} {f : Nat → hM} : hgR 10 220 0 f (rS (RX v r Z M O k dp oc) p w m) = f 221 (rS (RX v r Z M O k dp oc) p w m) := by
  rw [hgR_k (X_ok h _ _ _ _ _ _ _ _ _), rS_F, RX_F, rf_220_0 h.1]
theorem X_r3 {n : Nat} {B : Nat → Int} {v : hS} (h : rTp n B v) {r : Nat} {Z : Nat → Int} {M : Int} {O : Nat → Int} {k dp oc p w m : Int} {f : Nat → hM} : hgR 10 220 3 f (rS (RX v r Z M O k dp oc) p w m) = f 222 (rS (RX v r Z M O k dp oc) p w m) := by
  rw [hgR_k (X_ok h _ _ _ _ _ _ _ _ _), rS_F, RX_F, rf_220_3 h.1]
theorem X_r4 {n : Nat} {B : Nat → Int} {v : hS} (h : rTp n B v) {r : Nat} {Z : Nat → Int} {M : Int} {O : Nat → Int} {k dp oc p w m : Int} {f : Nat → hM} : hgR 10 220 4 f (rS (RX v r Z M O k dp oc) p w m) = f 223 (rS (RX v r Z M O k dp oc) p w m) := by
  rw [hgR_k (X_ok h _ _ _ _ _ _ _ _ _), rS_F, RX_F, rf_220_4 h.1]
theorem X_r15 {n : Nat} {B : Nat → Int} {v : hS} (h : rTp n B v) {r : Nat} {Z : Nat → Int} {M : Int} {O : Nat → Int} {k dp oc p w m : Int} {f : Nat → hM} : hgR 10 220 15 f (rS (RX v r Z M O k dp oc) p w m) = f 227 (rS (RX v r Z M O k dp oc) p w m) := by
  rw [hgR_k (X_ok h _ _ _ _ _ _ _ _ _), rS_F, RX_F, rf_220_15 h.1]
theorem X_a223 {n : Nat} {B : Nat → Int} {v : hS} (h : rTp n B v) {r : Nat} (r6 : r < 6) {Z : Nat → Int} {M : Int} {O : Nat → Int} {k dp oc p w m : Int} {f : Int → hM} : haI 20 223 (r : Int) f (rS (RX v r Z M O k dp oc) p w m) = f M (rS (RX v r Z M O k dp oc) p w m) := by
  rw [haI_n (by rw [rS_k, RX_k]; exact kk_223 h.1) (by rw [rS_N, RX_N, ln_223 h.1]; omega), rS_o (by decide), RX_223]
theorem X_s223 {n : Nat} {B : Nat → Int} {v : hS} (h : rTp n B v) {r : Nat} (r6 : r < 6) {Z : Nat → Int} {M : Int} {O : Nat → Int} {k dp oc p w m x : Int} {f : hM} : hsI 20 223 (r : Int) x f (rS (RX v r Z M O k dp oc) p w m) = f (rS (RX v r Z x O k dp oc) p w m) := by
  rw [hsI_n (by rw [rS_k, RX_k]; exact kk_223 h.1) (by rw [rS_N, RX_N, ln_223 h.1]; omega), rS_set (by decide), RX_w223]
theorem X_s222 {n : Nat} {B : Nat → Int} {v : hS} (h : rTp n B v) {r : Nat} {Z : Nat → Int} {M : Int} {O : Nat → Int} {k dp oc p w m x : Int} {f : hM} {i : Nat} (hi : i < 2400) : hsI 20 222 (i : Int) x f (rS (RX v r Z M O k dp oc) p w m) = f (rS (RX v r (sup Z i x) M O k dp oc) p w m) := by
  rw [hsI_n (by rw [rS_k, RX_k]; exact kk_222 h.1) (by rw [rS_N, RX_N, ln_222 h.1]; exact hi), rS_set (by decide), RX_w222]
theorem X_a227 {n : Nat} {B : Nat → Int} {v : hS} (h : rTp n B v) {r : Nat} {Z : Nat → Int} {M : Int} {O : Nat → Int} {k dp oc p w m : Int} {f : Int → hM} {i : Nat} (hi : i < 400) : haI 20 227 (i : Int) f (rS (RX v r Z M O k dp oc) p w m) = f (O i) (rS (RX v r Z M O k dp oc) p w m) := by
  rw [haI_n (by rw [rS_k, RX_k]; exact kk_227 h.1) (by rw [rS_N, RX_N, ln_227 h.1]; exact hi), rS_o (by decide), RX_227]
theorem X_s227 {n : Nat} {B : Nat → Int} {v : hS} (h : rTp n B v) {r : Nat} {Z : Nat → Int} {M : Int} {O : Nat → Int} {k dp oc p w m x : Int} {f : hM} {i : Nat} (hi : i < 400) : hsI 20 227 (i : Int) x f (rS (RX v r Z M O k dp oc) p w m) = f (rS (RX v r Z M (sup O i x) k dp oc) p w m) := by
  rw [hsI_n (by rw [rS_k, RX_k]; exact kk_227 h.1) (by rw [rS_N, RX_N, ln_227 h.1]; exact hi), rS_set (by decide), RX_w227]
theorem X_a221 {n : Nat} {B : Nat → Int} {v : hS} (h : rTp n B v) {r : Nat} {Z : Nat → Int} {M : Int} {O : Nat → Int} {k dp oc p w m : Int} {f : Int → hM} {i : Nat} (hi : i < n) : haI 22 221 (i : Int) f (rS (RX v r Z M O k dp oc) p w m) = f (B i) (rS (RX v r Z M O k dp oc) p w m) := by
  rw [haI_n (by rw [rS_k, RX_k]; exact kk_221 h.1) (by rw [rS_N, RX_N, ln_221 h.1]; have := h.2.2.2; omega), rS_o (by decide), RX_o (by decide), h.2.2.1 i hi]
theorem y_puts {n : Nat} {B : Nat → Int} {v : hS} (h : rTp n B v) {r : Nat} (h11 : hV v 220 11 = (r : Int)) (r6 : r < 6) (Z : Nat → Int) {M : Nat} (hM : M < 400) (O : Nat → Int) (k dp oc p w m c o : Int) : m_X10_puts 220 c o (rS (RX v r Z M O k dp oc) p w m) = some (0, rS (RX v r (sup Z (400 * r + M) (w32 (c + w32 (16 * o)))) ((M + 1 : Nat) : Int) O k dp oc) p w m) := by
  have i1 : True → w32 (w32 (400 * (r : Int)) + (M : Int)) = ((400 * r + M : Nat) : Int) := fun _ => by
    have e1 : w32 (400 * (r : Int)) = ((400 * r : Nat) : Int) := w32_n (by omega) (by omega)
    rw [e1]
    exact ix_n (by omega)
  have i2 : 400 * r + M < 2400 := by omega
  have M6 : M < 1000000 := by omega
  simp only [m_X10_puts, hret_p, X_r3 h, X_r4 h, X_g11 h h11, X_a223 h r6, X_s223 h r6, i1 trivial, X_s222 h i2, ix_s M6]
theorem y_makes {n : Nat} {B : Nat → Int} {v : hS} (h : rTp n B v) {r : Nat} (h11 : hV v 220 11 = (r : Int)) (r6 : r < 6) (Z : Nat → Int) (M : Int) (O : Nat → Int) {k : Nat} (k6 : k ≤ 60) (dp oc p m : Int) {a : Nat} (ha : a ≤ n) : m_X10_makes 220 (a : Int) (rS (RX v r Z M O k dp oc) p 0 m) = if k < 60 then some (1, rS (RX v r Z M O ((k + 1 : Nat) : Int) dp oc) p 0 m) else some (0, rS (RX v r Z M O k dp oc) p ((1 + 8 * a + 3 : Nat) : Int) m) := by
  have k7 : k < 1000000 := by omega
  have F := y_fails (u := RX v r Z M O k dp oc) (by rw [RX_shp]; exact h.1) p m (at' := a) (by have := h.2.2.2; omega) (j := 3) (by decide)
  have F : m_X10_fails 220 3 _ _ = _ := F
  simp only [m_X10_makes, hif_p, X_g12 h, X_p12 h, X_cv h, ix_s k7, F, hbind_p, hretZ_0, hretZ_1]
  by_cases z : k < 60
  · rw [if_pos z, if_pos (by omega)]
  · rw [if_neg z, if_neg (by omega)]
