/-! tests: behind a fact -/
theorem ra_c {n : Nat} {B : Nat → Int} {v : hS} (hv : rTp n B v) {r : Nat} (h11 : hV v 220 11 = (r : Int)) (r6 : r < 6) {O Z cd op : Nat → Int} {M0 k d p : Nat} {m : Int} {st : List Int} {b ei : Bool} (so : stk O (aS b (eS ei st))) (bs : bsS st) (hl : M0 + (aS b (eS ei st)).length ≤ 400) (hd : dpc st ≤ d) (d4 : d ≤ 400) (hp : p ≤ n) (H F : Nat) : RA (H + 1) F (rS (RX v r Z M0 O k d (aS b (eS ei st)).length) (p : Int) 0 m) = (if chr B n (sk B n p) ≠ 93 ∨ 91 ∉ st then TA F (rS (RX v r Z M0 O k d (aS b (eS ei st)).length) ((sk B n p : Nat) : Int) 0 m) else hbind (hbind (m_X10_settles 220 1 (rS (RX v r Z M0 O k d (aS b (eS ei st)).length) ((sk B n p : Nat) : Int) 0 m)) (fun _ => hgI 10 220 16 fun v3 => hpI 10 220 16 (w32 (v3 - 1)) <| hgI 10 220 13 fun v4 => hpI 10 220 13 (w32 (v4 - 1)) <| hgI 10 220 8 fun v5 => hpI 10 220 8 (w32 (v5 + 1)) <| hcallV 10 220 (m_X10_settles 220 3) fun _ => m_X10_closes_L5 H 220)) (fun _ => TA F)) := by
  have s := y_settles hv h11 r6 3 O k (p : Int) 0 m (Z := Z) (M := M0) (dp := d) so hl (by rw [dpc_aS]; exact hd) d4
  rw [s3 bs b ei Z M0 (d : Int)] at s
  unfold RA
  rw [s, hbind_p]
  show hbind (m_X10_closes_L5 (H + 1) 220 (rS (RX v r Z M0 O k d (aS b (eS ei st)).length) (p : Int) 0 m)) _ = _
  rw [m_X10_closes_L5, X_cv hv, r_see (RX_tp hv r Z M0 O k d (aS b (eS ei st)).length) 0 m hp, hbind_p, hif_p]
  by_cases c : chr B n (sk B n p) = 93
  · rw [if_neg (fun z => z c), X_cv hv, y_inside hv Z M0 k d _ 0 m so (by omega), hbind_p, hif_p]
    by_cases i : 91 ∈ st
    · rw [if_pos ((in_aS b ei st).2 i), if_neg (by decide), if_neg (fun z => z.elim (fun y => y c) (fun y => y i)), X_cv hv]
    · rw [if_neg (fun y => i ((in_aS b ei st).1 y)), if_pos rfl, if_pos (.inr i)]
      rfl
  · rw [if_pos c, if_pos (.inl c)]
    rfl
theorem ta_and {n : Nat} {B : Nat → Int} (hB : byB B n) {v : hS} (hv : rTp n B v) {r : Nat} (h11 : hV v 220 11 = (r : Int)) (r6 : r < 6) {O Z cd op : Nat → Int} {M M0 k d q : Nat} {m : Int} {st : List Int} {b ei : Bool} (bh : bhd r b Z cd op M M0) (so : stk O (aS b (eS ei st))) (bs : bsS st) (hl : M + (eS ei st).length < 400) (hl0 : M0 + (aS b (eS ei st)).length ≤ 400) (hd : dpc st ≤ d) (d4 : d ≤ 400) (hq : q ≤ n) (ss : sk B n q = q) (w : isW B n q 6385252) (F : Nat) : ∃ Z1, zF r Z Z1 ∧ zk r Z1 cd op M ∧ TA F (rS (RX v r Z M0 O k d (aS b (eS ei st)).length) (q : Int) 0 m) = m_X10_tested_L12 F 220 1 (rS (RX v r Z1 M (sup O (eS ei st).length 12) k d (12 :: eS ei st).length) ((q + wl B n q : Nat) : Int) 0 m) := by
  obtain ⟨Z1, e1, e2, e3⟩ := s2 (r := r) bs b ei (show M ≤ 400 by omega) bh (d : Int)
  refine ⟨Z1, e2, e3, ?_⟩
  have pw := (wl_b B hq).1
  have hx := RX_tp hv r Z M0 O k d (aS b (eS ei st)).length
  have W := r_isWord hx 6385252 0 m hq
  rw [ss, if_pos w] at W
  have P := r_passWord hx 0 m hq
  have s := y_settles hv h11 r6 2 O k ((q + wl B n q : Nat) : Int) 0 m (Z := Z) (M := M0) (dp := d) so hl0 (by rw [dpc_aS]; exact hd) d4
  rw [e1] at s
  unfold TA
  rw [X_cv hv, W, hbind_p, hif_p, if_pos (by decide)]
  unfold m_X10_tested_L49 m_X10_tested_L54
  rw [hlet_p, hif_p, if_neg (by decide), X_cv hv, W, hbind_p, hif_p, if_neg (by decide)]
  unfold m_X10_tested_L76
  rw [hlet_p, X_cv hv, P, hbind_p, hcall_b, y_strength, hbind_p, show str 12 = 2 from rfl, X_cv hv, s, hbind_p]
  show (hgR 10 220 15 _) (rS (RX v r Z1 M O k d (eS ei st).length) ((q + wl B n q : Nat) : Int) 0 m) = _
  rw [X_r15 hv, X_g16 hv, X_s227 hv (show (eS ei st).length < 400 by omega), X_g16 hv, X_p16 hv, ix_s (by omega)]
  rfl
theorem ta_or {n : Nat} {B : Nat → Int} (hB : byB B n) {v : hS} (hv : rTp n B v) {r : Nat} (h11 : hV v 220 11 = (r : Int)) (r6 : r < 6) {O Z cd op : Nat → Int} {M M0 k d q : Nat} {m : Int} {st : List Int} {b ei : Bool} (bh : bhd r b Z cd op M M0) (so : stk O (aS b (eS ei st))) (bs : bsS st) (hl : M + eB ei ≤ 400) (hl2 : st.length < 400) (hl0 : M0 + (aS b (eS ei st)).length ≤ 400) (hd : dpc st ≤ d) (d4 : d ≤ 400) (hq : q ≤ n) (ss : sk B n q = q) (wa : ¬ isW B n q 6385252) (w : isW B n q 28530) (F : Nat) : ∃ Z1, zF r Z Z1 ∧ zk r Z1 (cE ei cd M) (oE ei op M) (M + eB ei) ∧ TA F (rS (RX v r Z M0 O k d (aS b (eS ei st)).length) (q : Int) 0 m) = m_X10_tested_L12 F 220 1 (rS (RX v r Z1 ((M + eB ei : Nat) : Int) (sup O st.length 13) k d (13 :: st).length) ((q + wl B n q : Nat) : Int) 0 m) := by
  obtain ⟨Z1, e1, e2, e3⟩ := s1 (r := r) bs b ei hl bh (d : Int)
  refine ⟨Z1, e2, e3, ?_⟩
  have hx := RX_tp hv r Z M0 O k d (aS b (eS ei st)).length
  have Wa := r_isWord hx 6385252 0 m hq
  rw [ss, if_neg wa] at Wa
  have W := r_isWord hx 28530 0 m hq
  rw [ss, if_pos w] at W
  have P := r_passWord hx 0 m hq
  have s := y_settles hv h11 r6 1 O k ((q + wl B n q : Nat) : Int) 0 m (Z := Z) (M := M0) (dp := d) so hl0 (by rw [dpc_aS]; exact hd) d4
  rw [e1] at s
  unfold TA
  rw [X_cv hv, Wa, hbind_p, hif_p, if_neg (fun z => z rfl), X_cv hv, W, hbind_p, hif_p, if_neg (by decide)]
  unfold m_X10_tested_L49 m_X10_tested_L54
  rw [hlet_p, hif_p, if_neg (by decide), X_cv hv, Wa, hbind_p, hif_p, if_pos rfl]
  unfold m_X10_tested_L76
  rw [hlet_p, X_cv hv, P, hbind_p, hcall_b, y_strength, hbind_p, show str 13 = 1 from rfl, X_cv hv, s, hbind_p]
  show (hgR 10 220 15 _) (rS (RX v r Z1 ((M + eB ei : Nat) : Int) O k d st.length) ((q + wl B n q : Nat) : Int) 0 m) = _
  rw [X_r15 hv, X_g16 hv, X_s227 hv hl2, X_g16 hv, X_p16 hv, ix_s (by omega)]
  rfl
theorem ta_no {n : Nat} {B : Nat → Int} {v : hS} (hv : rTp n B v) {r : Nat} {O Z : Nat → Int} {M0 k d oc : Int} {q : Nat} {m : Int} (hq : q ≤ n) (ss : sk B n q = q) (wa : ¬ isW B n q 6385252) (w : ¬ isW B n q 28530) (F : Nat) : TA F (rS (RX v r Z M0 O k d oc) (q : Int) 0 m) = m_X10_tested_L12 F 220 0 (rS (RX v r Z M0 O k d oc) (q : Int) 0 m) := by
  have hx := RX_tp hv r Z M0 O k d oc
  have Wa := r_isWord hx 6385252 0 m hq
  rw [ss, if_neg wa] at Wa
  have W := r_isWord hx 28530 0 m hq
  rw [ss, if_neg w] at W
  unfold TA
  rw [X_cv hv, Wa, hbind_p, hif_p, if_neg (fun z => z rfl), X_cv hv, W, hbind_p, hif_p, if_pos rfl]
  unfold m_X10_tested_L54
  rw [hlet_p, hif_p, if_pos rfl]
theorem t12_0 {n : Nat} {B : Nat → Int} {v : hS} (hv : rTp n B v) {r : Nat} (h11 : hV v 220 11 = (r : Int)) (r6 : r < 6) {O Z cd op : Nat → Int} {M M0 k d q : Nat} {m : Int} {st : List Int} {b ei : Bool} (bh : bhd r b Z cd op M M0) (so : stk O (aS b (eS ei st))) (bs : bsS st) (hl : M + eB ei ≤ 400) (hl0 : M0 + (aS b (eS ei st)).length ≤ 400) (hd : dpc st ≤ d) (d4 : d ≤ 400) (hq : q ≤ n) (ss : sk B n q = q) (F : Nat) : (st = [] → ∃ Z1, zF r Z Z1 ∧ zk r Z1 (cE ei cd M) (oE ei op M) (M + eB ei) ∧ m_X10_tested_L12 (F + 1) 220 0 (rS (RX v r Z M0 O k d (aS b (eS ei st)).length) (q : Int) 0 m) = some (1, rS (RX v r Z1 ((M + eB ei : Nat) : Int) O k d 0) (q : Int) 0 m)) ∧ (∀ st', st = 91 :: st' → m_X10_tested_L12 (F + 1) 220 0 (rS (RX v r Z M0 O k d (aS b (eS ei st)).length) (q : Int) 0 m) = some (0, rS (RX v r Z M0 O k d (aS b (eS ei st)).length) (q : Int) ((1 + 8 * q : Nat) : Int) m)) := by
  have hx := RX_tp hv r Z M0 O k d (aS b (eS ei st)).length
  have I := y_inside hv Z M0 k d (q : Int) 0 m so (show (aS b (eS ei st)).length ≤ 400 by omega) (r := r)
  constructor
  · intro e
    obtain ⟨Z1, e1, e2, e3⟩ := s1 (r := r) bs b ei hl bh (d : Int)
    refine ⟨Z1, e2, e3, ?_⟩
    have s := y_settles hv h11 r6 1 O k (q : Int) 0 m (Z := Z) (M := M0) (dp := d) so hl0 (by rw [dpc_aS]; exact hd) d4
    rw [e1] at s
    have ni : 91 ∉ aS b (eS ei st) := fun y => by
      rw [in_aS, e] at y
      exact absurd y (by simp)
    rw [if_neg ni] at I
    rw [m_X10_tested_L12, hif_p, if_pos rfl, X_cv hv, I, hbind_p, hif_p, if_pos rfl, X_cv hv, s, hbind_p, hretZ_1, e]
    rfl
  · intro st' e
    have ni : 91 ∈ aS b (eS ei st) := by
      rw [in_aS, e]
      exact List.mem_cons_self
    rw [if_pos ni] at I
    have S := r_see hx 0 m hq
    rw [ss] at S
    have F0 := y_fails (u := RX v r Z M0 O k d (aS b (eS ei st)).length) (by rw [RX_shp]; exact hv.1) (q : Int) m (at' := q) (by have := hv.2.2.2; omega) (j := 0) (by decide)
    have F0 : m_X10_fails 220 0 _ _ = _ := F0
    rw [m_X10_tested_L12, hif_p, if_pos rfl, X_cv hv, I, hbind_p, hif_p, if_neg (by decide), X_cv hv, S, hbind_p, X_g8 hv, X_cv hv, F0, hbind_p]
    rfl
theorem ra_cl {n : Nat} {B : Nat → Int} {v : hS} (hv : rTp n B v) {r : Nat} (h11 : hV v 220 11 = (r : Int)) (r6 : r < 6) {O Z cd op : Nat → Int} {M M0 k d q : Nat} {m : Int} {st st' : List Int} {b ei : Bool} (bh : bhd r b Z cd op M M0) (so : stk O (aS b (eS ei st))) (bs : bsS st) (e : st = 91 :: st') (hl : M + eB ei ≤ 400) (hl0 : M0 + (aS b (eS ei st)).length ≤ 400) (hd : dpc st ≤ d) (d4 : d ≤ 400) (hq : q < n) (H F : Nat) : ∃ Z1, zF r Z Z1 ∧ zk r Z1 (cE ei cd M) (oE ei op M) (M + eB ei) ∧ hbind (hbind (m_X10_settles 220 1 (rS (RX v r Z M0 O k d (aS b (eS ei st)).length) (q : Int) 0 m)) (fun _ => hgI 10 220 16 fun v3 => hpI 10 220 16 (w32 (v3 - 1)) <| hgI 10 220 13 fun v4 => hpI 10 220 13 (w32 (v4 - 1)) <| hgI 10 220 8 fun v5 => hpI 10 220 8 (w32 (v5 + 1)) <| hcallV 10 220 (m_X10_settles 220 3) fun _ => m_X10_closes_L5 H 220)) (fun _ => TA F) = RA H F (rS (RX v r Z1 ((M + eB ei : Nat) : Int) O k ((d : Int) - 1) st'.length) ((q + 1 : Nat) : Int) 0 m) := by
  obtain ⟨Z1, e1, e2, e3⟩ := s1 (r := r) bs b ei hl bh (d : Int)
  refine ⟨Z1, e2, e3, ?_⟩
  have s := y_settles hv h11 r6 1 O k (q : Int) 0 m (Z := Z) (M := M0) (dp := d) so hl0 (by rw [dpc_aS]; exact hd) d4
  rw [e1] at s
  have d1 : 1 ≤ d := by
    rw [e] at hd
    have : dpc (91 :: st') = 1 + dpc st' := rfl
    omega
  have n4 := hv.2.2.2
  have o1 : w32 (((st.length : Nat) : Int) - 1) = ((st'.length : Nat) : Int) := by
    have : st.length ≤ 400 := by
      rw [len_aS] at hl0
      omega
    rw [e, List.length_cons] at this ⊢
    exact w32_n (by omega) (by omega)
  have o2 : w32 ((d : Int) - 1) = (d : Int) - 1 := w32_id ⟨by omega, by omega⟩
  rw [s, hbind_p]
  show hbind ((hgI 10 220 16 _) (rS (RX v r Z1 ((M + eB ei : Nat) : Int) O k d st.length) (q : Int) 0 m)) _ = _
  rw [X_g16 hv, X_p16 hv, o1, X_g13 hv, X_p13 hv, o2, X_g8 hv, X_p8 hv, ix_s (by omega), X_cv hv]
  rfl
