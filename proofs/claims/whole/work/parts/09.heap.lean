/-! one cell of the memory changes -/
theorem hcell_kept {G : hG} {u u2 : hS} {a : Nat} {H H2 : Heap} (h : hcell G u a H) (e1 : hK u2 a = hK u a) (e2 : hN u2 a = hN u a) (e3 : hV u2 a = hV u a) (e4 : hF u2 a = hF u a) (e5 : H2[G.1 + a]? = H[G.1 + a]?) : hcell G u2 a H2 := by
  unfold hcell hobj hrow at h ⊢
  simp only [e1, e2, e3, e4]
  refine ⟨fun k => ?_, fun k => ?_⟩
  · obtain ⟨q, q1, q2, q3⟩ := h.1 k
    exact ⟨q, q1, q2.kept e5, q3⟩
  · obtain ⟨q1, q2, q3⟩ := h.2 k
    exact ⟨q1, by rw [e5]; exact q2, q3⟩
theorem hR_set {G : hG} {u u2 : hS} {a : Nat} {H H2 : Heap} (h : hR G u H) (hb : hB u2 = hB u) (ha : 0 < a ∧ a < hB u) (hz : H2.size = H.size) (ho : ∀ q, q ≠ G.1 + a → H2[q]? = H[q]?) (hs : ∀ b, b ≠ a → hK u2 b = hK u b ∧ hN u2 b = hN u b ∧ hV u2 b = hV u b ∧ hF u2 b = hF u b) (hc : hcell G u2 a H2) : hR G u2 H2 := by
  obtain ⟨h1, h2, h3, h4⟩ := h
  refine ⟨by rw [hz, h1, hb], by rw [hb]; exact h2, fun q hq => ?_, fun b hb1 hb2 => ?_⟩
  · rw [ho q (by omega)]; exact h3 q hq
  · by_cases hba : b = a
    · rw [hba]; exact hc
    · obtain ⟨s1, s2, s3, s4⟩ := hs b hba
      exact hcell_kept (h4 b hb1 (by rw [← hb]; exact hb2)) s1 s2 s3 s4 (ho _ (by omega))
theorem hsetV_s {u : hS} {a i : Nat} {x : Int} : ∀ b, b ≠ a → hK (hsetV u a i x) b = hK u b ∧ hN (hsetV u a i x) b = hN u b ∧ hV (hsetV u a i x) b = hV u b ∧ hF (hsetV u a i x) b = hF u b := by
  intro b hb
  refine ⟨rfl, rfl, ?_, rfl⟩
  funext j
  exact if_neg (fun z => hb z.1)
theorem hsetF_s {u : hS} {a i x : Nat} : ∀ b, b ≠ a → hK (hsetF u a i x) b = hK u b ∧ hN (hsetF u a i x) b = hN u b ∧ hV (hsetF u a i x) b = hV u b ∧ hF (hsetF u a i x) b = hF u b := by
  intro b hb
  refine ⟨rfl, rfl, rfl, ?_⟩
  funext j
  exact if_neg (fun z => hb z.1)
theorem hV_setV (u : hS) (a i : Nat) (x : Int) (b j : Nat) : hV (hsetV u a i x) b j = if b = a ∧ j = i then x else hV u b j := rfl
theorem hF_setV (u : hS) (a i : Nat) (x : Int) : hF (hsetV u a i x) = hF u := rfl
theorem hK_setV (u : hS) (a i : Nat) (x : Int) : hK (hsetV u a i x) = hK u := rfl
theorem hN_setV (u : hS) (a i : Nat) (x : Int) : hN (hsetV u a i x) = hN u := rfl
theorem hB_setV (u : hS) (a i : Nat) (x : Int) : hB (hsetV u a i x) = hB u := rfl
theorem hF_setF (u : hS) (a i x b j : Nat) : hF (hsetF u a i x) b j = if b = a ∧ j = i then x else hF u b j := rfl
theorem hV_setF (u : hS) (a i x : Nat) : hV (hsetF u a i x) = hV u := rfl
theorem hK_setF (u : hS) (a i x : Nat) : hK (hsetF u a i x) = hK u := rfl
theorem hN_setF (u : hS) (a i x : Nat) : hN (hsetF u a i x) = hN u := rfl
theorem hB_setF (u : hS) (a i x : Nat) : hB (hsetF u a i x) = hB u := rfl
/-! classes and their fields, by the tables -/
def hCls (ci : Nat) (Cn : String) (T : u_T) (N : Nat) : Prop := vwCl[ci]? = some (Cn, T, N) ∧ ci < 20 ∧ (∀ w ∈ u_ws Cn T N, w ∈ tG) ∧ (∀ k, k < N → parseFieldDescriptor (T k).2.2.1 = some (tyOf ci k)) ∧ (∀ a, a < N → ∀ b, b < N → a ≠ b → (T a).2.1 ≠ (T b).2.1) ∧ Cond.initialized Cn ∈ tG ∧ Cond.instantiable Cn N ∈ tG
def hFl (own : String) (idx ci k : Nat) (fin : Bool) : Prop := ∃ (Cn : String) (T : u_T) (N : Nat), hCls ci Cn T N ∧ k < N ∧ Cond.fieldLink own idx (T k).1 (T k).2.1 (T k).2.2.1 ∈ tG ∧ (T k).2.2.2 = fin ∧ (T k).1 = Cn
/-- 0: as an int, 1: a long, 2: a reference, 3: a boolean -/
def hkd (ty : FieldType) : Nat := match ty with
  | .long => 1
  | .object _ => 2
  | .array _ => 2
  | .boolean => 3
  | .byte => 4
  | .char => 5
  | .short => 6
  | .int => 0
  | _ => 7
theorem hval_0 {ty : FieldType} {B : Nat} {x : Int} {q : Nat} (h : hkd ty = 0) : hval ty B x q = vI x := by cases ty <;> first | rfl | cases h
theorem hval_1 {ty : FieldType} {B : Nat} {x : Int} {q : Nat} (h : hkd ty = 1) : hval ty B x q = vL x := by cases ty <;> first | rfl | cases h
theorem hval_2 {ty : FieldType} {B : Nat} {x : Int} {q : Nat} (h : hkd ty = 2) : hval ty B x q = vR B q := by cases ty <;> first | rfl | cases h
theorem hval_3 {ty : FieldType} {B : Nat} {x : Int} {q : Nat} (h : hkd ty = 3) : hval ty B x q = vI x := by cases ty <;> first | rfl | cases h
theorem hval_4 {ty : FieldType} {B : Nat} {x : Int} {q : Nat} (h : hkd ty = 4) : hval ty B x q = vI x := by cases ty <;> first | rfl | cases h
theorem hin_0 {ty : FieldType} {x : Int} (h : hkd ty = 0) : hin ty x ↔ inI x := by cases ty <;> first | exact Iff.rfl | cases h
theorem hin_1 {ty : FieldType} {x : Int} (h : hkd ty = 1) : hin ty x ↔ inL x := by cases ty <;> first | exact Iff.rfl | cases h
theorem hin_2 {ty : FieldType} {x : Int} (h : hkd ty = 2) : hin ty x := by cases ty <;> first | trivial | cases h
theorem hin_3 {ty : FieldType} {x : Int} (h : hkd ty = 3) : hin ty x ↔ (x = 0 ∨ x = 1) := by cases ty <;> first | exact Iff.rfl | cases h
theorem hin_4 {ty : FieldType} {x : Int} (h : hkd ty = 4) : hin ty x ↔ (-128 ≤ x ∧ x ≤ 127) := by cases ty <;> first | exact Iff.rfl | cases h
section HG
variable {p : Program} {l : Launch} {e : Env} {R : Room} {s : State} {m : MethodId} {args : Array Value} {below : List Frame} {meth : Method} {c : Code} {H : Heap} {locs : List Loc} {cells slots : Nat} {Q : State → Prop}
variable {cc : ByteArray} {own : String} {nL : Nat} {ret : Option FieldType} {G : hG} {u : hS} {a ci k idx pc : Nat} {fin : Bool} {ls : Array Slot} {st : List Value}
/-- a field is read -/
theorem hg_get (X : hOK (G, p, l, e, R, s, m, args, below, meth, c) cc own nL ret) (hf : hFl own idx ci k fin) (hd : decode cc pc = .ok (.getfield idx, 3)) (h2 : hR G u H) (ha : hok u a ci) (kk : hin (tyOf ci k) (hV u a k) → W p l e R s m args below meth c H locs cells slots Q (F0 m (pc + 3) ls (hval (tyOf ci k) G.1 (hV u a k) (hF u a k) :: st))) : W p l e R s m args below meth c H locs cells slots Q (F0 m pc ls (vR G.1 a :: st)) := by
  obtain ⟨x1, x2, x3, x4, x5, x6, x7, x8⟩ := X
  obtain ⟨Cn, T, N, ⟨c1, c2, c3, c4, c5, -⟩, hk, hl, -⟩ := hf
  obtain ⟨a1, a2, a3⟩ := ha
  obtain ⟨q, q1, q2, q3⟩ := (h2.2.2.2 a a1 a2).1 (by rw [a3]; exact c2)
  rw [a3] at q1 q2 q3
  cases q1.symm.trans c1
  obtain ⟨cell, g1, g2, g3, g4⟩ := q2
  obtain ⟨hS, hfc, kC, hkC, hkind⟩ := x6.1.1 ci _ c1
  obtain ⟨cf, kf, fi, f, hi, hsl⟩ := hS k hk
  unfold vR
  rw [if_neg (by omega)]
  refine W.getf x1 x2 x4 (x5 _ hl) hi (u_facts hfc hkC (u_lays x5 c3 hk) hi).1 g1 (by rw [g3]; exact fun h => by cases h) ?_ rfl rfl hd (kk (q3 k hk))
  rw [hsl, g4 k hk]
/-- a field is written -/
theorem hg_put {u2 : hS} {v : Value} (X : hOK (G, p, l, e, R, s, m, args, below, meth, c) cc own nL ret) (hf : hFl own idx ci k fin) (hfin : fin = false ∨ (meth.name = "<init>" ∧ ∃ q, vwCl[ci]? = some q ∧ q.1 = own)) (hd : decode cc pc = .ok (.putfield idx, 3)) (h2 : hR G u H) (h3 : ∀ q ∈ locs, hA G q.base) (ha : hok u a ci)
    (hn : narrow (tyOf ci k) v = v) (hfit : fits (tyOf ci k) v = true) (hb : hB u2 = hB u) (hs : ∀ b, b ≠ a → hK u2 b = hK u b ∧ hN u2 b = hN u b ∧ hV u2 b = hV u b ∧ hF u2 b = hF u b) (hka : hK u2 a = hK u a) (hv : hval (tyOf ci k) G.1 (hV u2 a k) (hF u2 a k) = v) (hvi : hin (tyOf ci k) (hV u2 a k)) (ho : ∀ j, j ≠ k → hV u2 a j = hV u a j ∧ hF u2 a j = hF u a j)
    (kk : ∀ (H2 : Heap) (locs2 : List Loc), hR G u2 H2 → (∀ q ∈ locs2, hA G q.base) → W p l e R s m args below meth c H2 locs2 cells slots Q (F0 m (pc + 3) ls st)) : W p l e R s m args below meth c H locs cells slots Q (F0 m pc ls (v :: vR G.1 a :: st)) := by
  obtain ⟨x1, x2, x3, x4, x5, x6, x7, x8⟩ := X
  obtain ⟨Cn, T, N, ⟨c1, c2, c3, c4, c5, -⟩, hk, hl, hfi, hde⟩ := hf
  obtain ⟨a1, a2, a3⟩ := ha
  obtain ⟨q, q1, q2, q3⟩ := (h2.2.2.2 a a1 a2).1 (by rw [a3]; exact c2)
  rw [a3] at q1 q2 q3
  cases q1.symm.trans c1
  obtain ⟨cell, g1, g2, g3, g4⟩ := q2
  have hap := va_apart (own := own) x5 c3 (tyOf ci) c4 c5 x6.1 c1
  obtain ⟨hS, hfc, kC, hkC, hkind⟩ := x6.1.1 ci _ c1
  obtain ⟨cf, kf, fi, f, hi, hsl⟩ := hS k hk
  have hst := (u_facts hfc hkC (u_lays x5 c3 hk) hi).1
  have key : ∀ (H2 : Heap) (locs2 : List Loc), locs2 = locs ++ [⟨G.1 + a, f.slot⟩] → H2[G.1 + a]? = some (cell.setSlot f.slot v) → H2.size = H.size → (∀ q, q ≠ G.1 + a → H2[q]? = H[q]?) → W p l e R s m args below meth c H2 locs2 cells slots Q (F0 m (pc + 3) ls st) := by
    intro H2 locs2 el e1 e2 e3
    refine kk H2 locs2 (hR_set h2 hb ⟨a1, a2⟩ e2 e3 hs ⟨fun _ => ⟨(Cn, T, N), by rw [hka, a3]; exact c1, ?_, ?_⟩, fun z => by rw [hka, a3] at z; omega⟩) ?_
    · rw [hka, a3]
      rw [hsl] at e1
      refine t_OB.to (V := updV (fun k => hval (tyOf ci k) G.1 (hV u a k) (hF u a k)) k v) ⟨_, e1, g2, g3, t_set g4 hap hk v⟩ (fun j hj => ?_)
      unfold updV
      by_cases hjk : j = k
      · rw [if_pos hjk, hjk, hv]
      · rw [if_neg hjk, (ho j hjk).1, (ho j hjk).2]
    · rw [hka, a3]
      intro j hj
      by_cases hjk : j = k
      · rw [hjk]; exact hvi
      · rw [(ho j hjk).1]; exact q3 j hj
    · subst el
      exact t_lc h3 (show G.1 < G.1 + a by omega)
  unfold vR
  rw [if_neg (by omega)]
  by_cases hfb : fin = false
  · have hlay := x5 _ (c3 _ (u_in_lay hk))
    unfold u_lay at hlay
    rw [if_neg (by rw [hfi, hfb]; decide)] at hlay
    have h6 := u_store hfc hkC hkind hlay hi (c4 k hk) hn hfit
    exact W.putK x1 x2 (f := f) ⟨x4, x5 _ hl, ⟨_, _, _, hi⟩, hst⟩ (by rw [g2]; exact h6) g1 g3 (by rw [hsl]; exact k2_hasslot (g4 k hk)) rfl rfl hd fun H' e1 e2 e3 => key H' _ rfl e1 e2 e3
  · obtain ⟨hin2, q9, z1, z2⟩ := hfin.resolve_left hfb
    have hft : fin = true := by cases fin <;> simp_all
    have hlay := x5 _ (c3 _ (u_in_lay hk))
    unfold u_lay at hlay
    rw [if_pos (by rw [hfi, hft])] at hlay
    have hcf : m.cls = cf := by
      obtain ⟨_, _, c', _, _, _, -, -, hf', -, -, -, hown2, -⟩ := Cond.laysFinal_spec hlay
      have e1 : c' = cf := by have := hi.symm.trans hf'; simp at this; exact this.1.symm
      cases z1.symm.trans c1
      have z2 : Cn = own := z2
      rw [hde, z2] at hown2
      rw [← e1]; exact Option.some.inj (x4.symm.trans hown2)
    have h6 := u_fits hfc hkC hkind (Or.inr hlay) hi (c4 k hk) hn hfit
    exact W.putFinK x1 x2 x4 (x5 _ hl) hi hst hcf hin2 (by rw [g2]; exact h6) g1 g3 (by rw [hsl]; exact k2_hasslot (g4 k hk)) rfl rfl hd fun H' e1 e2 e3 => key H' _ rfl e1 e2 e3
end HG
