/-! THE LAW: the class reads clauses -/
section CR4
variable {N : Nat} {y y0 y1 y2 y' : Nat → Nat → Int32} {l : Nat → Nat → Int64} {d n a c s q i o b e j m k : Nat} {bt : Nat → Nat} {v w : Int32} {B : Value}
def fk_s10 (c : Nat) (y y' : Nat → Nat → Int32) : Prop := (∀ k, k ≠ 28 → ¬ (c ≤ k ∧ k ≤ c + 6) → y' k = y k) ∧ ∀ i, i ≠ 4 → i ≠ 5 → y' 28 i = y 28 i
theorem fk_s10_t (h1 : fk_s10 c y y1) (h2 : fk_s10 c y1 y2) : fk_s10 c y y2 := ⟨fun k a b => (h2.1 k a b).trans (h1.1 k a b), fun i a b => (h2.2 i a b).trans (h1.2 i a b)⟩
theorem fk_s10_0 : fk_s10 c y y := ⟨fun _ _ _ => rfl, fun _ _ _ => rfl⟩
theorem fk_s10_9 (h : fk_s9 c y y1) : fk_s10 c y y1 := ⟨fun k k1 k2 => h.1 k k1 (by omega) (by omega) (by omega), h.2.1⟩
theorem fk_s10_u (hc : c = 2 ∨ c = 10) (h : fk_s10 c y0 y) (hk : c ≤ k ∧ k ≤ c + 6) : fk_s10 c y0 (fk_u y k i v) := ⟨fun j k1 k2 => by rw [fk_u_rowo (by omega)]; exact h.1 j k1 k2, fun j j1 j2 => by rw [fk_u_o (by omega)]; exact h.2 j j1 j2⟩
theorem lz_ct_u (h : lz_ct bt n c a s y) (hk : (c + 3 ≤ k ∧ k ≤ c + 6) ∨ (k = c ∧ i = 8)) : lz_ct bt n c a s (fk_u y k i v) := by
  obtain ⟨h1, h2, h3, h4, h5, h6, h7, h8, h9, h10, h11⟩ := h
  exact ⟨h1, by rw [fk_u_o (by omega)]; exact h2, by rw [fk_u_o (by omega)]; exact h3, by rw [fk_u_o (by omega)]; exact h4, by rw [fk_u_o (by omega)]; exact h5, fun j hj => by rw [fk_u_o (by omega)]; exact h6 j hj, h7, h8, h9, by rw [fk_u_o (by omega)]; exact h10, h11⟩
/-- rows of clauses and orders that stay -/
def lz_rs (c s m : Nat) (y y' : Nat → Nat → Int32) : Prop := (∀ i, i < m → y' (c + 3) i = y (c + 3) i ∧ y' (c + 4) i = y (c + 4) i ∧ y' (c + 5) i = y (c + 5) i ∧ y' (c + 6) i = y (c + 6) i) ∧ ∀ i, i < s → y' (c + 1) i = y (c + 1) i ∧ y' (c + 2) i = y (c + 2) i
theorem lz_rs_t (h1 : lz_rs c s m y y1) (h2 : lz_rs c s m y1 y2) : lz_rs c s m y y2 := ⟨fun i hi => ⟨(h2.1 i hi).1.trans (h1.1 i hi).1, (h2.1 i hi).2.1.trans (h1.1 i hi).2.1, (h2.1 i hi).2.2.1.trans (h1.1 i hi).2.2.1, (h2.1 i hi).2.2.2.trans (h1.1 i hi).2.2.2⟩, fun i hi => ⟨(h2.2 i hi).1.trans (h1.2 i hi).1, (h2.2 i hi).2.trans (h1.2 i hi).2⟩⟩
theorem lz_rs_u (hk : (c + 3 ≤ k ∧ k ≤ c + 6 ∧ m ≤ i) ∨ k = c ∨ k = 28) (hc : c = 2 ∨ c = 10) : lz_rs c s m y (fk_u y k i v) := ⟨fun j hj => ⟨fk_u_o (by omega), fk_u_o (by omega), fk_u_o (by omega), fk_u_o (by omega)⟩, fun j hj => ⟨fk_u_o (by omega), fk_u_o (by omega)⟩⟩
theorem lz_rs_9 (hc : c = 2 ∨ c = 10) (h : fk_s9 c y y1) (hr : ∀ i, i < s → y1 (c + 1) i = y (c + 1) i ∧ y1 (c + 2) i = y (c + 2) i) : lz_rs c s m y y1 := ⟨fun i _ => ⟨by rw [h.1 (c + 3) (by omega) (by omega) (by omega) (by omega)], by rw [h.1 (c + 4) (by omega) (by omega) (by omega) (by omega)], by rw [h.1 (c + 5) (by omega) (by omega) (by omega) (by omega)], by rw [h.1 (c + 6) (by omega) (by omega) (by omega) (by omega)]⟩, hr⟩
def lz_cK (bt : Nat → Nat) (n c s m : Nat) (y y' : Nat → Nat → Int32) (v : Int32) (r : Int32 ⊕ (Nat × Nat × List (Nat × Nat) × List (Nat × Nat) × List (Nat × Nat))) : Prop := match r with
  | .inl e => v = e ∧ ¬ e = nI 0
  | .inr x => v = nI 0 ∧ lz_ct bt n c x.1 (s + (lz_kw x.2).length + x.2.2.2.1.length) y' ∧ y' c 8 = nI (m + 1) ∧ (y' (c + 3) m = nI x.2.1 ∧ y' (c + 4) m = nI s ∧ y' (c + 5) m = nI (s + (lz_kw x.2).length) ∧ y' (c + 6) m = nI (s + (lz_kw x.2).length + x.2.2.2.1.length)) ∧ lz_hc y' c s (lz_kw x.2) ∧ lz_hc y' c (s + (lz_kw x.2).length) x.2.2.2.1 ∧ lz_rs c s m y y'
set_option maxRecDepth 10000 in
theorem mX4_cl_f (hc : c = 2 ∨ c = 10) (hm : m < 16) (hv : ¬ v = nI 0) (h2 : y 28 2 = nI c) (h8 : y c 8 = nI m) : ∃ y', fk_ev d qX4_clause 129 [.ref 28, .int (nI m), .int v] [] (fk_E N y l) = some (some (.int v), fk_E N y' l) ∧ fk_s10 c y y' := by
  obtain ⟨a0, a1, a2, a3, a4, a5, a6, a7⟩ := lz_law hc
  obtain ⟨b1, b2, b3, b4, b5, b6, b7, b8⟩ := lz_law3 hc
  have hcl : (y 28 2).toNatClampNeg = c := by rw [h2, nI_clamp (by omega)]
  have l1 : m < (fk_shp (c + 5)).2 := by omega
  have l2 : m < (fk_shp (c + 6)).2 := by omega
  have l3 : (fk_shp (c + 5)).2 < 2 ^ 31 := by omega
  have l4 : (fk_shp (c + 6)).2 < 2 ^ 31 := by omega
  refine ⟨fk_u (fk_u (fk_u y (c + 5) m (y c 7)) (c + 6) m (y c 7)) c 8 (nI (m + 1)), ?_, fk_s10_u hc (fk_s10_u hc (fk_s10_u hc fk_s10_0 (by omega)) (by omega)) (by omega)⟩
  simp (disch := first | assumption | omega) only [rX4_clause, hcl, a5, a6, hv, h8, Option.bind_some, Option.toList_some, Option.toList_none, List.cons_append, List.nil_append, fk_b_0, nI_add, Nat.add_zero, Nat.zero_add, not_true_eq_false, not_false_eq_true, if_true, if_false, sI_le_t, sI_le_f, sI_lt_t, sI_lt_f, sI_eq_t, sI_eq_f, sI_rem, sI_div, sI_m1a, sI_m1b, sI_m1c, sI_m1d, sI_m1e, sI_m1f, sI_m2a, sI_m2b, sI_sub, pk_mul, sI_dec, fk_u_s, fk_u_o, sI_dec0, sI_z, sI_md, Bool.false_eq_true, Nat.reduceAdd, Nat.reduceMul, Nat.reduceSub, Nat.reduceMod, Nat.reduceDiv]
theorem lz_ft_cl (hn : n ≤ 240) {k p : Nat} (h1 : 1 ≤ k) (h2 : k ≤ 5) (h3 : p ≤ n) : ¬ fk_flt k p = nI 0 := fk_flt_5 k (by omega) p (by omega) h1
set_option maxRecDepth 10000 in
theorem mX4_clause (hc : c = 2 ∨ c = 10) (h : lz_ct bt n c a s y) (hs : s ≤ a) (h8 : y c 8 = nI m) (hm : m ≤ 16) : ∃ v y', fk_ev (d + 26) qX4_clause 0 [.ref 28, .null, .null] [] (fk_E N y l) = some (some (.int v), fk_E N y' l) ∧ fk_s10 c y y' ∧ lz_cK bt n c s m y y' v (lz_cl bt n a m) := by
  obtain ⟨a0, a1, a2, a3, a4, a5, a6, a7⟩ := lz_law hc
  obtain ⟨b1, b2, b3, b4, b5, b6, b7, b8⟩ := lz_law3 hc
  obtain ⟨g1, g2, g3, g4, g5, g6, g7, g8, g9, g10, g11⟩ := id h
  have bt6 := g7 a
  have hcl : (y 28 2).toNatClampNeg = c := by rw [g2, nI_clamp (by omega)]
  have ho : fk_ev (d + 25) qX4_isOneOf 0 [.ref 28, .retAddr 0] [] (fk_E N y l) = some (some (.int (fk_b (a < n ∧ lz_sc 0 (bt a) = true))), fk_E N y l) := mX4_isOneOf (d := d + 21) (i := 0) (by omega) g5 bt6
  unfold lz_cl
  by_cases c1 : a < n ∧ lz_cls (bt a) = true
  · rw [if_neg (fun z => z c1)]
    rw [fk_b_t (show a < n ∧ lz_sc 0 (bt a) = true from c1)] at ho
    have ep : ab_pk bt n a = nI (bt a) := if_pos c1.1
    rw [ep] at g5
    by_cases c2 : 16 ≤ m
    · rw [if_pos c2]
      have e8 : y c 8 = nI 16 := by rw [h8, show m = 16 by omega]
      refine ⟨fk_flt 4 a, y, ?_, fk_s10_0, rfl, lz_ft_cl g9 (by omega) (by omega) g8⟩
      simp (disch := first | assumption | omega) only [rX4_clause, lX4_1, ho, hcl, e8, g4, mX11_faultAt, Option.bind_some, Option.toList_some, Option.toList_none, List.cons_append, List.nil_append, fk_b_0, nI_add, Nat.add_zero, Nat.zero_add, not_true_eq_false, not_false_eq_true, if_true, if_false, sI_le_t, sI_le_f, sI_lt_t, sI_lt_f, sI_eq_t, sI_eq_f, sI_rem, sI_div, sI_m1a, sI_m1b, sI_m1c, sI_m1d, sI_m1e, sI_m1f, sI_m2a, sI_m2b, sI_sub, pk_mul, sI_dec, fk_u_s, fk_u_o, sI_dec0, sI_z, sI_md, Bool.false_eq_true, Nat.reduceAdd, Nat.reduceMul, Nat.reduceSub, Nat.reduceMod, Nat.reduceDiv]
    · rw [if_neg c2]
      have m16 : m < 16 := by omega
      have l3 : m < (fk_shp (c + 3)).2 := by omega
      have l4 : m < (fk_shp (c + 4)).2 := by omega
      have l5 : m < (fk_shp (c + 5)).2 := by omega
      have l6 : m < (fk_shp (c + 6)).2 := by omega
      have x3 : (fk_shp (c + 3)).2 < 2 ^ 31 := by omega
      have x4 : (fk_shp (c + 4)).2 < 2 ^ 31 := by omega
      have x5 : (fk_shp (c + 5)).2 < 2 ^ 31 := by omega
      have x6 : (fk_shp (c + 6)).2 < 2 ^ 31 := by omega
      obtain ⟨Y0, eY0⟩ : ∃ Y0, Y0 = fk_u (fk_u y (c + 3) m (nI (bt a))) (c + 4) m (nI s) := ⟨_, rfl⟩
      have ct0 : lz_ct bt n c a s Y0 := by rw [eY0]; exact lz_ct_u (lz_ct_u h (by omega)) (by omega)
      have hv := mX4_adv (N := N) (l := l) (d := d + 25) ct0 c1.1
      have ct1 := lz_ct_adv ct0 c1.1
      obtain ⟨Y, eY⟩ : ∃ Y, Y = lz_av bt n a Y0 := ⟨_, rfl⟩
      have hv : fk_ev (d + 25) qX4_advance 0 [.ref 28] [] (fk_E N Y0 l) = some (none, fk_E N Y l) := by rw [eY]; exact hv
      have ct1 : lz_ct bt n c (a + 1) s Y := by rw [eY]; exact ct1
      have sY : fk_s10 c y Y := by
        rw [eY]
        refine fk_s10_t ?_ (fk_s10_9 (lz_s9_adv ct0))
        rw [eY0]
        exact fk_s10_u hc (fk_s10_u hc fk_s10_0 (by omega)) (by omega)
      have rY : lz_rs c s m y Y := by
        rw [eY]
        unfold lz_av
        refine lz_rs_t (lz_rs_t ?_ (lz_rs_u (by omega) hc)) (lz_rs_u (by omega) hc)
        rw [eY0]
        exact lz_rs_t (lz_rs_u (by omega) hc) (lz_rs_u (by omega) hc)
      have Y3 : Y (c + 3) m = nI (bt a) := by
        rw [eY]; unfold lz_av
        rw [fk_u_o (by omega), fk_u_o (by omega), eY0, fk_u_o (by omega), fk_u_s]
      have Y4 : Y (c + 4) m = nI s := by
        rw [eY]; unfold lz_av
        rw [fk_u_o (by omega), fk_u_o (by omega), eY0, fk_u_s]
      have Y8 : Y c 8 = nI m := by
        rw [eY]; unfold lz_av
        rw [fk_u_o (by omega), fk_u_o (by omega), eY0, fk_u_o (by omega), fk_u_o (by omega)]
        exact h8
      have st : fk_ev (d + 26) qX4_clause 0 [.ref 28, .null, .null] [] (fk_E N y l) = fk_ev (d + 26) qX4_clause 82 [.ref 28, .int (nI m), .int (nI 0)] [] (fk_E N Y l) := by
        rw [eY0] at hv
        simp (disch := first | assumption | omega) only [rX4_clause, lX4_1, ho, hcl, h8, a3, a4, g5, g10, hv, Option.bind_some, Option.toList_some, Option.toList_none, List.cons_append, List.nil_append, fk_b_0, nI_add, Nat.add_zero, Nat.zero_add, not_true_eq_false, not_false_eq_true, if_true, if_false, sI_le_t, sI_le_f, sI_lt_t, sI_lt_f, sI_eq_t, sI_eq_f, sI_rem, sI_div, sI_m1a, sI_m1b, sI_m1c, sI_m1d, sI_m1e, sI_m1f, sI_m2a, sI_m2b, sI_sub, pk_mul, sI_dec, fk_u_s, fk_u_o, sI_dec0, sI_z, sI_md, Bool.false_eq_true, Nat.reduceAdd, Nat.reduceMul, Nat.reduceSub, Nat.reduceMod, Nat.reduceDiv]
      rw [st]
      -- a worth with a fault
      have bad : ∀ v Z, ¬ v = nI 0 → fk_s9 c Y Z → ∃ y', fk_ev (d + 26) qX4_clause 129 [.ref 28, .int (nI m), .int v] [] (fk_E N Z l) = some (some (.int v), fk_E N y' l) ∧ fk_s10 c y y' := by
        intro v Z hv0 hZ
        obtain ⟨y', q1, q2⟩ := mX4_cl_f (N := N) (l := l) (d := d + 26) (y := Z) hc m16 hv0 (by rw [hZ.2.1 2 (by omega) (by omega)]; exact ct1.2.1) (by rw [hZ.2.2 8 (by omega)]; exact Y8)
        exact ⟨y', q1, fk_s10_t (fk_s10_t sY (fk_s10_9 hZ)) q2⟩
      have cont : ∀ (p : Nat) (K W : List (Nat × Nat)) Z, a < p → lz_kw (bt a, W, ([] : List (Nat × Nat)), ([] : List (Nat × Nat))) = K → s + K.length ≤ p → fk_s9 c Y Z → lz_ct bt n c p (s + K.length) Z → lz_hc Z c s K → (∀ i, i < s → Z (c + 1) i = Y (c + 1) i ∧ Z (c + 2) i = Y (c + 2) i) → ∃ v y', fk_ev (d + 26) qX4_clause 114 [.ref 28, .int (nI m), .int (nI 0)] [] (fk_E N Z l) = some (some (.int v), fk_E N y' l) ∧ fk_s10 c y y' ∧ lz_cK bt n c s m y y' v (if p < n ∧ bt p = 40 then (match lz_A bt n 5 (p + 1) with
          | .inl e => .inl e
          | .inr z => if z.1 < n ∧ bt z.1 = 41 then .inr (z.1 + 1, bt a, W, z.2.1, z.2.2) else .inl (fk_flt 1 z.1)) else .inl (fk_flt 1 p)) := by
        intro p K W Z hap eK hsp sZ ctZ hK hrZ
        have hpn := ctZ.2.2.2.2.2.2.2.1
        by_cases c3 : p < n ∧ bt p = 40
        · rw [if_pos c3]
          have hsg := mX4_sign_t (N := N) (l := l) (d := d + 24) ctZ (show 40 < 256 by omega) c3
          have ctV := lz_ct_adv ctZ c3.1
          obtain ⟨V, eV⟩ : ∃ V, V = fk_u (lz_av bt n p Z) (c + 5) m (nI (s + K.length)) := ⟨_, rfl⟩
          have ctV : lz_ct bt n c (p + 1) (s + K.length) V := by rw [eV]; exact lz_ct_u ctV (by omega)
          obtain ⟨v2, U, e1, e2, e3⟩ := mX4_any (N := N) (l := l) (bt := bt) (q := 5) hc g9 (by omega) d (p + 1) (s + K.length) V ctV (by omega)
          have e3 : lz_cR bt n c (s + K.length) V U v2 (lz_m1 (lz_A bt n 5 (p + 1))) := e3
          have e1 : fk_ev (d + 25) qX4_anyOf 0 [.ref 28, .int (nI 1), .null, .null] [] (fk_E N V l) = some (some (.int v2), fk_E N U l) := e1
          have hclV : (Z 28 2).toNatClampNeg = c := by rw [ctZ.2.1, nI_clamp (by omega)]
          have v7 : Z c 7 = nI (s + K.length) := ctZ.2.2.2.2.2.2.2.2.2.1
          have U2 : U 28 2 = nI c := by rw [e2.2.1 2 (by omega) (by omega)]; exact ctV.2.1
          have hclU : (U 28 2).toNatClampNeg = c := by rw [U2, nI_clamp (by omega)]
          have V8 : V c 8 = nI m := by
            rw [eV, fk_u_o (by omega)]; unfold lz_av
            rw [fk_u_o (by omega), fk_u_o (by omega), sZ.2.2 8 (by omega)]; exact Y8
          have U8 : U c 8 = nI m := by rw [e2.2.2 8 (by omega)]; exact V8
          have sV : fk_s10 c y V := by
            rw [eV]
            exact fk_s10_u hc (fk_s10_t (fk_s10_t sY (fk_s10_9 sZ)) (fk_s10_9 (lz_s9_adv ctZ))) (by omega)
          have sU : fk_s10 c y U := fk_s10_t sV (fk_s10_9 e2)
          -- to the condition's end
          have go : fk_ev (d + 26) qX4_clause 114 [.ref 28, .int (nI m), .int (nI 0)] [] (fk_E N Z l) = fk_ev (d + 26) qX4_clause 188 [.ref 28, .int (nI m), .int v2] [] (fk_E N (fk_u (fk_u U (c + 6) m (U c 7)) c 8 (nI (m + 1))) l) := by
            rw [eV] at e1
            simp (disch := first | assumption | omega) only [rX4_clause, hsg, hclV, a5, v7, e1, hclU, a6, U8, Option.bind_some, Option.toList_some, Option.toList_none, List.cons_append, List.nil_append, fk_b_0, nI_add, Nat.add_zero, Nat.zero_add, not_true_eq_false, not_false_eq_true, if_true, if_false, sI_le_t, sI_le_f, sI_lt_t, sI_lt_f, sI_eq_t, sI_eq_f, sI_rem, sI_div, sI_m1a, sI_m1b, sI_m1c, sI_m1d, sI_m1e, sI_m1f, sI_m2a, sI_m2b, sI_sub, pk_mul, sI_dec, fk_u_s, fk_u_o, sI_dec0, sI_z, sI_md, Bool.false_eq_true, Nat.reduceAdd, Nat.reduceMul, Nat.reduceSub, Nat.reduceMod, Nat.reduceDiv]
          rw [go]
          have g := (lz_A_ok (bt := bt) (q := 5) (a := p + 1) g9 c3.1).1
          have sX : fk_s10 c y (fk_u (fk_u U (c + 6) m (U c 7)) c 8 (nI (m + 1))) := fk_s10_u hc (fk_s10_u hc sU (by omega)) (by omega)
          cases ef : lz_A bt n 5 (p + 1) with
          | inl f =>
            rw [ef] at e3
            obtain ⟨rfl, e4, s', e5, e6⟩ := e3
            refine ⟨v2, fk_u (fk_u U (c + 6) m (U c 7)) c 8 (nI (m + 1)), ?_, sX, rfl, e4⟩
            simp (disch := first | assumption | omega) only [rX4_clause, e4, Option.bind_some, Option.toList_some, Option.toList_none, List.cons_append, List.nil_append, fk_b_0, nI_add, Nat.add_zero, Nat.zero_add, not_true_eq_false, not_false_eq_true, if_true, if_false, sI_le_t, sI_le_f, sI_lt_t, sI_lt_f, sI_eq_t, sI_eq_f, sI_rem, sI_div, sI_m1a, sI_m1b, sI_m1c, sI_m1d, sI_m1e, sI_m1f, sI_m2a, sI_m2b, sI_sub, pk_mul, sI_dec, fk_u_s, fk_u_o, sI_dec0, sI_z, sI_md, Bool.false_eq_true, Nat.reduceAdd, Nat.reduceMul, Nat.reduceSub, Nat.reduceMod, Nat.reduceDiv]
          | inr z =>
            rw [ef] at e3 g
            obtain ⟨rfl, e4, e5, e6⟩ := e3
            obtain ⟨k1, k2, k3, _⟩ := g
            have e4 : lz_ct bt n c z.1 (s + K.length + z.2.1.length) U := e4
            have U7 := e4.2.2.2.2.2.2.2.2.2.1
            have ctX : lz_ct bt n c z.1 (s + K.length + z.2.1.length) (fk_u (fk_u U (c + 6) m (U c 7)) c 8 (nI (m + 1))) := lz_ct_u (lz_ct_u e4 (by omega)) (by omega)
            dsimp only
            by_cases c4 : z.1 < n ∧ bt z.1 = 41
            · rw [if_pos c4]
              have hsg2 := mX4_sign_t (N := N) (l := l) (d := d + 24) ctX (show 41 < 256 by omega) c4
              have ctF := lz_ct_adv ctX c4.1
              have ekw : lz_kw (bt a, W, z.2.1, z.2.2) = K := eK
              have rowU : ∀ k, c + 3 ≤ k → k ≤ c + 6 → U k = V k := fun k k1 k2 => e2.1 k (by omega) (by omega) (by omega) (by omega)
              have rowZ : ∀ k, c + 3 ≤ k → k ≤ c + 6 → Z k = Y k := fun k k1 k2 => sZ.1 k (by omega) (by omega) (by omega) (by omega)
              have av : ∀ k i, k ≠ 28 → lz_av bt n p Z k i = Z k i := fun k i hk => by unfold lz_av; rw [fk_u_o (by omega), fk_u_o (by omega)]
              refine ⟨nI 0, lz_av bt n z.1 (fk_u (fk_u U (c + 6) m (U c 7)) c 8 (nI (m + 1))), ?_, fk_s10_t sX (fk_s10_9 (lz_s9_adv ctX)), rfl, ?_, ?_, ⟨?_, ?_, ?_, ?_⟩, ?_, ?_, ?_⟩
              · simp (disch := first | assumption | omega) only [rX4_clause, hsg2, Option.bind_some, Option.toList_some, Option.toList_none, List.cons_append, List.nil_append, fk_b_0, nI_add, Nat.add_zero, Nat.zero_add, not_true_eq_false, not_false_eq_true, if_true, if_false, sI_le_t, sI_le_f, sI_lt_t, sI_lt_f, sI_eq_t, sI_eq_f, sI_rem, sI_div, sI_m1a, sI_m1b, sI_m1c, sI_m1d, sI_m1e, sI_m1f, sI_m2a, sI_m2b, sI_sub, pk_mul, sI_dec, fk_u_s, fk_u_o, sI_dec0, sI_z, sI_md, Bool.false_eq_true, Nat.reduceAdd, Nat.reduceMul, Nat.reduceSub, Nat.reduceMod, Nat.reduceDiv]
              · dsimp only; rw [ekw]; exact ctF
              · unfold lz_av; rw [fk_u_o (by omega), fk_u_o (by omega), fk_u_s]
              · unfold lz_av; rw [fk_u_o (by omega), fk_u_o (by omega), fk_u_o (by omega), fk_u_o (by omega), rowU (c + 3) (by omega) (by omega), eV, fk_u_o (by omega), av _ _ (by omega), rowZ (c + 3) (by omega) (by omega)]; exact Y3
              · unfold lz_av; rw [fk_u_o (by omega), fk_u_o (by omega), fk_u_o (by omega), fk_u_o (by omega), rowU (c + 4) (by omega) (by omega), eV, fk_u_o (by omega), av _ _ (by omega), rowZ (c + 4) (by omega) (by omega)]; exact Y4
              · dsimp only; rw [ekw]; unfold lz_av; rw [fk_u_o (by omega), fk_u_o (by omega), fk_u_o (by omega), fk_u_o (by omega), rowU (c + 5) (by omega) (by omega), eV, fk_u_s]
              · dsimp only; rw [ekw]; unfold lz_av; rw [fk_u_o (by omega), fk_u_o (by omega), fk_u_o (by omega), fk_u_s]; exact U7
              · dsimp only; rw [ekw]
                refine lz_hc_c K s (fun i i1 i2 => ?_) hK
                unfold lz_av
                rw [fk_u_o (by omega), fk_u_o (by omega), fk_u_o (by omega), fk_u_o (by omega), fk_u_o (by omega), fk_u_o (by omega), fk_u_o (by omega), fk_u_o (by omega)]
                have t := e6 i (by omega)
                rw [eV, fk_u_o (by omega), fk_u_o (by omega), av _ _ (by omega), av _ _ (by omega)] at t
                exact t
              · dsimp only; rw [ekw]
                refine lz_hc_c z.2.1 _ (fun i i1 i2 => ?_) e5
                unfold lz_av
                rw [fk_u_o (by omega), fk_u_o (by omega), fk_u_o (by omega), fk_u_o (by omega), fk_u_o (by omega), fk_u_o (by omega), fk_u_o (by omega), fk_u_o (by omega)]
                exact ⟨rfl, rfl⟩
              · have rZ : lz_rs c s m Y Z := lz_rs_9 hc sZ hrZ
                have rV : lz_rs c s m Z V := by
                  rw [eV]; unfold lz_av
                  exact lz_rs_t (lz_rs_t (lz_rs_u (by omega) hc) (lz_rs_u (by omega) hc)) (lz_rs_u (by omega) hc)
                have rU : lz_rs c s m V U := lz_rs_9 hc e2 fun i hi => e6 i (by omega)
                have rF : lz_rs c s m U (lz_av bt n z.1 (fk_u (fk_u U (c + 6) m (U c 7)) c 8 (nI (m + 1)))) := by
                  unfold lz_av
                  exact lz_rs_t (lz_rs_t (lz_rs_t (lz_rs_u (by omega) hc) (lz_rs_u (by omega) hc)) (lz_rs_u (by omega) hc)) (lz_rs_u (by omega) hc)
                exact lz_rs_t rY (lz_rs_t rZ (lz_rs_t rV (lz_rs_t rU rF)))
            · rw [if_neg c4]
              have hsg2 := mX4_sign_f (N := N) (l := l) (d := d + 24) ctX (show 41 < 256 by omega) c4
              refine ⟨fk_flt 1 z.1, fk_u (fk_u U (c + 6) m (U c 7)) c 8 (nI (m + 1)), ?_, sX, rfl, lz_ft_cl g9 (by omega) (by omega) (by omega)⟩
              simp (disch := first | assumption | omega) only [rX4_clause, hsg2, Option.bind_some, Option.toList_some, Option.toList_none, List.cons_append, List.nil_append, fk_b_0, nI_add, Nat.add_zero, Nat.zero_add, not_true_eq_false, not_false_eq_true, if_true, if_false, sI_le_t, sI_le_f, sI_lt_t, sI_lt_f, sI_eq_t, sI_eq_f, sI_rem, sI_div, sI_m1a, sI_m1b, sI_m1c, sI_m1d, sI_m1e, sI_m1f, sI_m2a, sI_m2b, sI_sub, pk_mul, sI_dec, fk_u_s, fk_u_o, sI_dec0, sI_z, sI_md, Bool.false_eq_true, Nat.reduceAdd, Nat.reduceMul, Nat.reduceSub, Nat.reduceMod, Nat.reduceDiv]
        · rw [if_neg c3]
          have hsg := mX4_sign_f (N := N) (l := l) (d := d + 24) ctZ (show 40 < 256 by omega) c3
          have hf := lz_ft_cl g9 (show 1 ≤ 1 by omega) (by omega) hpn
          obtain ⟨y', q1, q2⟩ := bad (fk_flt 1 p) Z hf sZ
          refine ⟨fk_flt 1 p, y', ?_, q2, rfl, hf⟩
          rw [← q1]
          simp (disch := first | assumption | omega) only [rX4_clause, hsg, Option.bind_some, Option.toList_some, Option.toList_none, List.cons_append, List.nil_append, fk_b_0, nI_add, Nat.add_zero, Nat.zero_add, not_true_eq_false, not_false_eq_true, if_true, if_false, sI_le_t, sI_le_f, sI_lt_t, sI_lt_f, sI_eq_t, sI_eq_f, sI_rem, sI_div, sI_m1a, sI_m1b, sI_m1c, sI_m1d, sI_m1e, sI_m1f, sI_m2a, sI_m2b, sI_sub, pk_mul, sI_dec, fk_u_s, fk_u_o, sI_dec0, sI_z, sI_md, Bool.false_eq_true, Nat.reduceAdd, Nat.reduceMul, Nat.reduceSub, Nat.reduceMod, Nat.reduceDiv]
      have hclY : (Y 28 2).toNatClampNeg = c := by rw [ct1.2.1, nI_clamp (by omega)]
      unfold lz_wo
      by_cases c3 : bt a = 101
      · rw [if_pos c3]
        dsimp only
        have hadd := mX3_add (N := N) (l := l) (d := d + 25) (y := Y) (v := nI 0) (w := nI 1) hc ct1.2.2.2.2.2.2.2.2.2.1 (by omega)
        obtain ⟨v, y', f1, f2⟩ := cont (a + 1) [(0, 1)] [] _ (by omega) (if_pos c3) (by show s + 1 ≤ a + 1; omega) (fk_s9_c hc (fk_s9_c hc (fk_s9_c hc fk_s9_0 (by omega)) (by omega)) (by omega)) (lz_ct_add (v := nI 0) (w := nI 1) ct1 (by omega)) (lz_hc_1 (by rw [fk_u_o (by omega), fk_u_o (by omega), fk_u_s]; rfl) (by rw [fk_u_o (by omega), fk_u_s]; rfl)) (fun i hi => ⟨by rw [fk_u_o (by omega), fk_u_o (by omega), fk_u_o (by omega)], by rw [fk_u_o (by omega), fk_u_o (by omega), fk_u_o (by omega)]⟩)
        refine ⟨v, y', ?_, f2⟩
        rw [← f1]
        have Y3' : Y (c + 3) m = nI 101 := by rw [Y3, c3]
        simp (disch := first | assumption | omega) only [rX4_clause, hclY, a3, Y3', hadd, Option.bind_some, Option.toList_some, Option.toList_none, List.cons_append, List.nil_append, fk_b_0, nI_add, Nat.add_zero, Nat.zero_add, not_true_eq_false, not_false_eq_true, if_true, if_false, sI_le_t, sI_le_f, sI_lt_t, sI_lt_f, sI_eq_t, sI_eq_f, sI_rem, sI_div, sI_m1a, sI_m1b, sI_m1c, sI_m1d, sI_m1e, sI_m1f, sI_m2a, sI_m2b, sI_sub, pk_mul, sI_dec, fk_u_s, fk_u_o, sI_dec0, sI_z, sI_md, Bool.false_eq_true, Nat.reduceAdd, Nat.reduceMul, Nat.reduceSub, Nat.reduceMod, Nat.reduceDiv]
      · rw [if_neg c3]
        obtain ⟨v, Z, e1, e2, e3⟩ := mX4_sum (N := N) (l := l) (bt := bt) hc g9 6 (by omega) d (a + 1) s Y ct1 (by omega)
        have e1 : fk_ev (d + 25) qX4_sum 0 [.ref 28, .int (nI 0), .null, .null] [] (fk_E N Y l) = some (some (.int v), fk_E N Z l) := e1
        have g := lz_S_ok (bt := bt) (n := n) 6 (a + 1) c1.1
        cases ef : lz_S bt n 6 (a + 1) with
        | inl f =>
          rw [ef] at e3
          obtain ⟨rfl, e4, e5⟩ := e3
          obtain ⟨y', q1, q2⟩ := bad v Z e4 e2
          refine ⟨v, y', ?_, q2, rfl, e4⟩
          rw [← q1]
          simp (disch := first | assumption | omega) only [rX4_clause, hclY, a3, Y3, e1, e4, Option.bind_some, Option.toList_some, Option.toList_none, List.cons_append, List.nil_append, fk_b_0, nI_add, Nat.add_zero, Nat.zero_add, not_true_eq_false, not_false_eq_true, if_true, if_false, sI_le_t, sI_le_f, sI_lt_t, sI_lt_f, sI_eq_t, sI_eq_f, sI_rem, sI_div, sI_m1a, sI_m1b, sI_m1c, sI_m1d, sI_m1e, sI_m1f, sI_m2a, sI_m2b, sI_sub, pk_mul, sI_dec, fk_u_s, fk_u_o, sI_dec0, sI_z, sI_md, Bool.false_eq_true, Nat.reduceAdd, Nat.reduceMul, Nat.reduceSub, Nat.reduceMod, Nat.reduceDiv]
        | inr x =>
          rw [ef] at e3 g
          obtain ⟨rfl, e4, e5, e6⟩ := e3
          obtain ⟨k1, k2, k3, _⟩ := g
          obtain ⟨v, y', f1, f2⟩ := cont x.1 x.2 x.2 Z (by omega) (if_neg c3) (by omega) e2 e4 e5 e6
          refine ⟨v, y', ?_, f2⟩
          rw [← f1]
          simp (disch := first | assumption | omega) only [rX4_clause, hclY, a3, Y3, e1, Option.bind_some, Option.toList_some, Option.toList_none, List.cons_append, List.nil_append, fk_b_0, nI_add, Nat.add_zero, Nat.zero_add, not_true_eq_false, not_false_eq_true, if_true, if_false, sI_le_t, sI_le_f, sI_lt_t, sI_lt_f, sI_eq_t, sI_eq_f, sI_rem, sI_div, sI_m1a, sI_m1b, sI_m1c, sI_m1d, sI_m1e, sI_m1f, sI_m2a, sI_m2b, sI_sub, pk_mul, sI_dec, fk_u_s, fk_u_o, sI_dec0, sI_z, sI_md, Bool.false_eq_true, Nat.reduceAdd, Nat.reduceMul, Nat.reduceSub, Nat.reduceMod, Nat.reduceDiv]
  · rw [if_pos c1]
    rw [fk_b_f (show ¬ (a < n ∧ lz_sc 0 (bt a) = true) from c1)] at ho
    refine ⟨fk_flt 1 a, y, ?_, fk_s10_0, rfl, lz_ft_cl g9 (by omega) (by omega) g8⟩
    simp (disch := first | assumption | omega) only [rX4_clause, lX4_1, ho, g4, mX11_faultAt, Option.bind_some, Option.toList_some, Option.toList_none, List.cons_append, List.nil_append, fk_b_0, nI_add, Nat.add_zero, Nat.zero_add, not_true_eq_false, not_false_eq_true, if_true, if_false, sI_le_t, sI_le_f, sI_lt_t, sI_lt_f, sI_eq_t, sI_eq_f, sI_rem, sI_div, sI_m1a, sI_m1b, sI_m1c, sI_m1d, sI_m1e, sI_m1f, sI_m2a, sI_m2b, sI_sub, pk_mul, sI_dec, fk_u_s, fk_u_o, sI_dec0, sI_z, sI_md, Bool.false_eq_true, Nat.reduceAdd, Nat.reduceMul, Nat.reduceSub, Nat.reduceMod, Nat.reduceDiv]
end CR4
