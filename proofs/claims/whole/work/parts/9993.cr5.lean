/-! THE LAW: the call -/
section CR5
variable {N : Nat} {S : Nat → Int32} {y y0 y1 y2 y' : Nat → Nat → Int32} {l : Nat → Nat → Int64} {d n a c s q i o b e j m k t : Nat} {bt : Nat → Nat} {v w : Int32} {B : Value}
def lz_cL (c s m : Nat) (y y' : Nat → Nat → Int32) (v : Int32) (r : Int32 ⊕ List (Nat × List (Nat × Nat) × List (Nat × Nat) × List (Nat × Nat))) : Prop := match r with
  | .inl e => v = e ∧ ¬ e = nI 0
  | .inr Q => v = nI 0 ∧ y' c 8 = nI (m + Q.length) ∧ lz_hq y' c m Q ∧ lz_rs c s m y y'
theorem mX4_read_l (hc : c = 2 ∨ c = 10) (hn : n ≤ 240) {nn : Value} : ∀ k a s m y (x4 : Value), n < k + a → m ≤ 16 → lz_ct bt n c a s y → s ≤ a → y c 8 = nI m → ∃ v y', fk_ev (d + 27) qX4_read 88 [.ref 28, nn, .ref c, .int (nI m), x4] [] (fk_E N y l) = some (some (.int v), fk_E N y' l) ∧ fk_s10 c y y' ∧ lz_cL c s m y y' v (lz_L bt n k a m) := by
  intro k
  induction k with
  | zero => intro a s m y x4 hk hm h; exact absurd h.2.2.2.2.2.2.2.1 (by omega)
  | succ k ih =>
    intro a s m y x4 hk hm h hs h8
    have han := h.2.2.2.2.2.2.2.1
    obtain ⟨v, y1, e1, e2, e3⟩ := mX4_clause (N := N) (l := l) (d := d) hc h hs h8 hm
    have hok := lz_cl_ok (bt := bt) (a := a) (m := m) hn han
    have hcm := lz_cl_m (bt := bt) (n := n) (a := a) (m := m)
    unfold lz_L
    rw [hX4_read_88]
    cases e : lz_cl bt n a m with
    | inl f =>
      rw [e] at e3
      obtain ⟨rfl, e4⟩ := e3
      refine ⟨v, y1, ?_, e2, rfl, e4⟩
      simp (disch := first | assumption | omega) only [rX4_read, e1, e4, Option.bind_some, Option.toList_some, Option.toList_none, List.cons_append, List.nil_append, fk_b_0, nI_add, Nat.add_zero, Nat.zero_add, not_true_eq_false, not_false_eq_true, if_true, if_false, sI_le_t, sI_le_f, sI_lt_t, sI_lt_f, sI_eq_t, sI_eq_f, sI_rem, sI_div, sI_m1a, sI_m1b, sI_m1c, sI_m1d, sI_m1e, sI_m1f, sI_m2a, sI_m2b, sI_sub, pk_mul, sI_dec, fk_u_s, fk_u_o, sI_dec0, sI_z, sI_md, Bool.false_eq_true, Nat.reduceAdd, Nat.reduceMul, Nat.reduceSub, Nat.reduceMod, Nat.reduceDiv]
    | inr x =>
      rw [e] at e3 hok
      have m16 : m < 16 := hcm (fun z hz => by rw [e] at hz; cases hz)
      obtain ⟨q1, q2, q3⟩ := hok
      have q4 := q3.1
      obtain ⟨rfl, p1, p2, ⟨p3, p4, p5, p6⟩, p7, p8, p9⟩ := e3
      have f4 := p1.2.2.2.1
      have f3 := p1.2.2.1
      have f24 := p1.2.2.2.2.2.2.2.2.2.2
      dsimp only
      by_cases c1 : x.1 = n
      · rw [if_pos c1]
        refine ⟨nI 0, y1, ?_, e2, rfl, p2, ⟨⟨s, p3, p4, p5, p6, f24, p7, p8⟩, trivial⟩, p9⟩
        rw [c1] at f4
        simp (disch := first | assumption | omega) only [rX4_read, e1, f4, f3, Option.bind_some, Option.toList_some, Option.toList_none, List.cons_append, List.nil_append, fk_b_0, nI_add, Nat.add_zero, Nat.zero_add, not_true_eq_false, not_false_eq_true, if_true, if_false, sI_le_t, sI_le_f, sI_lt_t, sI_lt_f, sI_eq_t, sI_eq_f, sI_rem, sI_div, sI_m1a, sI_m1b, sI_m1c, sI_m1d, sI_m1e, sI_m1f, sI_m2a, sI_m2b, sI_sub, pk_mul, sI_dec, fk_u_s, fk_u_o, sI_dec0, sI_z, sI_md, Bool.false_eq_true, Nat.reduceAdd, Nat.reduceMul, Nat.reduceSub, Nat.reduceMod, Nat.reduceDiv]
      · rw [if_neg c1]
        have xn : x.1 < n := by omega
        by_cases c2 : bt x.1 = 59
        · rw [if_pos c2]
          have hsg := mX4_sign_t (N := N) (l := l) (d := d + 25) p1 (show 59 < 256 by omega) ⟨xn, c2⟩
          have ct2 := lz_ct_adv p1 xn
          obtain ⟨v, y', f1, f2, f5⟩ := ih (x.1 + 1) _ (m + 1) _ (.int (nI 0)) (by omega) (by omega) ct2 (by omega) (by rw [fk_u_o (by omega), fk_u_o (by omega)]; exact p2)
          refine ⟨v, y', ?_, fk_s10_t (fk_s10_t e2 (fk_s10_9 (lz_s9_adv p1))) f2, ?_⟩
          · rw [← f1]
            simp (disch := first | assumption | omega) only [rX4_read, e1, f4, f3, hsg, Option.bind_some, Option.toList_some, Option.toList_none, List.cons_append, List.nil_append, fk_b_0, nI_add, Nat.add_zero, Nat.zero_add, not_true_eq_false, not_false_eq_true, if_true, if_false, sI_le_t, sI_le_f, sI_lt_t, sI_lt_f, sI_eq_t, sI_eq_f, sI_rem, sI_div, sI_m1a, sI_m1b, sI_m1c, sI_m1d, sI_m1e, sI_m1f, sI_m2a, sI_m2b, sI_sub, pk_mul, sI_dec, fk_u_s, fk_u_o, sI_dec0, sI_z, sI_md, Bool.false_eq_true, Nat.reduceAdd, Nat.reduceMul, Nat.reduceSub, Nat.reduceMod, Nat.reduceDiv]
          · cases e5 : lz_L bt n k (x.1 + 1) (m + 1) with
            | inl f => rw [e5] at f5; exact f5
            | inr Q =>
              rw [e5] at f5
              obtain ⟨t0, t1, t2, t3, t4⟩ := f5
              have r1 : ∀ i, i < m + 1 → y' (c + 3) i = y1 (c + 3) i ∧ y' (c + 4) i = y1 (c + 4) i ∧ y' (c + 5) i = y1 (c + 5) i ∧ y' (c + 6) i = y1 (c + 6) i := fun i hi => by
                have := t3 i hi
                rw [fk_u_o (by omega), fk_u_o (by omega), fk_u_o (by omega), fk_u_o (by omega), fk_u_o (by omega), fk_u_o (by omega), fk_u_o (by omega), fk_u_o (by omega)] at this
                exact this
              have r2 : ∀ i, i < s + (lz_kw x.2).length + x.2.2.2.1.length → y' (c + 1) i = y1 (c + 1) i ∧ y' (c + 2) i = y1 (c + 2) i := fun i hi => by
                have := t4 i hi
                rw [fk_u_o (by omega), fk_u_o (by omega), fk_u_o (by omega), fk_u_o (by omega)] at this
                exact this
              obtain ⟨m3, m4, m5, m6⟩ := r1 m (by omega)
              refine ⟨t0, by rw [t1, List.length_cons, show m + 1 + Q.length = m + (Q.length + 1) by omega], ⟨⟨s, m3.trans p3, m4.trans p4, m5.trans p5, m6.trans p6, f24, lz_hc_c _ _ (fun i i1 i2 => r2 i (by omega)) p7, lz_hc_c _ _ (fun i i1 i2 => r2 i (by omega)) p8⟩, t2⟩, fun i hi => ?_, fun i hi => ?_⟩
              · obtain ⟨a3, a4, a5, a6⟩ := r1 i (by omega)
                obtain ⟨b3, b4, b5, b6⟩ := p9.1 i hi
                exact ⟨a3.trans b3, a4.trans b4, a5.trans b5, a6.trans b6⟩
              · exact ⟨(r2 i (by omega)).1.trans (p9.2 i hi).1, (r2 i (by omega)).2.trans (p9.2 i hi).2⟩
        · rw [if_neg c2]
          have hsg := mX4_sign_f (N := N) (l := l) (d := d + 25) p1 (show 59 < 256 by omega) (fun z => c2 z.2)
          have hf := lz_ft_cl hn (show 1 ≤ 1 by omega) (by omega) q2
          refine ⟨fk_flt 1 x.1, y1, ?_, e2, rfl, hf⟩
          have x250 : x.1 < 250 := by omega
          simp (disch := first | assumption | omega) only [rX4_read, e1, f4, f3, hsg, hf, Option.bind_some, Option.toList_some, Option.toList_none, List.cons_append, List.nil_append, fk_b_0, nI_add, Nat.add_zero, Nat.zero_add, not_true_eq_false, not_false_eq_true, if_true, if_false, sI_le_t, sI_le_f, sI_lt_t, sI_lt_f, sI_eq_t, sI_eq_f, sI_rem, sI_div, sI_m1a, sI_m1b, sI_m1c, sI_m1d, sI_m1e, sI_m1f, sI_m2a, sI_m2b, sI_sub, pk_mul, sI_dec, fk_u_s, fk_u_o, sI_dec0, sI_z, sI_md, Bool.false_eq_true, Nat.reduceAdd, Nat.reduceMul, Nat.reduceSub, Nat.reduceMod, Nat.reduceDiv]
theorem mX4_read (hc : c = 2 ∨ c = 10) (h1 : 1 ≤ n) (hn : n ≤ 240) (hnt : n ≤ t) (ht : t ≤ 260) (e26 : y 26 1 = nI t) (hb : ∀ i, i < n → y 27 i = nI (bt i)) (b6 : ∀ i, bt i < 256) : ∃ v y', fk_ev (d + 27) qX4_read 0 [.ref 28, .int ((nI n)), .ref c, .null, .null] [] (fk_E N y l) = some (some (.int v), fk_E N y' l) ∧ (∀ k, k ≠ 28 → k ≠ 29 → ¬ (c ≤ k ∧ k ≤ c + 6) → y' k = y k) ∧ (match lz_L bt n (n + 1) 0 0 with
    | .inl e => v = e ∧ ¬ e = nI 0
    | .inr Q => v = nI 0 ∧ y' c 8 = nI Q.length ∧ lz_hq y' c 0 Q) := by
  have hat := (lz_law hc).1
  obtain ⟨Y, eY⟩ : ∃ Y, Y = fk_u (fk_u (fk_u (fk_u y 28 2 (nI c)) c 7 (nI 0)) c 8 (nI 0)) 28 3 (nI n) := ⟨_, rfl⟩
  have hclr := mX3_clear (N := N) (l := l) (d := d + 26) (y := fk_u y 28 2 (nI c)) hc
  have cl31 : c < 2 ^ 31 := by omega
  have ncl : (nI c).toNatClampNeg = c := nI_clamp (by omega)
  have st1 : fk_ev (d + 27) qX4_read 0 [.ref 28, .int ((nI n)), .ref c, .null, .null] [] (fk_E N y l) = fk_ev (d + 27) qX4_read 33 [.ref 28, .int (nI n), .ref c, .int (nI 0), .null] [] (fk_E N Y l) := by
    rw [eY]
    simp (disch := first | assumption | omega) only [rX4_read, ncl, hclr, Option.bind_some, Option.toList_some, Option.toList_none, List.cons_append, List.nil_append, fk_b_0, nI_add, Nat.add_zero, Nat.zero_add, not_true_eq_false, not_false_eq_true, if_true, if_false, sI_le_t, sI_le_f, sI_lt_t, sI_lt_f, sI_eq_t, sI_eq_f, sI_rem, sI_div, sI_m1a, sI_m1b, sI_m1c, sI_m1d, sI_m1e, sI_m1f, sI_m2a, sI_m2b, sI_sub, pk_mul, sI_dec, fk_u_s, fk_u_o, sI_dec0, sI_z, sI_md, Bool.false_eq_true, Nat.reduceAdd, Nat.reduceMul, Nat.reduceSub, Nat.reduceMod, Nat.reduceDiv]
  have Y3 : Y 28 3 = nI n := by rw [eY, fk_u_s]
  have YF : ∀ k, k ≠ 28 → k ≠ c → Y k = y k := fun k k1 k2 => by rw [eY, fk_u_rowo k1, fk_u_rowo k2, fk_u_rowo k2, fk_u_rowo k1]
  have lp := fk_loopr (fun i (z : Nat → Nat → Int32) => fk_ev (d + 27) qX4_read 33 [.ref 28, .int (nI n), .ref c, .int (nI i), .null] [] (fk_E N z l)) (fun i z => (∀ k, k ≠ 29 → z k = Y k) ∧ ∀ j, j < i → z 29 j = nI (bt j)) n (fun i z hi hI => by
    have z26 : z 26 1 = nI t := by rw [hI.1 26 (by omega), YF 26 (by omega) (by omega)]; exact e26
    have z27 : z 27 i = nI (bt i) := by rw [hI.1 27 (by omega), YF 27 (by omega) (by omega)]; exact hb i hi
    have z3 : z 28 3 = nI n := by rw [hI.1 28 (by omega)]; exact Y3
    have hba := mX10_byteAt (N := N) (l := l) (d := d + 25) (k := i) z26 ht (by omega)
    rw [z27] at hba
    refine ⟨fk_u z 29 i (nI (bt i)), ?_, fun k hk => by rw [fk_u_rowo hk]; exact hI.1 k hk, fun j hj => ?_⟩
    · rw [hX4_read_33]
      simp (disch := first | assumption | omega) only [rX4_read, z3, hba, Option.bind_some, Option.toList_some, Option.toList_none, List.cons_append, List.nil_append, fk_b_0, nI_add, Nat.add_zero, Nat.zero_add, not_true_eq_false, not_false_eq_true, if_true, if_false, sI_le_t, sI_le_f, sI_lt_t, sI_lt_f, sI_eq_t, sI_eq_f, sI_rem, sI_div, sI_m1a, sI_m1b, sI_m1c, sI_m1d, sI_m1e, sI_m1f, sI_m2a, sI_m2b, sI_sub, pk_mul, sI_dec, fk_u_s, fk_u_o, sI_dec0, sI_z, sI_md, Bool.false_eq_true, Nat.reduceAdd, Nat.reduceMul, Nat.reduceSub, Nat.reduceMod, Nat.reduceDiv]
    · by_cases e : j = i
      · subst e; rw [fk_u_s]
      · rw [fk_u_o (by omega)]; exact hI.2 j (by omega)) n 0 Y (Nat.zero_add _) ⟨fun _ _ => rfl, fun j hj => absurd hj (Nat.not_lt_zero _)⟩
  obtain ⟨Z, l1, l2, l3⟩ := lp
  obtain ⟨V, eV⟩ : ∃ V, V = fk_u (fk_u (fk_u Z 29 n (-1)) 28 4 (nI 0)) 28 5 (nI (bt 0)) := ⟨_, rfl⟩
  have Z3 : Z 28 3 = nI n := by rw [l2 28 (by omega)]; exact Y3
  have z0 := l3 0 (by omega)
  have st2 : fk_ev (d + 27) qX4_read 33 [.ref 28, .int (nI n), .ref c, .int (nI n), .null] [] (fk_E N Z l) = fk_ev (d + 27) qX4_read 88 [.ref 28, .int (nI n), .ref c, .int (nI 0), .null] [] (fk_E N V l) := by
    rw [hX4_read_33, eV]
    simp (disch := first | assumption | omega) only [rX4_read, Z3, z0, Option.bind_some, Option.toList_some, Option.toList_none, List.cons_append, List.nil_append, fk_b_0, nI_add, Nat.add_zero, Nat.zero_add, not_true_eq_false, not_false_eq_true, if_true, if_false, sI_le_t, sI_le_f, sI_lt_t, sI_lt_f, sI_eq_t, sI_eq_f, sI_rem, sI_div, sI_m1a, sI_m1b, sI_m1c, sI_m1d, sI_m1e, sI_m1f, sI_m2a, sI_m2b, sI_sub, pk_mul, sI_dec, fk_u_s, fk_u_o, sI_dec0, sI_z, sI_md, Bool.false_eq_true, Nat.reduceAdd, Nat.reduceMul, Nat.reduceSub, Nat.reduceMod, Nat.reduceDiv]
  have VF : ∀ k, k ≠ 28 → k ≠ 29 → V k = Z k := fun k k1 k2 => by rw [eV, fk_u_rowo k1, fk_u_rowo k1, fk_u_rowo k2]
  have V28 : ∀ i, i ≠ 4 → i ≠ 5 → V 28 i = Z 28 i := fun i i1 i2 => by rw [eV, fk_u_o (by omega), fk_u_o (by omega), fk_u_o (by omega)]
  have ctV : lz_ct bt n c 0 0 V := by
    refine ⟨hc, ?_, ?_, ?_, ?_, fun i hi => ?_, b6, Nat.zero_le _, hn, ?_, by omega⟩
    · rw [V28 2 (by omega) (by omega), l2 28 (by omega), eY, fk_u_o (by omega), fk_u_o (by omega), fk_u_o (by omega), fk_u_s]
    · rw [V28 3 (by omega) (by omega)]; exact Z3
    · rw [eV, fk_u_o (by omega), fk_u_s]
    · rw [eV, fk_u_s]; exact (if_pos (by omega)).symm
    · rw [eV, fk_u_o (by omega), fk_u_o (by omega)]
      by_cases e : i = n
      · subst e; rw [fk_u_s]; exact (if_neg (by omega)).symm
      · rw [fk_u_o (by omega), l3 i (by omega)]; exact (if_pos (by omega)).symm
    · rw [VF c (by omega) (by omega), l2 c (by omega), eY, fk_u_o (by omega), fk_u_o (by omega), fk_u_s]
  have V8 : V c 8 = nI 0 := by rw [VF c (by omega) (by omega), l2 c (by omega), eY, fk_u_o (by omega), fk_u_s]
  obtain ⟨v, y', f1, f2, f3⟩ := mX4_read_l (N := N) (l := l) (d := d) (nn := .int (nI n)) hc hn (n + 1) 0 0 0 V .null (by omega) (by omega) ctV (Nat.le_refl _) V8
  refine ⟨v, y', ?_, fun k k1 k2 k3 => ?_, ?_⟩
  · rw [st1, l1, st2, f1]
  · rw [f2.1 k k1 k3, VF k k1 k2, l2 k k2, YF k k1 (by omega)]
  · cases e : lz_L bt n (n + 1) 0 0 with
    | inl f => rw [e] at f3; exact f3
    | inr Q =>
      rw [e] at f3
      obtain ⟨t0, t1, t2, _⟩ := f3
      rw [Nat.zero_add] at t1
      exact ⟨t0, t1, t2⟩
theorem cR_law (hR : cR S y) (hf : ∀ k, (k = 0 ∨ (19 ≤ k ∧ k ≤ 24) ∨ (33 ≤ k ∧ k ≤ 233) ∨ k = 235 ∨ k = 237 ∨ k = 247 ∨ k = 249 ∨ (250 ≤ k ∧ k ≤ 254)) → y2 k = y k) (h12 : y2 1 2 = y 1 2) (h246 : ∀ i, (i = 3 ∨ i = 33 ∨ i = 36 ∨ i = 49) → y2 246 i = y 246 i) (ht : cR_tp y2) (hl : cR_lw y2) : cR S y2 := by
  obtain ⟨r0, r1, r2, ⟨n, H, p1, p2, p3, p4⟩, r4, r5, r6, r7, r8, r9⟩ := hR
  have e3 : y2 246 3 = y 246 3 := h246 3 (by omega)
  have e25 : ∀ c, 250 ≤ c → c ≤ 254 → y2 c = y c := fun c h1 h2 => hf c (by omega)
  refine ⟨(hf 0 (by omega)).trans r0, ab_rv_c e3 e25 r1, ck_nt_c e3 e25 (fun c h1 h2 => hf c (by omega)) r2, ?_, ?_, ht, hl, (h246 33 (by omega)).trans r7, (h246 36 (by omega)).trans r8, fun j hj => by rw [hf _ (by omega)]; exact r9 j hj⟩
  · rw [hf 247 (by omega)]
    exact cR_pl_c e3 (fun k k1 k2 => hf k (by omega)) (hf 235 (by omega)) ⟨n, H, p1, p2, p3, p4⟩
  · obtain ⟨q1, q2⟩ := r4
    refine ⟨fun j hj => by rw [hf _ (by omega)]; exact q1 j hj, ?_⟩
    rw [h12, h246 49 (by omega), hf 249 (by omega)]
    rcases q2 with q2 | ⟨q2, q3, q4⟩
    · exact Or.inl q2
    · exact Or.inr ⟨q2, q3, cR_pl_c e3 (fun k k1 k2 => hf k (by omega)) (hf 237 (by omega)) q4⟩
theorem cl_law (hR : cR S y) {u : Int32} : ∃ a y1 y2, fk_ev (d + 40) qX11_law 0 [.ref 1, .int u, .null, .null] [] (fk_E N y l) = some (some (.int a), fk_E N y1 l) ∧ fk_ev (d + 40) qX12_law 0 [.ref 246, .int u, .null, .null] [] (fk_E N y1 l) = some (some (.int a), fk_E N y2 l) ∧ cR S y2 := by
  obtain ⟨r0, r1, r2, ⟨n, H, p1, p2, p3, p4⟩, r4, ⟨t, t1, t2, t3, t4⟩, ⟨c, W, w1, w2, w3, w4, w5, w6⟩, r7, r8, r9⟩ := id hR
  by_cases hu : nI 1 ≤ u ∧ u ≤ nI 240
  · obtain ⟨m, hm6, rfl⟩ := fk_ixn2 (Int32.le_trans (by decide) hu.1) hu.2 (by omega)
    have hm1 : 1 ≤ m := (nI_leI (by omega) (by omega)).mp hu.1
    by_cases hmt : m ≤ t
    · have hc' : 12 - c = 2 ∨ 12 - c = 10 := by omega
      have hat' := (lz_law hc').1
      have hcl : (y 1 1).toNatClampNeg = 12 - c := by rw [w3, nI_clamp (by omega)]
      have hcl0 : (y 1 0).toNatClampNeg = c := by rw [w2, nI_clamp (by omega)]
      obtain ⟨v, y1, e1, e2, e3⟩ := mX4_read (N := N) (l := l) (d := d + 12) (y := y) (bt := fun i => fk_bn (y 255 i)) (n := m) (t := t) hc' hm1 hm6 hmt t1 t2 (fun i hi => by rw [t4 i (by omega)]; exact fk_bn_e) (fun i => fk_bn_lt)
      -- the reference, on whatever the class has left
      have ref : ∀ Y : Nat → Nat → Int32, (∀ k, 246 ≤ k → Y k = y k) → ∃ a y2, fk_ev (d + 40) qX12_law 0 [.ref 246, .int ((nI m)), .null, .null] [] (fk_E N Y l) = some (some (.int a), fk_E N y2 l) ∧ y2 246 10 = nI 0 ∧ (∀ i, i < 10 ∨ 19 < i → y2 246 i = Y 246 i) ∧ lz_xr m Y y2 a (lz_L (fun i => fk_bn (y 255 i)) m (m + 1) 0 0) := by
        intro Y hY
        exact mX12_law (N := N) (l := l) (d := d + 32) (y := Y) (bt := fun i => fk_bn (y 255 i)) hm1 hm6 hmt t1 (by rw [hY 246 (by omega)]; exact t3) (fun i hi => by rw [hY 255 (by omega)]; exact fk_bn_e) (fun i => fk_bn_lt)
      have hok := lz_L_ok (bt := fun i => fk_bn (y 255 i)) hm6 (m + 1) 0 0 (Nat.zero_le _) (by omega)
      cases eL : lz_L (fun i => fk_bn (y 255 i)) m (m + 1) 0 0 with
      | inl f =>
        rw [eL] at e3
        obtain ⟨rfl, e4⟩ := e3
        obtain ⟨Y, eY⟩ : ∃ Y, Y = fk_u y1 26 1 (nI 0) := ⟨_, rfl⟩
        have YF : ∀ k, k ≠ 26 → k ≠ 28 → k ≠ 29 → ¬ (12 - c ≤ k ∧ k ≤ 12 - c + 6) → Y k = y k := fun k k0 k1 k2 k3 => by rw [eY, fk_u_rowo k0]; exact e2 k k1 k2 k3
        obtain ⟨a, y2, f1, f2, f3, f4⟩ := ref Y fun k hk => YF k (by omega) (by omega) (by omega) (by omega)
        rw [eL] at f4
        obtain ⟨rfl, f5, f6⟩ := f4
        have F : ∀ k, k ≠ 26 → k ≠ 28 → k ≠ 29 → k ≠ 246 → ¬ (12 - c ≤ k ∧ k ≤ 12 - c + 6) → ¬ (256 ≤ k ∧ k ≤ 261) → y2 k = y k := fun k k0 k1 k2 k3 k4 k5 => by rw [f5 k k3 k5]; exact YF k k0 k1 k2 k4
        have F246 : ∀ i, i < 10 ∨ 18 < i → y2 246 i = y 246 i := fun i hi => by
          by_cases e19 : i = 19
          · rw [e19, f6, YF 246 (by omega) (by omega) (by omega) (by omega)]
          · rw [f3 i (by omega), YF 246 (by omega) (by omega) (by omega) (by omega)]
        refine ⟨a, Y, y2, ?_, f1, cR_law hR (fun k hk => F k (by omega) (by omega) (by omega) (by omega) (by omega) (by omega)) (by rw [F 1 (by omega) (by omega) (by omega) (by omega) (by omega) (by omega)]) (fun i hi => F246 i (by omega)) ⟨0, by omega, by rw [f5 26 (by omega) (by omega), eY, fk_u_s], f2, fun i hi => absurd hi (Nat.not_lt_zero _)⟩ ⟨c, W, w1, by rw [F 1 (by omega) (by omega) (by omega) (by omega) (by omega) (by omega)]; exact w2, by rw [F 1 (by omega) (by omega) (by omega) (by omega) (by omega) (by omega)]; exact w3, ck_LC_c (fun k k1 k2 => F k (by omega) (by omega) (by omega) (by omega) (by omega) (by omega)) (by rw [F c (by omega) (by omega) (by omega) (by omega) (by omega) (by omega)]) (by rw [F c (by omega) (by omega) (by omega) (by omega) (by omega) (by omega)]) w4, fk_LR_c (fun k k1 k2 => F k (by omega) (by omega) (by omega) (by omega) (by omega) (by omega)) (F246 19 (by omega)) w5, by rw [F c (by omega) (by omega) (by omega) (by omega) (by omega) (by omega), F246 19 (by omega)]; exact w6⟩⟩
        rw [eY]
        simp (disch := first | assumption | omega) only [rX11_law, t2, hcl, e1, mX10_clear, e4, Option.bind_some, Option.toList_some, Option.toList_none, List.cons_append, List.nil_append, fk_b_0, nI_add, Nat.add_zero, Nat.zero_add, not_true_eq_false, not_false_eq_true, if_true, if_false, sI_le_t, sI_le_f, sI_lt_t, sI_lt_f, sI_eq_t, sI_eq_f, sI_rem, sI_div, sI_m1a, sI_m1b, sI_m1c, sI_m1d, sI_m1e, sI_m1f, sI_m2a, sI_m2b, sI_sub, pk_mul, sI_dec, fk_u_s, fk_u_o, sI_dec0, sI_z, sI_md, Bool.false_eq_true, Nat.reduceAdd, Nat.reduceMul, Nat.reduceSub, Nat.reduceMod, Nat.reduceDiv]
      | inr Q =>
        rw [eL] at e3 hok
        obtain ⟨rfl, e4, e5⟩ := e3
        obtain ⟨k1, k2, k3, ⟨Ms, k4⟩, k5⟩ := hok
        obtain ⟨Y, eY⟩ : ∃ Y, Y = fk_u (fk_u (fk_u y1 26 1 (nI 0)) 1 0 (nI (12 - c))) 1 1 (nI c) := ⟨_, rfl⟩
        have YF : ∀ k, k ≠ 1 → k ≠ 26 → k ≠ 28 → k ≠ 29 → ¬ (12 - c ≤ k ∧ k ≤ 12 - c + 6) → Y k = y k := fun k k' k0 k1 k2 k3 => by rw [eY, fk_u_rowo k', fk_u_rowo k', fk_u_rowo k0]; exact e2 k k1 k2 k3
        obtain ⟨a, y2, f1, f2, f3, f4⟩ := ref Y fun k hk => YF k (by omega) (by omega) (by omega) (by omega) (by omega)
        rw [eL] at f4
        obtain ⟨rfl, f5, f6, f7⟩ := f4
        have F : ∀ k, k ≠ 1 → k ≠ 26 → k ≠ 28 → k ≠ 29 → k ≠ 246 → ¬ (12 - c ≤ k ∧ k ≤ 12 - c + 6) → ¬ (256 ≤ k ∧ k ≤ 266) → y2 k = y k := fun k k' k0 k1 k2 k3 k4 k5 => by rw [f5 k k3 k5]; exact YF k k' k0 k1 k2 k4
        have C : ∀ k, 12 - c ≤ k → k ≤ 12 - c + 6 → y2 k = y1 k := fun k k1 k2 => by rw [f5 k (by omega) (by omega), eY, fk_u_rowo (by omega), fk_u_rowo (by omega), fk_u_rowo (by omega)]
        have y11 : y1 1 1 = y 1 1 := by rw [e2 1 (by omega) (by omega) (by omega)]
        have y10 : y1 1 0 = y 1 0 := by rw [e2 1 (by omega) (by omega) (by omega)]
        have y21 : ∀ i, y2 1 i = Y 1 i := fun i => by rw [f5 1 (by omega) (by omega)]
        have h8 : y2 (12 - c) 8 = nI Q.length := by rw [C (12 - c) (by omega) (by omega)]; exact e4
        refine ⟨nI Q.length, Y, y2, ?_, f1, cR_law hR (fun k hk => F k (by omega) (by omega) (by omega) (by omega) (by omega) (by omega) (by omega)) (by rw [y21, eY, fk_u_o (by omega), fk_u_o (by omega), fk_u_o (by omega), e2 1 (by omega) (by omega) (by omega)]) (fun i hi => by rw [f3 i (by omega), YF 246 (by omega) (by omega) (by omega) (by omega) (by omega)]) ⟨0, by omega, by rw [f5 26 (by omega) (by omega), eY, fk_u_o (by omega), fk_u_o (by omega), fk_u_s], f2, fun i hi => absurd hi (Nat.not_lt_zero _)⟩ ⟨12 - c, lz_W Ms, hc', by rw [y21, eY, fk_u_o (by omega), fk_u_s], by rw [y21, eY, fk_u_s, show 12 - (12 - c) = c by omega], lz_LC hc' (by omega) h8 (lz_hq_c (fun k k1 k2 => C k (by omega) (by omega)) Q 0 e5) k4, lz_LR (by omega) f6 f7 k4, by rw [h8, f6]⟩⟩
        have n31 : 12 - c < 2 ^ 31 := by omega
        have c31 : c < 2 ^ 31 := by omega
        have ncl : (nI (12 - c)).toNatClampNeg = 12 - c := nI_clamp (by omega)
        have hcl1 : (y1 1 1).toNatClampNeg = 12 - c := by rw [y11]; exact hcl
        have hcl2 : (y1 1 0).toNatClampNeg = c := by rw [y10]; exact hcl0
        rw [eY]
        generalize 12 - c = C' at *
        simp (disch := first | assumption | omega) only [rX11_law, t2, hcl, e1, mX10_clear, hcl1, hcl2, ncl, e4, Option.bind_some, Option.toList_some, Option.toList_none, List.cons_append, List.nil_append, fk_b_0, nI_add, Nat.add_zero, Nat.zero_add, not_true_eq_false, not_false_eq_true, if_true, if_false, sI_le_t, sI_le_f, sI_lt_t, sI_lt_f, sI_eq_t, sI_eq_f, sI_rem, sI_div, sI_m1a, sI_m1b, sI_m1c, sI_m1d, sI_m1e, sI_m1f, sI_m2a, sI_m2b, sI_sub, pk_mul, sI_dec, fk_u_s, fk_u_o, sI_dec0, sI_z, sI_md, Bool.false_eq_true, Nat.reduceAdd, Nat.reduceMul, Nat.reduceSub, Nat.reduceMod, Nat.reduceDiv]
    · refine ⟨(-1), y, y, ?_, ?_, hR⟩
      · simp (disch := first | assumption | omega) only [rX11_law, t2, Option.bind_some, Option.toList_some, Option.toList_none, List.cons_append, List.nil_append, fk_b_0, nI_add, Nat.add_zero, Nat.zero_add, not_true_eq_false, not_false_eq_true, if_true, if_false, sI_le_t, sI_le_f, sI_lt_t, sI_lt_f, sI_eq_t, sI_eq_f, sI_rem, sI_div, sI_m1a, sI_m1b, sI_m1c, sI_m1d, sI_m1e, sI_m1f, sI_m2a, sI_m2b, sI_sub, pk_mul, sI_dec, fk_u_s, fk_u_o, sI_dec0, sI_z, sI_md, Bool.false_eq_true, Nat.reduceAdd, Nat.reduceMul, Nat.reduceSub, Nat.reduceMod, Nat.reduceDiv]
      · simp (disch := first | assumption | omega) only [rX12_law, mX12_in, and_self, t3, Option.bind_some, Option.toList_some, Option.toList_none, List.cons_append, List.nil_append, fk_b_0, nI_add, Nat.add_zero, Nat.zero_add, not_true_eq_false, not_false_eq_true, if_true, if_false, sI_le_t, sI_le_f, sI_lt_t, sI_lt_f, sI_eq_t, sI_eq_f, sI_rem, sI_div, sI_m1a, sI_m1b, sI_m1c, sI_m1d, sI_m1e, sI_m1f, sI_m2a, sI_m2b, sI_sub, pk_mul, sI_dec, fk_u_s, fk_u_o, sI_dec0, sI_z, sI_md, Bool.false_eq_true, Nat.reduceAdd, Nat.reduceMul, Nat.reduceSub, Nat.reduceMod, Nat.reduceDiv]
  · have hin := mX12_in (d := d + 39) (h := fk_E N y l) (v := u) (a := nI 1) (b := nI 240)
    rw [fk_b_f hu] at hin
    refine ⟨(-1), y, y, ?_, ?_, hR⟩
    · by_cases c1 : u < nI 1
      · simp (disch := first | assumption | omega) only [rX11_law, c1, Option.bind_some, Option.toList_some, Option.toList_none, List.cons_append, List.nil_append, fk_b_0, nI_add, Nat.add_zero, Nat.zero_add, not_true_eq_false, not_false_eq_true, if_true, if_false, sI_le_t, sI_le_f, sI_lt_t, sI_lt_f, sI_eq_t, sI_eq_f, sI_rem, sI_div, sI_m1a, sI_m1b, sI_m1c, sI_m1d, sI_m1e, sI_m1f, sI_m2a, sI_m2b, sI_sub, pk_mul, sI_dec, fk_u_s, fk_u_o, sI_dec0, sI_z, sI_md, Bool.false_eq_true, Nat.reduceAdd, Nat.reduceMul, Nat.reduceSub, Nat.reduceMod, Nat.reduceDiv]
      · have c2 : nI 240 < u := Int32.not_le.mp fun z => hu ⟨Int32.not_lt.mp c1, z⟩
        simp (disch := first | assumption | omega) only [rX11_law, c1, c2, Option.bind_some, Option.toList_some, Option.toList_none, List.cons_append, List.nil_append, fk_b_0, nI_add, Nat.add_zero, Nat.zero_add, not_true_eq_false, not_false_eq_true, if_true, if_false, sI_le_t, sI_le_f, sI_lt_t, sI_lt_f, sI_eq_t, sI_eq_f, sI_rem, sI_div, sI_m1a, sI_m1b, sI_m1c, sI_m1d, sI_m1e, sI_m1f, sI_m2a, sI_m2b, sI_sub, pk_mul, sI_dec, fk_u_s, fk_u_o, sI_dec0, sI_z, sI_md, Bool.false_eq_true, Nat.reduceAdd, Nat.reduceMul, Nat.reduceSub, Nat.reduceMod, Nat.reduceDiv]
    · simp (disch := first | assumption | omega) only [rX12_law, hin, Option.bind_some, Option.toList_some, Option.toList_none, List.cons_append, List.nil_append, fk_b_0, nI_add, Nat.add_zero, Nat.zero_add, not_true_eq_false, not_false_eq_true, if_true, if_false, sI_le_t, sI_le_f, sI_lt_t, sI_lt_f, sI_eq_t, sI_eq_f, sI_rem, sI_div, sI_m1a, sI_m1b, sI_m1c, sI_m1d, sI_m1e, sI_m1f, sI_m2a, sI_m2b, sI_sub, pk_mul, sI_dec, fk_u_s, fk_u_o, sI_dec0, sI_z, sI_md, Bool.false_eq_true, Nat.reduceAdd, Nat.reduceMul, Nat.reduceSub, Nat.reduceMod, Nat.reduceDiv]
end CR5
