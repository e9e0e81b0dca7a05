section CL1
variable {N : Nat} {S : Nat → Int32} {v y y1 y2 : Nat → Nat → Int32} {l : Nat → Nat → Int64} {d p n H : Nat} {A A' : Nat → Int32}
theorem n8 : fk_at 33 8 := (ck_pp_at (Or.inl rfl)).1
theorem nc0 : fk_cr 33 0 = 34 := by decide
theorem nc1 : fk_cr 33 1 = 35 := by decide
theorem n_h {j : Nat} (hj : j < 64) : fk_at (36 + j) 0 := ck_pp_h (p := 33) (Or.inl rfl) hj
theorem ck_cs_of {T : Nat → Int32} {c : Nat} (h : ck_pr p y T A) : ck_cs y p c T (nI 0) n y (A, fun j => y (p + 3 + j) 14, y 238 7 ||| nI 0, y 238 6) := ⟨h, fun _ _ => rfl, rfl, rfl, fun _ _ _ => rfl, fun _ _ _ _ _ => rfl⟩
theorem ab_wp_c (h1 : ∀ j, j < n → A' (128 + j) = A (128 + j)) (h2 : ∀ i, 840 ≤ i → A' i = A i) (h : ab_wp n H A) : ab_wp n H A' := by
  refine ⟨fun j hj => by rw [h1 j hj]; exact h.1 j hj, fun k j k1 k2 k3 k4 => ?_⟩
  rw [h2 _ (by omega)]
  exact h.2 k j k1 k2 k3 fun hj => by have := k4 hj; rw [h1 j hj] at this; exact this
theorem cR_upd (hR : cR S y) (h1 : ∀ k, ¬ (33 ≤ k ∧ k < 100) → y1 k = y k) (h2 : ∀ k, k ≠ 247 → y2 k = y1 k) (hA : y2 247 = A') (ho : ab_ok y n H A') (hw : ab_wp n H A') (hp : ck_pr 33 y1 (fun _ => nI 0) A') (h8 : ∀ i, 840 ≤ i → A' i = y 247 i) : cR S y2 := by
  obtain ⟨r0, r1, r2, ⟨n0, H0, p1, p2, p3, p4⟩, r4, r5, r6, r7, r8, r9⟩ := id hR
  refine cR_keep hR (fun k hk => by rw [h2 k (by omega), h1 k (by omega)]) (fun i hi => by rw [h2 246 (by omega), h1 246 (by omega)]) (fun j hj => by rw [h2 _ (by omega), h1 _ (by omega)]; exact r9 j hj) ?_
  rw [hA]
  refine ⟨n, H, ab_ok_c (by rw [h2 246 (by omega), h1 246 (by omega)]) ho, hw, ck_pr_k hp fun k k1 k2 => h2 k (by omega), fun i hi => ?_⟩
  rw [h2 235 (by omega), h1 235 (by omega), p4 i hi, h8 _ (by omega)]
theorem mX11_seed_no {x : Int32} (hg : ¬ (nI 0 ≤ x ∧ x < nI 65536)) : fk_ev (d + 1) qX11_seed 0 [.ref 1, .int x] [] (fk_E N y l) = some (some (.int ((nI 0))), fk_E N y l) := by
  simp (disch := first | assumption | omega) only [rX11_seed, mX11_within, hg, Option.bind_some, Option.toList_some, Option.toList_none, List.cons_append, List.nil_append, fk_b_0, nI_add, Nat.add_zero, Nat.zero_add, not_true_eq_false, not_false_eq_true, if_true, if_false, sI_le_t, sI_le_f, sI_lt_t, sI_lt_f, sI_eq_t, sI_eq_f, sI_rem, sI_div, sI_m1a, sI_m1b, sI_m1c, sI_m1d, sI_m1e, sI_m1f, sI_m2a, sI_m2b, sI_sub, pk_mul, sI_dec, fk_u_s, fk_u_o, sI_dec0, sI_z, sI_md, Bool.false_eq_true, Nat.reduceAdd, Nat.reduceMul, Nat.reduceSub, Nat.reduceMod, Nat.reduceDiv]
theorem mX11_seed_ok {x : Nat} (hx : x < 65536) : fk_ev (d + 1) qX11_seed 0 [.ref 1, .int ((nI x))] [] (fk_E N y l) = some (some (.int ((nI 1))), fk_E N (fk_u y 33 4 (nI x)) l) := by
  have h8 := n8
  simp (disch := first | assumption | omega) only [rX11_seed, mX11_within, and_self, Option.bind_some, Option.toList_some, Option.toList_none, List.cons_append, List.nil_append, fk_b_0, nI_add, Nat.add_zero, Nat.zero_add, not_true_eq_false, not_false_eq_true, if_true, if_false, sI_le_t, sI_le_f, sI_lt_t, sI_lt_f, sI_eq_t, sI_eq_f, sI_rem, sI_div, sI_m1a, sI_m1b, sI_m1c, sI_m1d, sI_m1e, sI_m1f, sI_m2a, sI_m2b, sI_sub, pk_mul, sI_dec, fk_u_s, fk_u_o, sI_dec0, sI_z, sI_md, Bool.false_eq_true, Nat.reduceAdd, Nat.reduceMul, Nat.reduceSub, Nat.reduceMod, Nat.reduceDiv]
theorem cl_seed (hR : cR S y) {x : Int32} : ∃ a y1 y2, fk_ev (d + 8) qX11_seed 0 [.ref 1, .int x] [] (fk_E N y l) = some (some (.int a), fk_E N y1 l) ∧ fk_ev (d + 8) qX12_seed 0 [.ref 246, .int x] [] (fk_E N y1 l) = some (some (.int a), fk_E N y2 l) ∧ cR S y2 := by
  obtain ⟨r0, r1, r2, ⟨n, H, p1, p2, p3, p4⟩, r4, r5, r6, r7, r8, r9⟩ := id hR
  by_cases hg : nI 0 ≤ x ∧ x < nI 65536
  · obtain ⟨x, hx, rfl⟩ := fk_ixn hg.1 hg.2 (by omega)
    have hg2 : nI 0 ≤ nI x ∧ nI x ≤ nI 65535 := ⟨nI_le (by omega) (by omega), nI_le (by omega) (by omega)⟩
    have e := mX12_seed (N := N) (l := l) (d := d + 7) (y := fk_u y 33 4 (nI x)) (x := nI x)
    rw [if_pos hg2, fk_b_t hg2] at e
    have hn := p1.1
    refine ⟨nI 1, _, _, mX11_seed_ok (d := d + 7) hx, e, cR_upd (A' := fk_w (y 247) 834 (nI x)) hR (fun k hk => fk_u_rowo (by omega)) (fun k hk => fk_u_rowo hk) (by rw [fk_u_row, fk_u_rowo (by omega)]) (ab_ok_lot p1 hx) (ab_wp_c (fun j hj => fk_w_o (by omega)) (fun i hi => fk_w_o (by omega)) p2) (ck_cs_lot (c := 2) (n := n) (Or.inl rfl) (ck_cs_of p3) p1.1 (ab_ok_n p1)).1 fun i hi => fk_w_o (by omega)⟩
  · have hg2 : ¬ (nI 0 ≤ x ∧ x ≤ nI 65535) := fun z => hg ⟨z.1, by
      obtain ⟨k, hk, rfl⟩ := fk_ixn2 z.1 z.2 (by omega)
      exact nI_lt (by omega) (by omega)⟩
    have e := mX12_seed (N := N) (l := l) (d := d + 7) (y := y) (x := x)
    rw [if_neg hg2, fk_b_f hg2] at e
    exact ⟨nI 0, y, y, mX11_seed_no (d := d + 7) hg, e, hR⟩
/-- whether a half lives, in the class -/
theorem n_liv {j : Int32} (hn : n ≤ 64) (hm : A 833 = nI n) (hp : ck_pr 33 y (fun _ => nI 0) A) : fk_ev (d + 1) qX8_isLiving 0 [.ref 33, .int j] [] (fk_E N y l) = some (some (.int ((fk_b ((nI 0 ≤ j ∧ j < nI n) ∧ A (192 + j.toNatClampNeg) = nI 1)))), fk_E N y l) := by
  have eb : y 33 2 = nI n := hp.1.1.trans hm
  by_cases hj : nI 0 ≤ j ∧ j < nI n
  · obtain ⟨k, hk, rfl⟩ := fk_ixn hj.1 hj.2 (by omega)
    have a4 := (hp.2.2.1 k (by omega) (by rw [ab_n_of hn hm]; exact hk)).2.2.2.1
    rw [mX8_isLivingN (Or.inl rfl) hn eb hk a4, nI_clamp (by omega)]
    by_cases h : A (192 + k) = nI 1
    · rw [fk_b_t h, fk_b_t ⟨hj, h⟩]
    · rw [fk_b_f h, fk_b_f fun z => h z.2]
  · rw [mX8_isLiving_no (Or.inl rfl) eb hj, fk_b_f fun z => hj z.1]
theorem mX11_owes_no {j c : Int32} (hn : n ≤ 64) (hm : A 833 = nI n) (hp : ck_pr 33 y (fun _ => nI 0) A) (hg : ¬ (((nI 0 ≤ j ∧ j < nI n) ∧ A (192 + j.toNatClampNeg) = nI 1) ∧ (nI 0 ≤ c ∧ c ≤ nI 99999))) : fk_ev (d + 2) qX11_owes 0 [.ref 1, .int j, .int c] [] (fk_E N y l) = some (some (.int ((nI 0))), fk_E N y l) := by
  have h8 := n8
  simp (disch := first | assumption | omega) only [rX11_owes, n_liv hn hm hp, Option.bind_some, Option.toList_some, Option.toList_none, List.cons_append, List.nil_append, fk_b_0, nI_add, Nat.add_zero, Nat.zero_add, not_true_eq_false, not_false_eq_true, if_true, if_false, sI_le_t, sI_le_f, sI_lt_t, sI_lt_f, sI_eq_t, sI_eq_f, sI_rem, sI_div, sI_m1a, sI_m1b, sI_m1c, sI_m1d, sI_m1e, sI_m1f, sI_m2a, sI_m2b, sI_sub, pk_mul, sI_dec, fk_u_s, fk_u_o, sI_dec0, sI_z, sI_md, Bool.false_eq_true, Nat.reduceAdd, Nat.reduceMul, Nat.reduceSub, Nat.reduceMod, Nat.reduceDiv]
  by_cases h1 : (nI 0 ≤ j ∧ j < nI n) ∧ A (192 + j.toNatClampNeg) = nI 1
  · rw [if_neg fun z => z h1]
    by_cases h2 : c < nI 0
    · rw [if_pos h2]
    · rw [if_neg h2, if_neg fun z => hg ⟨h1, Int32.not_lt.mp h2, z⟩]
  · rw [if_pos h1]
theorem mX11_owes_ok {j : Nat} {c : Int32} (hn : n ≤ 64) (hm : A 833 = nI n) (hp : ck_pr 33 y (fun _ => nI 0) A) (hj : j < n) (h1 : A (192 + j) = nI 1) (h2 : nI 0 ≤ c ∧ c ≤ nI 99999) : fk_ev (d + 2) qX11_owes 0 [.ref 1, .int ((nI j)), .int c] [] (fk_E N y l) = some (some (.int ((nI 1))), fk_E N (fk_u y (36 + j) 10 c) l) := by
  have h8 := n8
  have hh := n_h (show j < 64 by omega)
  have hl := n_liv (N := N) (l := l) (d := d) (j := nI j) hn hm hp
  rw [nI_clamp (by omega), fk_b_t ⟨⟨nI_le (by omega) (by omega), nI_lt hj (by omega)⟩, h1⟩] at hl
  simp (disch := first | assumption | omega) only [rX11_owes, hl, Int32.not_lt.mpr h2.1, h2.2, nc0, Option.bind_some, Option.toList_some, Option.toList_none, List.cons_append, List.nil_append, fk_b_0, nI_add, Nat.add_zero, Nat.zero_add, not_true_eq_false, not_false_eq_true, if_true, if_false, sI_le_t, sI_le_f, sI_lt_t, sI_lt_f, sI_eq_t, sI_eq_f, sI_rem, sI_div, sI_m1a, sI_m1b, sI_m1c, sI_m1d, sI_m1e, sI_m1f, sI_m2a, sI_m2b, sI_sub, pk_mul, sI_dec, fk_u_s, fk_u_o, sI_dec0, sI_z, sI_md, Bool.false_eq_true, Nat.reduceAdd, Nat.reduceMul, Nat.reduceSub, Nat.reduceMod, Nat.reduceDiv]
theorem cl_owes (hR : cR S y) {j c : Int32} : ∃ a y1 y2, fk_ev (d + 8) qX11_owes 0 [.ref 1, .int j, .int c] [] (fk_E N y l) = some (some (.int a), fk_E N y1 l) ∧ fk_ev (d + 8) qX12_owes 0 [.ref 246, .int j, .int c] [] (fk_E N y1 l) = some (some (.int a), fk_E N y2 l) ∧ cR S y2 := by
  obtain ⟨r0, r1, r2, ⟨n, H, p1, p2, p3, p4⟩, r4, r5, r6, r7, r8, r9⟩ := id hR
  have hn := p1.1
  by_cases hg : ((nI 0 ≤ j ∧ j < nI n) ∧ y 247 (192 + j.toNatClampNeg) = nI 1) ∧ (nI 0 ≤ c ∧ c ≤ nI 99999)
  · obtain ⟨⟨g1, g2⟩, g3⟩ := hg
    obtain ⟨j, hj, rfl⟩ := fk_ixn g1.1 g1.2 (by omega)
    rw [nI_clamp (by omega)] at g2
    have h247 : fk_u y (36 + j) 10 c 247 = y 247 := fk_u_rowo (by omega)
    have e := mX12_owes_ok (N := N) (l := l) (d := d + 6) (y := fk_u y (36 + j) 10 c) (c := c) hn (by rw [h247]; exact p1.2.1) hj (by rw [h247]; exact g2) g3
    obtain ⟨a1, a2, a3, a4, a5, a6, a7, a8, a9, a10, a11, a12, a13⟩ := p3.2.2.1 j (by omega) (by rw [ab_ok_n p1]; exact hj)
    refine ⟨nI 1, _, _, mX11_owes_ok (d := d + 6) hn p1.2.1 p3 hj g2 g3, e, cR_upd (A' := fk_w (y 247) (576 + j) c) hR (fun k hk => fk_u_rowo (by omega)) (fun k hk => fk_u_rowo hk) (by rw [fk_u_row, h247]) (ab_ok_coin p1 hj) (ab_wp_c (fun i hi => fk_w_o (by omega)) (fun i hi => fk_w_o (by omega)) p2) (ck_cs_slot (c := 2) (n := n) (j := j) (ck_cs_of p3) (Or.inl rfl) hn (ab_ok_n p1) hj (fun k k1 => fk_u_rowo (by omega)) (fun i _ hi => fk_w_o (hi 576 (by omega))) (fk_u_o (by omega)) (fk_u_o (by omega)) ?_).1 fun i hi => fk_w_o (by omega)⟩
    rw [show 33 + 3 + j = 36 + j by omega] at *
    unfold ck_hm
    simp (disch := omega) only [fk_u_o, fk_u_s, fk_w_o, fk_w_s]
    exact ⟨a1, a2, a3, a4, a5, a6, a7, a8, a9, trivial, a11, a12, a13⟩
  · exact ⟨nI 0, y, y, mX11_owes_no (d := d + 6) hn p1.2.1 p3 hg, mX12_owes_no (d := d + 6) hn p1.2.1 hg, hR⟩
theorem mX11_learns_no {j f so : Int32} (hn : n ≤ 64) (hm : A 833 = nI n) (hp : ck_pr 33 y (fun _ => nI 0) A) (hg : ¬ (((nI 0 ≤ j ∧ j < nI n) ∧ A (192 + j.toNatClampNeg) = nI 1) ∧ (nI 0 ≤ f ∧ f < nI 16))) : fk_ev (d + 2) qX11_learns 0 [.ref 1, .int j, .int f, .int so] [] (fk_E N y l) = some (some (.int ((nI 0))), fk_E N y l) := by
  have h8 := n8
  simp (disch := first | assumption | omega) only [rX11_learns, n_liv hn hm hp, mX11_within, Option.bind_some, Option.toList_some, Option.toList_none, List.cons_append, List.nil_append, fk_b_0, nI_add, Nat.add_zero, Nat.zero_add, not_true_eq_false, not_false_eq_true, if_true, if_false, sI_le_t, sI_le_f, sI_lt_t, sI_lt_f, sI_eq_t, sI_eq_f, sI_rem, sI_div, sI_m1a, sI_m1b, sI_m1c, sI_m1d, sI_m1e, sI_m1f, sI_m2a, sI_m2b, sI_sub, pk_mul, sI_dec, fk_u_s, fk_u_o, sI_dec0, sI_z, sI_md, Bool.false_eq_true, Nat.reduceAdd, Nat.reduceMul, Nat.reduceSub, Nat.reduceMod, Nat.reduceDiv]
  by_cases h1 : (nI 0 ≤ j ∧ j < nI n) ∧ A (192 + j.toNatClampNeg) = nI 1
  · by_cases h2 : nI 0 ≤ f ∧ f < nI 16
    · exact absurd ⟨h1, h2⟩ hg
    · simp [h1, h2]
  · rw [if_pos h1]
theorem mX11_learns_ok {j : Nat} {f so : Int32} (hn : n ≤ 64) (hm : A 833 = nI n) (hp : ck_pr 33 y (fun _ => nI 0) A) (hj : j < n) (h1 : A (192 + j) = nI 1) (h2 : nI 0 ≤ f ∧ f < nI 16) : fk_ev (d + 2) qX11_learns 0 [.ref 1, .int ((nI j)), .int f, .int so] [] (fk_E N y l) = some (some (.int ((nI 1))), fk_E N (fk_u (fk_u y (36 + j) 11 (y (36 + j) 11 ||| nI 1 <<< (f &&& 31))) (36 + j) 12 (if so = nI 0 then y (36 + j) 12 &&& (nI 1 <<< (f &&& 31) ^^^ (-1)) else y (36 + j) 12 ||| nI 1 <<< (f &&& 31))) l) := by
  have h8 := n8
  have hh := n_h (show j < 64 by omega)
  have hl := n_liv (N := N) (l := l) (d := d) (j := nI j) hn hm hp
  rw [nI_clamp (by omega), fk_b_t ⟨⟨nI_le (by omega) (by omega), nI_lt hj (by omega)⟩, h1⟩] at hl
  simp (disch := first | assumption | omega) only [rX11_learns, hl, mX11_within, h2, and_self, nc0, mX0_know, Option.bind_some, Option.toList_some, Option.toList_none, List.cons_append, List.nil_append, fk_b_0, nI_add, Nat.add_zero, Nat.zero_add, not_true_eq_false, not_false_eq_true, if_true, if_false, sI_le_t, sI_le_f, sI_lt_t, sI_lt_f, sI_eq_t, sI_eq_f, sI_rem, sI_div, sI_m1a, sI_m1b, sI_m1c, sI_m1d, sI_m1e, sI_m1f, sI_m2a, sI_m2b, sI_sub, pk_mul, sI_dec, fk_u_s, fk_u_o, sI_dec0, sI_z, sI_md, Bool.false_eq_true, Nat.reduceAdd, Nat.reduceMul, Nat.reduceSub, Nat.reduceMod, Nat.reduceDiv]
theorem cl_learns (hR : cR S y) {j f so : Int32} : ∃ a y1 y2, fk_ev (d + 8) qX11_learns 0 [.ref 1, .int j, .int f, .int so] [] (fk_E N y l) = some (some (.int a), fk_E N y1 l) ∧ fk_ev (d + 8) qX12_learns 0 [.ref 246, .int j, .int f, .int so] [] (fk_E N y1 l) = some (some (.int a), fk_E N y2 l) ∧ cR S y2 := by
  obtain ⟨r0, r1, r2, ⟨n, H, p1, p2, p3, p4⟩, r4, r5, r6, r7, r8, r9⟩ := id hR
  have hn := p1.1
  by_cases hg : ((nI 0 ≤ j ∧ j < nI n) ∧ y 247 (192 + j.toNatClampNeg) = nI 1) ∧ (nI 0 ≤ f ∧ f < nI 16)
  · obtain ⟨⟨g1, g2⟩, g3⟩ := hg
    obtain ⟨j, hj, rfl⟩ := fk_ixn g1.1 g1.2 (by omega)
    rw [nI_clamp (by omega)] at g2
    obtain ⟨a1, a2, a3, a4, a5, a6, a7, a8, a9, a10, a11, a12, a13⟩ := p3.2.2.1 j (by omega) (by rw [ab_ok_n p1]; exact hj)
    have e0 := mX11_learns_ok (N := N) (l := l) (d := d + 6) (so := so) hn p1.2.1 p3 hj g2 g3
    rw [show 33 + 3 + j = 36 + j by omega] at *
    rw [a11, a12] at e0
    generalize eY : fk_u (fk_u y (36 + j) 11 (y 247 (704 + j) ||| nI 1 <<< (f &&& 31))) (36 + j) 12 (if so = nI 0 then y 247 (768 + j) &&& (nI 1 <<< (f &&& 31) ^^^ (-1)) else y 247 (768 + j) ||| nI 1 <<< (f &&& 31)) = Y at e0
    have hY : ∀ k, k ≠ 36 + j → Y k = y k := fun k hk => by rw [← eY, fk_u_rowo hk, fk_u_rowo hk]
    have h247 : Y 247 = y 247 := hY 247 (by omega)
    have e := mX12_learns_ok (N := N) (l := l) (d := d + 6) (y := Y) (f := f) (s := so) hn (by rw [h247]; exact p1.2.1) hj (by rw [h247]; exact g2) g3
    have eF : ∃ g : Nat, g < 16 ∧ f = nI g := fk_ixn g3.1 g3.2 (by omega)
    refine ⟨nI 1, Y, _, e0, e, cR_upd (A' := ab_kn (y 247) j f so) hR (fun k hk => hY k (by omega)) (fun k hk => by unfold fk_kn; rw [fk_u_rowo hk, fk_u_rowo hk]) (by unfold fk_kn ab_kn; rw [fk_u_row, fk_u_row, h247]) (ab_ok_kn p1 hj eF) (ab_wp_c (fun i hi => by unfold ab_kn; rw [fk_w_o (by omega), fk_w_o (by omega)]) (fun i hi => by unfold ab_kn; rw [fk_w_o (by omega), fk_w_o (by omega)]) p2) (ck_cs_slot (A' := ab_kn (y 247) j f so) (c := 2) (n := n) (j := j) (ck_cs_of p3) (Or.inl rfl) hn (ab_ok_n p1) hj (fun k k1 => hY k (by omega)) (fun i _ hi => by unfold ab_kn; rw [fk_w_o (hi 768 (by omega)), fk_w_o (hi 704 (by omega))]) ?_ ?_ ?_).1 fun i hi => by unfold ab_kn; rw [fk_w_o (by omega), fk_w_o (by omega)]⟩
    · rw [show 33 + 3 + j = 36 + j by omega, ← eY, fk_u_o (by omega), fk_u_o (by omega)]
    · rw [show 33 + 3 + j = 36 + j by omega, ← eY, fk_u_o (by omega), fk_u_o (by omega)]
    · rw [show 33 + 3 + j = 36 + j by omega, ← eY]
      unfold ck_hm ab_kn
      simp (disch := omega) only [fk_u_o, fk_u_s, fk_w_o, fk_w_s]
      exact ⟨a1, a2, a3, a4, a5, a6, a7, a8, a9, a10, trivial, trivial, a13⟩
  · exact ⟨nI 0, y, y, mX11_learns_no (d := d + 6) hn p1.2.1 p3 hg, mX12_learns_no (d := d + 6) hn p1.2.1 hg, hR⟩
end CL1
