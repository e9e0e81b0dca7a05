section RH2
variable {N : Nat} {v y : Nat → Nat → Int32} {l : Nat → Nat → Int64} {d : Nat} {W : Int32 → (Nat → Int32) → Int32} {s : ab_S}
theorem fk_rs_A {y' : Nat → Nat → Int32} {A' : Nat → Int32} {q : Int32} (hs : fk_rs v y s) (hA : y' 247 = A') (h : ∀ c, c ≠ 247 → y' c = y c) : fk_rs v y' (A', s.2.1, s.2.2.1, q) := by
  obtain ⟨h1, h2, h3, h4, h5⟩ := hs
  refine ⟨hA, fun j hj => ?_, ?_, fun i hi => ?_, fun c c1 c2 c3 c4 c5 => (h c c2).trans (h5 c c1 c2 c3 c4 c5)⟩
  · rw [h 269 (by decide)]; exact h2 j hj
  · rw [h 246 (by decide)]; exact h3
  · rw [h 246 (by decide)]; exact h4 i hi
theorem fk_ask (HW : fk_LR W v) (hs : fk_rs v y s) {j n : Nat} (hn : n ≤ 64) (hm : s.1 833 = nI n) {a h : Int32} (ha : a = nI 99 ∨ a = nI 100 ∨ a = nI 98 ∨ a = nI 119 ∨ a = nI 120) (hh : nI 0 ≤ h) : ∃ y', fk_ev (d + 3) qX12_byLaw 0 [.ref 246, .int a, .int h, .null, .null] [] (fk_E N (fk_feel y j n) l) = some (some (.int ((ab_cl h (W a (ab_fe s.1 j))))), fk_E N y' l) ∧ (∀ c, c ≠ 267 → c ≠ 268 → y' c = y c) := by
  obtain ⟨h1, h2, h3, h4, h5⟩ := id hs
  have hm' : y 247 833 = nI n := by rw [h1]; exact hm
  obtain ⟨y', e2, k2⟩ := HW.2.1 N d (fk_feel y j n) l a h (by
      intro c c1 c2
      funext i
      rw [fk_feel_o (by omega), h5 c (by omega) (by omega) (by omega) (by omega) (by omega)]) (by
      rw [fk_feel_o (by omega), h4 19 (by omega)]) ha hh
  have eW : W a (fk_feel y j n 268) = W a (ab_fe s.1 j) := HW.1 _ _ _ fun k hk => by rw [fk_feel_f hn hm' hk, h1]
  rw [eW] at e2
  refine ⟨y', e2, fun c c1 c2 => ?_⟩
  rw [k2 c c1]
  funext i
  rw [fk_feel_o c2]
theorem fk_bg_g {n i : Nat} {a b e : Int32} (h : i ≠ 833 ∧ i ≠ n ∧ i ≠ 64 + n ∧ i ≠ 128 + n ∧ i ≠ 192 + n ∧ i ≠ 256 + n ∧ i ≠ 448 + n ∧ i ≠ 512 + n ∧ i ≠ 576 + n ∧ i ≠ 640 + n ∧ i ≠ 704 + n ∧ i ≠ 768 + n) : fk_bg y n a b e 247 i = y 247 i := by
  unfold fk_bg
  simp (disch := omega) only [fk_u_o]
theorem mX12_leaves (HW : fk_LR W v) (hs : fk_rs v y s) {j n p : Nat} (hj : j < n) (hn : n ≤ 64) (hm : s.1 833 = nI n) (hp : p < 16) (ha : s.1 (320 + j) = nI p) : ∃ y', fk_ev (d + 6) qX12_leaves 0 [.ref 246, .int ((nI j)), .null, .null, .null, .null, .null] [] (fk_E N y l) = some (none, fk_E N y' l) ∧ fk_rs v y' (ab_lv1 v W (v 246 33) (v 246 34) j (ab_best (ab_G v W s.1 j) (-1)) (ab_best (ab_G v W s.1 j) (ab_best (ab_G v W s.1 j) (-1)).1) s) := by
  obtain ⟨y1, e1, r1⟩ := mX12_bestRoad (N := N) (l := l) (d := d) (x := (-1)) HW hs (show j < 64 by omega) hn hm
  rcases ab_best_is (G := ab_G v W s.1 j) (x := (-1)) with ⟨hb, _⟩ | ⟨r, hr, hb, hb2, hpos, _⟩
  · rw [hb] at e1
    refine ⟨y1, ?_, ?_⟩
    · simp (disch := first | assumption | omega) only [rX12_leaves, e1, Option.bind_some, Option.toList_some, Option.toList_none, List.cons_append, List.nil_append, fk_b_0, nI_add, Nat.add_zero, Nat.zero_add, not_true_eq_false, not_false_eq_true, if_true, if_false, sI_le_t, sI_le_f, sI_lt_t, sI_lt_f, sI_eq_t, sI_eq_f, sI_rem, sI_div, sI_m1a, sI_m1b, sI_m1c, sI_m1d, sI_m1e, sI_m1f, sI_m2a, sI_m2b, sI_sub, pk_mul, sI_dec, fk_u_s, fk_u_o, sI_dec0, sI_z, sI_md, Bool.false_eq_true, Nat.reduceAdd, Nat.reduceMul, Nat.reduceSub, Nat.reduceMod, Nat.reduceDiv]
    · unfold ab_lv1
      rw [if_pos hb]
      exact r1
  · rw [hb] at e1
    obtain ⟨y2, e2, r2⟩ := mX12_bestRoad (N := N) (l := l) (d := d) (x := nI r) HW r1 (show j < 64 by omega) hn hm
    have hgr : ab_G v W s.1 j r = ab_gl v W s.1 j r := by
      unfold ab_G at hpos ⊢
      by_cases hc : ab_rd v r (s.1 (320 + j))
      · rw [if_pos hc]
      · rw [if_neg hc] at hpos
        exact absurd hpos Int32.lt_irrefl
    unfold ab_lv1
    rw [hb, if_neg (by rw [sI_m1a (by omega)]; exact id)]
    rcases ab_best_is (G := ab_G v W s.1 j) (x := nI r) with ⟨hc, hc2⟩ | ⟨q, hq, hc, hc2, hcpos, _⟩
    · rw [hc] at e2
      refine ⟨fk_se y2 j r, ?_, ?_⟩
      · simp (disch := first | assumption | omega) only [rX12_leaves, e1, e2, mX12_sets, Option.bind_some, Option.toList_some, Option.toList_none, List.cons_append, List.nil_append, fk_b_0, nI_add, Nat.add_zero, Nat.zero_add, not_true_eq_false, not_false_eq_true, if_true, if_false, sI_le_t, sI_le_f, sI_lt_t, sI_lt_f, sI_eq_t, sI_eq_f, sI_rem, sI_div, sI_m1a, sI_m1b, sI_m1c, sI_m1d, sI_m1e, sI_m1f, sI_m2a, sI_m2b, sI_sub, pk_mul, sI_dec, fk_u_s, fk_u_o, sI_dec0, sI_z, sI_md, Bool.false_eq_true, Nat.reduceAdd, Nat.reduceMul, Nat.reduceSub, Nat.reduceMod, Nat.reduceDiv]
      · rw [if_neg (fun z => z.1.1 hc)]
        obtain ⟨h1, h2, h3, h4, h5⟩ := id r2
        exact fk_rs_A r2 (by rw [fk_se_r hr (h5 252 (by omega) (by omega) (by omega) (by omega) (by omega)), h1]) fun c hc => fk_se_o hc
    · rw [hc] at e2
      obtain ⟨y3, e3, r3⟩ := mX12_gladlyFor (N := N) (l := l) (d := d + 1) HW r2 (show j < 64 by omega) hr hn hm
      obtain ⟨y4, e4, r4⟩ := mX12_gladlyFor (N := N) (l := l) (d := d + 1) HW r3 (show j < 64 by omega) hq hn hm
      obtain ⟨y5, e5, r5⟩ := mX12_doubtOf (N := N) (l := l) (d := d + 1) HW r4 (show j < 64 by omega) hn hm hp ha
      have hgq : ab_G v W s.1 j q = ab_gl v W s.1 j q := by
        unfold ab_G at hcpos ⊢
        by_cases hc : ab_rd v q (s.1 (320 + j))
        · rw [if_pos hc]
        · rw [if_neg hc] at hcpos
          exact absurd hcpos Int32.lt_irrefl
      obtain ⟨h1, h2, h3, h4, h5⟩ := id r5
      have e252 : y5 252 = v 252 := h5 252 (by omega) (by omega) (by omega) (by omega) (by omega)
      have hn5 : y5 247 833 = nI n := by rw [h1]; exact hm
      have hN : ab_n s.1 = n := ab_n_of hn hm
      have no : ¬ (ab_can s.1 j (ab_best (ab_G v W s.1 j) (nI r)).1 ∧ (ab_best (ab_G v W s.1 j) (-1)).2 - (ab_best (ab_G v W s.1 j) (nI r)).2 ≤ ab_dt W (v 246 33) (v 246 34) s.1 j) → fk_rs v (fk_se y5 j r) (ab_st v (if ab_can s.1 j (ab_best (ab_G v W s.1 j) (nI r)).1 ∧ (ab_best (ab_G v W s.1 j) (-1)).2 - (ab_best (ab_G v W s.1 j) (nI r)).2 ≤ ab_dt W (v 246 33) (v 246 34) s.1 j then ab_pt v s.1 j (ab_best (ab_G v W s.1 j) (nI r)).1 else s.1) j (nI r), s.2.1, s.2.2.1, if ab_can s.1 j (ab_best (ab_G v W s.1 j) (nI r)).1 ∧ s.1 j = v 246 33 then s.2.2.2 ||| nI 1 <<< (s.1 (320 + j) &&& 31) else s.2.2.2) := by
        intro hno
        rw [if_neg hno]
        exact fk_rs_A r5 (by rw [fk_se_r hr e252, h1]) fun c hc => fk_se_o hc
      by_cases z1 : ab_dt W (v 246 33) (v 246 34) s.1 j < ab_gl v W s.1 j r - ab_gl v W s.1 j q
      · refine ⟨fk_se y5 j r, ?_, no fun z => ?_⟩
        · simp (disch := first | assumption | omega) only [rX12_leaves, e1, e2, e3, e4, e5, z1, mX12_sets, Option.bind_some, Option.toList_some, Option.toList_none, List.cons_append, List.nil_append, fk_b_0, nI_add, Nat.add_zero, Nat.zero_add, not_true_eq_false, not_false_eq_true, if_true, if_false, sI_le_t, sI_le_f, sI_lt_t, sI_lt_f, sI_eq_t, sI_eq_f, sI_rem, sI_div, sI_m1a, sI_m1b, sI_m1c, sI_m1d, sI_m1e, sI_m1f, sI_m2a, sI_m2b, sI_sub, pk_mul, sI_dec, fk_u_s, fk_u_o, sI_dec0, sI_z, sI_md, Bool.false_eq_true, Nat.reduceAdd, Nat.reduceMul, Nat.reduceSub, Nat.reduceMod, Nat.reduceDiv]
        · rw [hb2, hc2, hgr, hgq] at z
          exact absurd z.2 (Int32.not_le.mpr z1)
      · by_cases z2 : n < 64
        · by_cases z3 : s.1 (256 + j) ≤ nI 1
          · refine ⟨fk_se y5 j r, ?_, no fun z => absurd z.1.2.2 (Int32.not_lt.mpr z3)⟩
            simp (disch := first | assumption | omega) only [rX12_leaves, e1, e2, e3, e4, e5, z1, hn5, h1, z3, mX12_sets, Option.bind_some, Option.toList_some, Option.toList_none, List.cons_append, List.nil_append, fk_b_0, nI_add, Nat.add_zero, Nat.zero_add, not_true_eq_false, not_false_eq_true, if_true, if_false, sI_le_t, sI_le_f, sI_lt_t, sI_lt_f, sI_eq_t, sI_eq_f, sI_rem, sI_div, sI_m1a, sI_m1b, sI_m1c, sI_m1d, sI_m1e, sI_m1f, sI_m2a, sI_m2b, sI_sub, pk_mul, sI_dec, fk_u_s, fk_u_o, sI_dec0, sI_z, sI_md, Bool.false_eq_true, Nat.reduceAdd, Nat.reduceMul, Nat.reduceSub, Nat.reduceMod, Nat.reduceDiv]
          · refine ⟨fk_se (fk_se (fk_u (fk_u (fk_u (fk_u (fk_u (fk_bg y5 n (s.1 j) (nI j) (s.1 (256 + j) / nI 2)) 247 (256 + j) (s.1 (256 + j) - s.1 (256 + j) / nI 2)) 247 (704 + n) (s.1 (704 + j))) 247 (768 + n) (s.1 (768 + j))) 247 (576 + n) (s.1 (576 + j))) 247 838 (s.1 838 + nI 1)) n q) j r, ?_, ?_⟩
            · simp (disch := first | assumption | omega) only [rX12_leaves, e1, e2, e3, e4, e5, z1, hn5, h1, z3, mX12_sets, mX12_begin z2 hn5, fk_bg_g, Option.bind_some, Option.toList_some, Option.toList_none, List.cons_append, List.nil_append, fk_b_0, nI_add, Nat.add_zero, Nat.zero_add, not_true_eq_false, not_false_eq_true, if_true, if_false, sI_le_t, sI_le_f, sI_lt_t, sI_lt_f, sI_eq_t, sI_eq_f, sI_rem, sI_div, sI_m1a, sI_m1b, sI_m1c, sI_m1d, sI_m1e, sI_m1f, sI_m2a, sI_m2b, sI_sub, pk_mul, sI_dec, fk_u_s, fk_u_o, sI_dec0, sI_z, sI_md, Bool.false_eq_true, Nat.reduceAdd, Nat.reduceMul, Nat.reduceSub, Nat.reduceMod, Nat.reduceDiv]
            · rw [if_pos ⟨⟨by rw [hc, sI_m1a (by omega)]; exact id, by rw [hN]; exact z2, Int32.not_le.mp z3⟩, by rw [hb2, hc2, hgr, hgq]; exact Int32.not_lt.mp z1⟩]
              refine fk_rs_A r5 ?_ fun c hc => ?_
              · rw [fk_se_r hr (v := v) (by rw [fk_se_o (by decide)]; simp (disch := decide) only [fk_u_rowo, fk_bg_o]; exact e252), fk_se_r hq (v := v) (by simp (disch := decide) only [fk_u_rowo, fk_bg_o]; exact e252)]
                unfold ab_pt
                rw [hN, hc]
                simp only [fk_u_row, fk_bg_r, h1]
              · rw [fk_se_o hc, fk_se_o hc, fk_u_rowo hc, fk_u_rowo hc, fk_u_rowo hc, fk_u_rowo hc, fk_u_rowo hc, fk_bg_o hc]
        · refine ⟨fk_se y5 j r, ?_, no fun z => z2 (by have := z.1.2.1; rw [hN] at this; exact this)⟩
          simp (disch := first | assumption | omega) only [rX12_leaves, e1, e2, e3, e4, e5, z1, hn5, mX12_sets, Option.bind_some, Option.toList_some, Option.toList_none, List.cons_append, List.nil_append, fk_b_0, nI_add, Nat.add_zero, Nat.zero_add, not_true_eq_false, not_false_eq_true, if_true, if_false, sI_le_t, sI_le_f, sI_lt_t, sI_lt_f, sI_eq_t, sI_eq_f, sI_rem, sI_div, sI_m1a, sI_m1b, sI_m1c, sI_m1d, sI_m1e, sI_m1f, sI_m2a, sI_m2b, sI_sub, pk_mul, sI_dec, fk_u_s, fk_u_o, sI_dec0, sI_z, sI_md, Bool.false_eq_true, Nat.reduceAdd, Nat.reduceMul, Nat.reduceSub, Nat.reduceMod, Nat.reduceDiv]
end RH2
