section CL9
variable {N : Nat} {S : Nat → Int32} {v y y1 y2 : Nat → Nat → Int32} {l : Nat → Nat → Int64} {d p p' n H t : Nat} {T A A' : Nat → Int32}
theorem n24 : fk_at 34 24 := ⟨by decide, by decide, by decide +kernel⟩
theorem n34 : (fk_shp 34).2 = 64 := by decide +kernel
theorem n_at {j : Int32} (hn : n ≤ 64) (hm : A 833 = nI n) (hp : ck_pr 33 y (fun _ => nI 0) A) : fk_ev (d + 1) qX8_isAtPlace 0 [.ref 33, .int j] [] (fk_E N y l) = some (some (.int ((fk_b ((nI 0 ≤ j ∧ j < nI n) ∧ A (192 + j.toNatClampNeg) = nI 1 ∧ nI 0 ≤ A (320 + j.toNatClampNeg))))), fk_E N y l) := by
  have eb : y 33 2 = nI n := hp.1.1.trans hm
  by_cases hj : nI 0 ≤ j ∧ j < nI n
  · obtain ⟨k, hk, rfl⟩ := fk_ixn hj.1 hj.2 (by omega)
    obtain ⟨a1, a2, a3, a4, a5, a6, _⟩ := hp.2.2.1 k (by omega) (by rw [ab_n_of hn hm]; exact hk)
    rw [mX8_isAtPlaceN (Or.inl rfl) hn eb hk a4, nI_clamp (by omega), a6]
    by_cases h : A (192 + k) = nI 1 ∧ nI 0 ≤ A (320 + k)
    · rw [fk_b_t h, fk_b_t ⟨hj, h⟩]
    · rw [fk_b_f h, fk_b_f fun z => h z.2]
  · rw [mX8_isAtPlace_no (Or.inl rfl) eb hj, fk_b_f fun z => hj z.1]
/-- people and past are as they were -/
theorem cR_q (hR : cR S y) (hf : ∀ k, (k ≤ 1 ∨ (2 ≤ k ∧ k ≤ 8) ∨ (10 ≤ k ∧ k ≤ 16) ∨ (19 ≤ k ∧ k ≤ 24) ∨ k = 26 ∨ k = 27 ∨ (100 ≤ k ∧ k ≤ 166) ∨ k = 237 ∨ k = 249 ∨ (250 ≤ k ∧ k ≤ 255) ∨ (262 ≤ k ∧ k ≤ 266)) → y2 k = y k) (h246 : ∀ i, (i = 3 ∨ i = 10 ∨ i = 19 ∨ i = 33 ∨ i = 36 ∨ i = 49) → y2 246 i = y 246 i) (h167 : ∀ j, j < 64 → y2 (167 + 3 + j) 0 = nI j) (h235 : ∀ i, i < 3072 → y2 235 i = y 235 i) (hp : ck_pr 33 y2 (fun _ => nI 0) (y 247)) (h247 : ∀ i, i < 3912 → y2 247 i = y 247 i) : cR S y2 := by
  obtain ⟨r0, r1, r2, ⟨n, H, p1, p2, p3, p4⟩, r4, r5, r6, r7, r8, r9⟩ := id hR
  have hn := p1.1
  refine cR_keep hR hf h246 h167 ⟨n, H, ab_ok_c (h246 3 (by omega)) (ab_ok_hi p1 fun i hi => h247 i (by omega)), ?_, ck_pr_hi hp (by rw [ab_ok_n p1]; exact p1.1) fun i hi => h247 i (by omega), fun i hi => ?_⟩
  · refine ⟨fun j hj => by rw [h247 _ (by omega)]; exact p2.1 j hj, fun h j h1 h2 h3 h4 => ?_⟩
    rw [h247 _ (by omega)]
    exact p2.2 h j h1 h2 h3 fun hj => by have := h4 hj; rw [h247 _ (by omega)] at this; exact this
  · rw [h235 i hi, p4 i hi, h247 _ (by omega)]
/-- passage.begin(now, inForce) -/
def ck_by (y : Nat → Nat → Int32) (c : Nat) : Nat → Nat → Int32 := fk_u (fk_u (fk_u y 238 2 (nI 33)) 238 3 (nI c)) 238 4 (-1)
theorem ck_by_o {c k : Nat} (h : k ≠ 238) : ck_by y c k = y k := by
  unfold ck_by
  rw [fk_u_rowo h, fk_u_rowo h, fk_u_rowo h]
theorem ck_by_2 {c : Nat} : ck_by y c 238 2 = nI 33 := by
  unfold ck_by
  rw [fk_u_o (by omega), fk_u_o (by omega), fk_u_s]
theorem ck_by_3 {c : Nat} : ck_by y c 238 3 = nI c := by
  unfold ck_by
  rw [fk_u_o (by omega), fk_u_s]
theorem ck_by_4 {c : Nat} : ck_by y c 238 4 = (-1) := by
  unfold ck_by
  rw [fk_u_s]
theorem ck_by_L {c : Nat} {W : Int32 → (Nat → Int32) → Int32} (h : ck_LC W c y) : ck_LC W c (ck_by y c) := by
  have hc := h.1
  exact ck_LC_c (fun k k1 k2 => ck_by_o (by omega)) (by rw [ck_by_o (by omega)]) (by rw [ck_by_o (by omega)]) h
theorem ck_by_N {c : Nat} (h : ck_nt v y) : ck_nt v (ck_by y c) := ck_nt_c rfl (fun _ _ _ => rfl) (fun k h1 h2 => ck_by_o (by omega)) h
theorem ck_by_cs {c : Nat} (h : ck_pr 33 y T A) : ck_cs (ck_by y c) 33 c T (nI 0) n (ck_by y c) (A, fun j => ck_by y c (33 + 3 + j) 14, ck_by y c 238 7 ||| nI 0, ck_by y c 238 6) := ck_cs_of (ck_pr_k h fun k k1 k2 => ck_by_o (by omega))
theorem mX6_by {c : Nat} (hc : c < 1000) : fk_ev d qX6_begin 0 [.ref 238, .ref 33, .ref c] [] (fk_E N y l) = some (none, fk_E N (ck_by y c) l) := mX6_begin (by omega) hc
/-- the law has been asked on both sides: nothing that counts has changed -/
theorem cR_ask {c : Nat} {b0 : Int32} {m : Nat} {s s' : ab_S} (hR : cR S y) (hc : c = 2 ∨ c = 10) (h1 : ck_cs (ck_by y c) 33 c (fun _ => nI 0) b0 m y1 s) (e1 : s.1 = y 247) (h2 : fk_rs y1 y2 s') (e2 : s'.1 = y 247) : cR S y2 := by
  have r9 := hR.2.2.2.2.2.2.2.2.2
  have F : ∀ k, k ≠ 246 → k ≠ 247 → k ≠ 267 → k ≠ 268 → k ≠ 269 → y2 k = y1 k := h2.2.2.2.2
  have G : ∀ k, ¬ (33 ≤ k ∧ k < 100) → k ≠ 238 → k ≠ 239 → k ≠ c + 7 → y1 k = y k := fun k k1 k2 k3 k4 => by
    rw [h1.2.2.2.2.2 k k1 k2 k3 k4, ck_by_o k2]
  refine cR_q hR (fun k hk => ?_) (fun i hi => ?_) (fun j hj => ?_) (fun i hi => ?_) ?_ fun i hi => ?_
  · rw [F k (by omega) (by omega) (by omega) (by omega) (by omega), G k (by omega) (by omega) (by omega) (by omega)]
  · rw [h2.2.2.2.1 i (by omega), G 246 (by omega) (by omega) (by omega) (by omega)]
  · rw [F _ (by omega) (by omega) (by omega) (by omega) (by omega), G _ (by omega) (by omega) (by omega) (by omega)]
    exact r9 j hj
  · rw [F 235 (by omega) (by omega) (by omega) (by omega) (by omega), G 235 (by omega) (by omega) (by omega) (by omega)]
  · rw [← e1]
    exact ck_pr_k h1.1 fun k k1 k2 => F k (by omega) (by omega) (by omega) (by omega) (by omega)
  · rw [h2.1, e2]
theorem cl_gladly (hR : cR S y) {j r : Int32} : ∃ a y1 y2, fk_ev (d + 8) qX11_gladly 0 [.ref 1, .int j, .int r] [] (fk_E N y l) = some (some (.int a), fk_E N y1 l) ∧ fk_ev (d + 8) qX12_gladly 0 [.ref 246, .int j, .int r] [] (fk_E N y1 l) = some (some (.int a), fk_E N y2 l) ∧ cR S y2 := by
  obtain ⟨r0, r1, r2, ⟨n, H, p1, p2, p3, p4⟩, r4, r5, ⟨c, W, q1, q2, q3, q4, q5, q6⟩, r7, r8, r9⟩ := id hR
  have hn := p1.1
  have hm := p1.2.1
  have h8 := n8
  have ha1 := n_at (N := N) (l := l) (d := d + 6) (j := j) hn hm p3
  have ha2 := mX12_isAt (N := N) (l := l) (d := d + 5) (y := y) (j := j) hn hm
  by_cases hj : (nI 0 ≤ j ∧ j < nI n) ∧ y 247 (192 + j.toNatClampNeg) = nI 1 ∧ nI 0 ≤ y 247 (320 + j.toNatClampNeg)
  · rw [fk_b_t hj] at ha1 ha2
    obtain ⟨⟨j1, j2⟩, j3⟩ := hj
    obtain ⟨j, hj, rfl⟩ := fk_ixn j1 j2 (by omega)
    rw [nI_clamp (by omega)] at j3
    have hh := n_h (show j < 64 by omega)
    by_cases hr : nI 0 ≤ r ∧ r < nI 32
    · obtain ⟨rq1, rq2⟩ := hr; obtain ⟨r, hr, rfl⟩ := fk_ixn rq1 rq2 (by omega)
      have hrd := mX12_isRoadN (N := N) (l := l) (d := d + 6) (y := y) hr
      by_cases ht : fk_tb (y 246 3) r = true
      · obtain ⟨n1, n2, n3⟩ := r2.1 r hr ht
        obtain ⟨⟨pf, hpf, ef⟩, _⟩ := r1.1 r hr ht
        rw [fk_b_t ht] at hrd
        have htd := mX5_isToldN (N := N) (l := l) (d := d + 6) (y := y) hr
        rw [n1, ef, fk_b_t (nI_le (by omega) (by omega))] at htd
        have a6 := (p3.2.2.1 j (by omega) (by rw [ab_ok_n p1]; exact hj)).2.2.2.2.2.1
        rw [show 33 + 3 + j = 36 + j by omega] at a6
        by_cases he : y 250 r = y 247 (320 + j)
        · obtain ⟨y1, e1, c1⟩ := mX6_gladness (N := N) (l := l) (d := d + 5) (v := y) (m := 0) (ck_by_L q4) (ck_by_N r2) (Or.inl rfl) ck_by_2 ck_by_3 (ck_by_cs p3) (by omega) p1 hj hr ht
          have f : ∀ k', 246 ≤ k' → y1 k' = y k' := fun k' h => by
            rw [c1.2.2.2.2.2 k' (by omega) (by omega) (by omega) (by omega), ck_by_o (by omega)]
          obtain ⟨y2, e2, c2⟩ := mX12_gladlyFor (N := N) (l := l) (d := d + 3) (v := y1) (y := y1) (s := (y1 247, y1 269, y1 246 35, nI 0)) (r := r) (fk_LR_c (fun k' h1 h2 => f k' (by omega)) (by rw [f 246 (by omega)]) q5) fk_rs_of (show j < 64 by omega) hr hn (by rw [f 247 (by omega)]; exact hm)
          have eG : ab_gl y1 W (y1 247) j r = ab_gl y W (y 247) j r := by
            unfold ab_gl ab_fr
            rw [f 247 (by omega), f 251 (by omega), f 252 (by omega)]
          dsimp only at e2 e1
          rw [eG] at e2
          rw [show 33 + 3 + j = 36 + j by omega] at e1
          refine ⟨ab_gl y W (y 247) j r, y1, y2, ?_, ?_, cR_ask hR q1 c1 rfl c2 (f 247 (by omega))⟩
          · simp (disch := first | assumption | omega) only [rX11_gladly, ha1, htd, nc0, n1, a6, he, q2, nI_clamp, mX6_by, e1, Option.bind_some, Option.toList_some, Option.toList_none, List.cons_append, List.nil_append, fk_b_0, nI_add, Nat.add_zero, Nat.zero_add, not_true_eq_false, not_false_eq_true, if_true, if_false, sI_le_t, sI_le_f, sI_lt_t, sI_lt_f, sI_eq_t, sI_eq_f, sI_rem, sI_div, sI_m1a, sI_m1b, sI_m1c, sI_m1d, sI_m1e, sI_m1f, sI_m2a, sI_m2b, sI_sub, pk_mul, sI_dec, fk_u_s, fk_u_o, sI_dec0, sI_z, sI_md, Bool.false_eq_true, Nat.reduceAdd, Nat.reduceMul, Nat.reduceSub, Nat.reduceMod, Nat.reduceDiv]
          · have ha3 := mX12_isAtN (N := N) (l := l) (d := d + 5) (y := y1) hn (by rw [f 247 (by omega)]; exact hm) hj
            rw [f 247 (by omega), fk_b_t j3] at ha3
            have hrd2 := mX12_isRoadN (N := N) (l := l) (d := d + 6) (y := y1) hr
            rw [f 246 (by omega), fk_b_t ht] at hrd2
            have z1 : y1 250 r = y 250 r := by rw [f 250 (by omega)]
            have z2 : y1 247 (320 + j) = y 247 (320 + j) := by rw [f 247 (by omega)]
            simp (disch := first | assumption | omega) only [rX12_gladly, ha3, hrd2, z1, z2, he, e2, Option.bind_some, Option.toList_some, Option.toList_none, List.cons_append, List.nil_append, fk_b_0, nI_add, Nat.add_zero, Nat.zero_add, not_true_eq_false, not_false_eq_true, if_true, if_false, sI_le_t, sI_le_f, sI_lt_t, sI_lt_f, sI_eq_t, sI_eq_f, sI_rem, sI_div, sI_m1a, sI_m1b, sI_m1c, sI_m1d, sI_m1e, sI_m1f, sI_m2a, sI_m2b, sI_sub, pk_mul, sI_dec, fk_u_s, fk_u_o, sI_dec0, sI_z, sI_md, Bool.false_eq_true, Nat.reduceAdd, Nat.reduceMul, Nat.reduceSub, Nat.reduceMod, Nat.reduceDiv]
        · refine ⟨(-2), y, y, ?_, ?_, hR⟩
          · simp (disch := first | assumption | omega) only [rX11_gladly, ha1, htd, nc0, n1, a6, he, Option.bind_some, Option.toList_some, Option.toList_none, List.cons_append, List.nil_append, fk_b_0, nI_add, Nat.add_zero, Nat.zero_add, not_true_eq_false, not_false_eq_true, if_true, if_false, sI_le_t, sI_le_f, sI_lt_t, sI_lt_f, sI_eq_t, sI_eq_f, sI_rem, sI_div, sI_m1a, sI_m1b, sI_m1c, sI_m1d, sI_m1e, sI_m1f, sI_m2a, sI_m2b, sI_sub, pk_mul, sI_dec, fk_u_s, fk_u_o, sI_dec0, sI_z, sI_md, Bool.false_eq_true, Nat.reduceAdd, Nat.reduceMul, Nat.reduceSub, Nat.reduceMod, Nat.reduceDiv]
          · simp (disch := first | assumption | omega) only [rX12_gladly, ha2, hrd, he, Option.bind_some, Option.toList_some, Option.toList_none, List.cons_append, List.nil_append, fk_b_0, nI_add, Nat.add_zero, Nat.zero_add, not_true_eq_false, not_false_eq_true, if_true, if_false, sI_le_t, sI_le_f, sI_lt_t, sI_lt_f, sI_eq_t, sI_eq_f, sI_rem, sI_div, sI_m1a, sI_m1b, sI_m1c, sI_m1d, sI_m1e, sI_m1f, sI_m2a, sI_m2b, sI_sub, pk_mul, sI_dec, fk_u_s, fk_u_o, sI_dec0, sI_z, sI_md, Bool.false_eq_true, Nat.reduceAdd, Nat.reduceMul, Nat.reduceSub, Nat.reduceMod, Nat.reduceDiv]
      · have e19 := r2.2.1 r hr ht
        rw [fk_b_f ht] at hrd
        have htd := mX5_isToldN (N := N) (l := l) (d := d + 6) (y := y) hr
        rw [e19, fk_b_f (by decide)] at htd
        refine ⟨(-1), y, y, ?_, ?_, hR⟩
        · simp (disch := first | assumption | omega) only [rX11_gladly, ha1, htd, Option.bind_some, Option.toList_some, Option.toList_none, List.cons_append, List.nil_append, fk_b_0, nI_add, Nat.add_zero, Nat.zero_add, not_true_eq_false, not_false_eq_true, if_true, if_false, sI_le_t, sI_le_f, sI_lt_t, sI_lt_f, sI_eq_t, sI_eq_f, sI_rem, sI_div, sI_m1a, sI_m1b, sI_m1c, sI_m1d, sI_m1e, sI_m1f, sI_m2a, sI_m2b, sI_sub, pk_mul, sI_dec, fk_u_s, fk_u_o, sI_dec0, sI_z, sI_md, Bool.false_eq_true, Nat.reduceAdd, Nat.reduceMul, Nat.reduceSub, Nat.reduceMod, Nat.reduceDiv]
        · simp (disch := first | assumption | omega) only [rX12_gladly, ha2, hrd, Option.bind_some, Option.toList_some, Option.toList_none, List.cons_append, List.nil_append, fk_b_0, nI_add, Nat.add_zero, Nat.zero_add, not_true_eq_false, not_false_eq_true, if_true, if_false, sI_le_t, sI_le_f, sI_lt_t, sI_lt_f, sI_eq_t, sI_eq_f, sI_rem, sI_div, sI_m1a, sI_m1b, sI_m1c, sI_m1d, sI_m1e, sI_m1f, sI_m2a, sI_m2b, sI_sub, pk_mul, sI_dec, fk_u_s, fk_u_o, sI_dec0, sI_z, sI_md, Bool.false_eq_true, Nat.reduceAdd, Nat.reduceMul, Nat.reduceSub, Nat.reduceMod, Nat.reduceDiv]
    · have hrd := mX12_isRoad (N := N) (l := l) (d := d + 6) (y := y) (r := r)
      rw [fk_b_f fun z => hr ⟨z.1, z.2.1⟩] at hrd
      refine ⟨(-1), y, y, ?_, ?_, hR⟩
      · have htd : fk_ev (d + 7) qX5_isTold 0 [.ref 18, .int r] [] (fk_E N y l) = some (some (.int ((nI 0))), fk_E N y l) := by
          simp (disch := first | assumption | omega) only [rX5_isTold, mX11_within, hr, Option.bind_some, Option.toList_some, Option.toList_none, List.cons_append, List.nil_append, fk_b_0, nI_add, Nat.add_zero, Nat.zero_add, not_true_eq_false, not_false_eq_true, if_true, if_false, sI_le_t, sI_le_f, sI_lt_t, sI_lt_f, sI_eq_t, sI_eq_f, sI_rem, sI_div, sI_m1a, sI_m1b, sI_m1c, sI_m1d, sI_m1e, sI_m1f, sI_m2a, sI_m2b, sI_sub, pk_mul, sI_dec, fk_u_s, fk_u_o, sI_dec0, sI_z, sI_md, Bool.false_eq_true, Nat.reduceAdd, Nat.reduceMul, Nat.reduceSub, Nat.reduceMod, Nat.reduceDiv]
        simp (disch := first | assumption | omega) only [rX11_gladly, ha1, htd, Option.bind_some, Option.toList_some, Option.toList_none, List.cons_append, List.nil_append, fk_b_0, nI_add, Nat.add_zero, Nat.zero_add, not_true_eq_false, not_false_eq_true, if_true, if_false, sI_le_t, sI_le_f, sI_lt_t, sI_lt_f, sI_eq_t, sI_eq_f, sI_rem, sI_div, sI_m1a, sI_m1b, sI_m1c, sI_m1d, sI_m1e, sI_m1f, sI_m2a, sI_m2b, sI_sub, pk_mul, sI_dec, fk_u_s, fk_u_o, sI_dec0, sI_z, sI_md, Bool.false_eq_true, Nat.reduceAdd, Nat.reduceMul, Nat.reduceSub, Nat.reduceMod, Nat.reduceDiv]
      · simp (disch := first | assumption | omega) only [rX12_gladly, ha2, hrd, Option.bind_some, Option.toList_some, Option.toList_none, List.cons_append, List.nil_append, fk_b_0, nI_add, Nat.add_zero, Nat.zero_add, not_true_eq_false, not_false_eq_true, if_true, if_false, sI_le_t, sI_le_f, sI_lt_t, sI_lt_f, sI_eq_t, sI_eq_f, sI_rem, sI_div, sI_m1a, sI_m1b, sI_m1c, sI_m1d, sI_m1e, sI_m1f, sI_m2a, sI_m2b, sI_sub, pk_mul, sI_dec, fk_u_s, fk_u_o, sI_dec0, sI_z, sI_md, Bool.false_eq_true, Nat.reduceAdd, Nat.reduceMul, Nat.reduceSub, Nat.reduceMod, Nat.reduceDiv]
  · rw [fk_b_f hj] at ha1 ha2
    refine ⟨(-1), y, y, ?_, ?_, hR⟩
    · simp (disch := first | assumption | omega) only [rX11_gladly, ha1, Option.bind_some, Option.toList_some, Option.toList_none, List.cons_append, List.nil_append, fk_b_0, nI_add, Nat.add_zero, Nat.zero_add, not_true_eq_false, not_false_eq_true, if_true, if_false, sI_le_t, sI_le_f, sI_lt_t, sI_lt_f, sI_eq_t, sI_eq_f, sI_rem, sI_div, sI_m1a, sI_m1b, sI_m1c, sI_m1d, sI_m1e, sI_m1f, sI_m2a, sI_m2b, sI_sub, pk_mul, sI_dec, fk_u_s, fk_u_o, sI_dec0, sI_z, sI_md, Bool.false_eq_true, Nat.reduceAdd, Nat.reduceMul, Nat.reduceSub, Nat.reduceMod, Nat.reduceDiv]
    · simp (disch := first | assumption | omega) only [rX12_gladly, ha2, Option.bind_some, Option.toList_some, Option.toList_none, List.cons_append, List.nil_append, fk_b_0, nI_add, Nat.add_zero, Nat.zero_add, not_true_eq_false, not_false_eq_true, if_true, if_false, sI_le_t, sI_le_f, sI_lt_t, sI_lt_f, sI_eq_t, sI_eq_f, sI_rem, sI_div, sI_m1a, sI_m1b, sI_m1c, sI_m1d, sI_m1e, sI_m1f, sI_m2a, sI_m2b, sI_sub, pk_mul, sI_dec, fk_u_s, fk_u_o, sI_dec0, sI_z, sI_md, Bool.false_eq_true, Nat.reduceAdd, Nat.reduceMul, Nat.reduceSub, Nat.reduceMod, Nat.reduceDiv]
end CL9
section CL9b
variable {N : Nat} {S : Nat → Int32} {v y y1 y2 : Nat → Nat → Int32} {l : Nat → Nat → Int64} {d p p' n H t : Nat} {T A A' : Nat → Int32}
theorem nI_subI {a b : Nat} (ha : a < 2147483648) (hb : b < 2147483648) : (nI a - nI b).toInt = (a : Int) - b := by
  rw [Int32.toInt_sub, fk_toInt_nI ha, fk_toInt_nI hb]
  exact Int.bmod_eq_of_le (by omega) (by omega)
/-- an hour that is remembered -/
abbrev ab_rb (H : Nat) (t : Int32) : Prop := 0 ≤ t.toInt ∧ t.toInt ≤ (H : Int) ∧ (H : Int) - 48 < t.toInt
theorem mX7_isRemembered {t : Int32} (e3 : y 33 3 = nI H) (hH : H < 1000) : fk_ev d qX7_isRemembered 0 [.ref 234, .ref 33, .int t] [] (fk_E N y l) = some (some (.int ((fk_b (ab_rb H t)))), fk_E N y l) := by
  have h8 := n8
  by_cases h1 : t < nI 0
  · simp (disch := first | assumption | omega) only [rX7_isRemembered, h1, Option.bind_some, Option.toList_some, Option.toList_none, List.cons_append, List.nil_append, fk_b_0, nI_add, Nat.add_zero, Nat.zero_add, not_true_eq_false, not_false_eq_true, if_true, if_false, sI_le_t, sI_le_f, sI_lt_t, sI_lt_f, sI_eq_t, sI_eq_f, sI_rem, sI_div, sI_m1a, sI_m1b, sI_m1c, sI_m1d, sI_m1e, sI_m1f, sI_m2a, sI_m2b, sI_sub, pk_mul, sI_dec, fk_u_s, fk_u_o, sI_dec0, sI_z, sI_md, Bool.false_eq_true, Nat.reduceAdd, Nat.reduceMul, Nat.reduceSub, Nat.reduceMod, Nat.reduceDiv]
    rw [Int32.lt_iff_toInt_lt, fk_toInt_nI (by omega)] at h1
    rw [fk_b_f (by omega)]
  · by_cases h2 : nI H < t
    · simp (disch := first | assumption | omega) only [rX7_isRemembered, h1, e3, h2, Option.bind_some, Option.toList_some, Option.toList_none, List.cons_append, List.nil_append, fk_b_0, nI_add, Nat.add_zero, Nat.zero_add, not_true_eq_false, not_false_eq_true, if_true, if_false, sI_le_t, sI_le_f, sI_lt_t, sI_lt_f, sI_eq_t, sI_eq_f, sI_rem, sI_div, sI_m1a, sI_m1b, sI_m1c, sI_m1d, sI_m1e, sI_m1f, sI_m2a, sI_m2b, sI_sub, pk_mul, sI_dec, fk_u_s, fk_u_o, sI_dec0, sI_z, sI_md, Bool.false_eq_true, Nat.reduceAdd, Nat.reduceMul, Nat.reduceSub, Nat.reduceMod, Nat.reduceDiv]
      rw [Int32.lt_iff_toInt_lt, fk_toInt_nI (by omega)] at h2
      rw [fk_b_f (by omega)]
    · by_cases h3 : t ≤ nI H - nI 48
      · simp (disch := first | assumption | omega) only [rX7_isRemembered, h1, e3, h2, h3, Option.bind_some, Option.toList_some, Option.toList_none, List.cons_append, List.nil_append, fk_b_0, nI_add, Nat.add_zero, Nat.zero_add, not_true_eq_false, not_false_eq_true, if_true, if_false, sI_le_t, sI_le_f, sI_lt_t, sI_lt_f, sI_eq_t, sI_eq_f, sI_rem, sI_div, sI_m1a, sI_m1b, sI_m1c, sI_m1d, sI_m1e, sI_m1f, sI_m2a, sI_m2b, sI_sub, pk_mul, sI_dec, fk_u_s, fk_u_o, sI_dec0, sI_z, sI_md, Bool.false_eq_true, Nat.reduceAdd, Nat.reduceMul, Nat.reduceSub, Nat.reduceMod, Nat.reduceDiv]
        rw [Int32.le_iff_toInt_le, nI_subI (by omega) (by omega)] at h3
        rw [fk_b_f (by omega)]
      · simp (disch := first | assumption | omega) only [rX7_isRemembered, h1, e3, h2, h3, Option.bind_some, Option.toList_some, Option.toList_none, List.cons_append, List.nil_append, fk_b_0, nI_add, Nat.add_zero, Nat.zero_add, not_true_eq_false, not_false_eq_true, if_true, if_false, sI_le_t, sI_le_f, sI_lt_t, sI_lt_f, sI_eq_t, sI_eq_f, sI_rem, sI_div, sI_m1a, sI_m1b, sI_m1c, sI_m1d, sI_m1e, sI_m1f, sI_m2a, sI_m2b, sI_sub, pk_mul, sI_dec, fk_u_s, fk_u_o, sI_dec0, sI_z, sI_md, Bool.false_eq_true, Nat.reduceAdd, Nat.reduceMul, Nat.reduceSub, Nat.reduceMod, Nat.reduceDiv]
        rw [Int32.le_iff_toInt_le, nI_subI (by omega) (by omega)] at h3
        rw [Int32.lt_iff_toInt_lt, fk_toInt_nI (by omega)] at h1 h2
        rw [fk_b_t (by omega)]
theorem mX12_isRemembered {t : Int32} (e3 : y 247 832 = nI H) (hH : H < 1000) : fk_ev (d + 1) qX12_isRemembered 0 [.ref 246, .int t] [] (fk_E N y l) = some (some (.int ((fk_b (ab_rb H t)))), fk_E N y l) := by
  have e : (if nI H - nI 48 + nI 1 < nI 0 then nI 0 else nI H - nI 48 + nI 1) = nI (H - 47) := by
    by_cases h : 48 ≤ H
    · rw [sI_sub h, nI_add, show H - 48 + 1 = H - 47 by omega]
      exact if_neg (Int32.not_lt.mpr (nI_le (by omega) (by omega)))
    · have e1 : (nI H - nI 48 + nI 1).toInt = (H : Int) - 47 := by
        rw [Int32.toInt_add, nI_subI (by omega) (by omega), fk_toInt_nI (by omega)]
        rw [Int.bmod_eq_of_le (by omega) (by omega)]
        omega
      by_cases h2 : H = 47
      · subst h2; decide
      · rw [if_pos (by rw [Int32.lt_iff_toInt_lt, e1, fk_toInt_nI (by omega)]; omega), show H - 47 = 0 by omega]
  have key : fk_b (nI (H - 47) ≤ t ∧ t ≤ nI H) = fk_b (ab_rb H t) := by
    by_cases h : ab_rb H t
    · rw [fk_b_t h, fk_b_t]
      rw [Int32.le_iff_toInt_le, Int32.le_iff_toInt_le, fk_toInt_nI (by omega), fk_toInt_nI (by omega)]
      omega
    · rw [fk_b_f h, fk_b_f]
      rw [Int32.le_iff_toInt_le, Int32.le_iff_toInt_le, fk_toInt_nI (by omega), fk_toInt_nI (by omega)]
      omega
  simp (disch := first | assumption | omega) only [rX12_isRemembered, mX12_max, mX12_in, e3, e, Option.bind_some, Option.toList_some, List.cons_append, List.nil_append, key]
/-- who a half was when an hour began -/
abbrev ab_C (A : Nat → Int32) (h w : Nat) : Prop := nI 0 ≤ A (64 + w) ∧ nI h ≤ A (128 + w)
def ab_anc (A : Nat → Int32) (h : Nat) : Nat → Nat → Nat
  | 0, j => j
  | k + 1, j => if ab_C A h j then ab_anc A h k (A (64 + j)).toNatClampNeg else j
theorem ab_anc_spec (ho : ab_ok v n H A) (h : Nat) : ∀ k j, j < k → j < n → ab_anc A h k j ≤ j ∧ ¬ ab_C A h (ab_anc A h k j) ∧ ∀ {ρ : Type} (ev : Nat → Int32 → ρ), (∀ up w, w < n → up < 64 → ab_C A h w → ev up (nI w) = ev (up + 1) (A (64 + w))) → ∀ up, up + j < 64 → ∃ up', up' + ab_anc A h k j < 64 ∧ ev up (nI j) = ev up' (nI (ab_anc A h k j)) := by
  intro k
  induction k with
  | zero => intro j hj; omega
  | succ k ih =>
    intro j hj hjn
    unfold ab_anc
    by_cases hc : ab_C A h j
    · rw [if_pos hc]
      rcases (ho.2.2.2.2.2.1 j hjn).2.1 with e | ⟨p, hp, e⟩
      · have := hc.1
        rw [e] at this
        exact absurd this (by decide)
      · have hn := ho.1
        rw [e, nI_clamp (by omega)]
        obtain ⟨i1, i2, i3⟩ := ih p (by omega) (by omega)
        refine ⟨by omega, i2, fun ev hev up hup => ?_⟩
        obtain ⟨up', u1, u2⟩ := i3 ev hev (up + 1) (by omega)
        exact ⟨up', u1, by rw [hev up j hjn (by omega) hc, e]; exact u2⟩
    · rw [if_neg hc]
      exact ⟨Nat.le_refl _, hc, fun ev hev up hup => ⟨up, hup, rfl⟩⟩
def ab_was (A : Nat → Int32) (H h j : Nat) : Int32 := if h = H then (if A (192 + ab_anc A h 64 j) = nI 1 ∧ nI 0 ≤ A (320 + ab_anc A h 64 j) then A (320 + ab_anc A h 64 j) else (-2)) else A (840 + 64 * (h % 48) + ab_anc A h 64 j)
theorem mX7_isBeforeIt {w h : Nat} (ho : ab_ok v n H A) (hp : ck_pr 33 y (fun _ => nI 0) A) (hw : w < n) : fk_ev (d + 2) qX7_isBeforeIt 0 [.ref 234, .ref 33, .int ((nI w)), .int ((nI h))] [] (fk_E N y l) = some (some (.int ((fk_b (ab_C A h w)))), fk_E N y l) := by
  have h8 := n8
  have h24 := n24
  have h34 := n34
  have hn := ho.1
  have hh := n_h (show w < 64 by omega)
  have eb : y 33 2 = nI n := hp.1.1.trans ho.2.1
  have hb := mX8_hasBeen (N := N) (l := l) (d := d) (j := nI w) (Or.inl rfl) eb
  rw [fk_b_t ⟨nI_le (by omega) (by omega), nI_lt hw (by omega)⟩] at hb
  obtain ⟨a1, a2, a3, _⟩ := hp.2.2.1 w (by omega) (by rw [ab_ok_n ho]; exact hw)
  rw [show 33 + 3 + w = 36 + w by omega] at a2 a3
  by_cases c1 : A (64 + w) < nI 0
  · simp (disch := first | assumption | omega) only [rX7_isBeforeIt, hb, nc0, a2, c1, Option.bind_some, Option.toList_some, Option.toList_none, List.cons_append, List.nil_append, fk_b_0, nI_add, Nat.add_zero, Nat.zero_add, not_true_eq_false, not_false_eq_true, if_true, if_false, sI_le_t, sI_le_f, sI_lt_t, sI_lt_f, sI_eq_t, sI_eq_f, sI_rem, sI_div, sI_m1a, sI_m1b, sI_m1c, sI_m1d, sI_m1e, sI_m1f, sI_m2a, sI_m2b, sI_sub, pk_mul, sI_dec, fk_u_s, fk_u_o, sI_dec0, sI_z, sI_md, Bool.false_eq_true, Nat.reduceAdd, Nat.reduceMul, Nat.reduceSub, Nat.reduceMod, Nat.reduceDiv]
    rw [fk_b_f fun z => Int32.not_le.mpr c1 z.1]
  · by_cases c2 : A (128 + w) < nI h
    · simp (disch := first | assumption | omega) only [rX7_isBeforeIt, hb, nc0, a2, c1, a3, c2, Option.bind_some, Option.toList_some, Option.toList_none, List.cons_append, List.nil_append, fk_b_0, nI_add, Nat.add_zero, Nat.zero_add, not_true_eq_false, not_false_eq_true, if_true, if_false, sI_le_t, sI_le_f, sI_lt_t, sI_lt_f, sI_eq_t, sI_eq_f, sI_rem, sI_div, sI_m1a, sI_m1b, sI_m1c, sI_m1d, sI_m1e, sI_m1f, sI_m2a, sI_m2b, sI_sub, pk_mul, sI_dec, fk_u_s, fk_u_o, sI_dec0, sI_z, sI_md, Bool.false_eq_true, Nat.reduceAdd, Nat.reduceMul, Nat.reduceSub, Nat.reduceMod, Nat.reduceDiv]
      rw [fk_b_f fun z => Int32.not_le.mpr c2 z.2]
    · simp (disch := first | assumption | omega) only [rX7_isBeforeIt, hb, nc0, a2, c1, a3, c2, Option.bind_some, Option.toList_some, Option.toList_none, List.cons_append, List.nil_append, fk_b_0, nI_add, Nat.add_zero, Nat.zero_add, not_true_eq_false, not_false_eq_true, if_true, if_false, sI_le_t, sI_le_f, sI_lt_t, sI_lt_f, sI_eq_t, sI_eq_f, sI_rem, sI_div, sI_m1a, sI_m1b, sI_m1c, sI_m1d, sI_m1e, sI_m1f, sI_m2a, sI_m2b, sI_sub, pk_mul, sI_dec, fk_u_s, fk_u_o, sI_dec0, sI_z, sI_md, Bool.false_eq_true, Nat.reduceAdd, Nat.reduceMul, Nat.reduceSub, Nat.reduceMod, Nat.reduceDiv]
      rw [fk_b_t ⟨Int32.not_lt.mp c1, Int32.not_lt.mp c2⟩]
theorem mX7_whereWas {h j : Nat} (ho : ab_ok v n H A) (hp : ck_pr 33 y (fun _ => nI 0) A) (hq : ∀ i, i < 3072 → y 235 i = A (840 + i)) (hj : j < n) (h1 : h ≤ H) (h2 : H < h + 48) : fk_ev (d + 3) qX7_whereWas 0 [.ref 234, .ref 33, .int ((nI j)), .int ((nI h)), .null, .null] [] (fk_E N y l) = some (some (.int ((ab_was A H h j))), fk_E N y l) := by
  have h8 := n8
  have h24 := n24
  have h34 := n34
  have h234 : fk_at 234 7 := ⟨by decide, by decide, by decide +kernel⟩
  have h235 : fk_at 235 20 := ⟨by decide, by decide, by decide +kernel⟩
  have s235 : (fk_shp 235).2 = 3072 := by decide +kernel
  have c234 : fk_cr 234 0 = 235 := by decide
  have hn := ho.1
  have hH := ho.2.2.2.1
  have e3 : y 33 3 = nI H := hp.1.2.1.trans ho.2.2.1
  have hr := mX7_isRemembered (N := N) (l := l) (d := d + 2) (y := y) (t := nI h) e3 hH
  rw [fk_b_t (by rw [ab_rb, fk_toInt_nI (by omega)]; omega)] at hr
  obtain ⟨w1, w2, w3⟩ := ab_anc_spec ho h 64 j (by omega) hj
  obtain ⟨up, u1, u2⟩ := w3 (fun up w => fk_ev (d + 3) qX7_whereWas 18 [.ref 234, .ref 33, .int (nI j), .int (nI h), .int w, .int (nI up)] [] (fk_E N y l)) (by
    intro up w hw hup hc
    try dsimp only
    have hB := mX7_isBeforeIt (N := N) (l := l) (d := d) (h := h) ho hp hw
    rw [fk_b_t hc] at hB
    have hh := n_h (show w < 64 by omega)
    have a2 := (hp.2.2.1 w (by omega) (by rw [ab_ok_n ho]; exact hw)).2.1
    rw [show 33 + 3 + w = 36 + w by omega] at a2
    rw [hX7_whereWas_18]
    simp (disch := first | assumption | omega) only [rX7_whereWas, hB, nc0, a2, Option.bind_some, Option.toList_some, Option.toList_none, List.cons_append, List.nil_append, fk_b_0, nI_add, Nat.add_zero, Nat.zero_add, not_true_eq_false, not_false_eq_true, if_true, if_false, sI_le_t, sI_le_f, sI_lt_t, sI_lt_f, sI_eq_t, sI_eq_f, sI_rem, sI_div, sI_m1a, sI_m1b, sI_m1c, sI_m1d, sI_m1e, sI_m1f, sI_m2a, sI_m2b, sI_sub, pk_mul, sI_dec, fk_u_s, fk_u_o, sI_dec0, sI_z, sI_md, Bool.false_eq_true, Nat.reduceAdd, Nat.reduceMul, Nat.reduceSub, Nat.reduceMod, Nat.reduceDiv]) 0 (by omega)
  try dsimp only at u2
  simp (disch := first | assumption | omega) only [rX7_whereWas, hr, Option.bind_some, Option.toList_some, Option.toList_none, List.cons_append, List.nil_append, fk_b_0, nI_add, Nat.add_zero, Nat.zero_add, not_true_eq_false, not_false_eq_true, if_true, if_false, sI_le_t, sI_le_f, sI_lt_t, sI_lt_f, sI_eq_t, sI_eq_f, sI_rem, sI_div, sI_m1a, sI_m1b, sI_m1c, sI_m1d, sI_m1e, sI_m1f, sI_m2a, sI_m2b, sI_sub, pk_mul, sI_dec, fk_u_s, fk_u_o, sI_dec0, sI_z, sI_md, Bool.false_eq_true, Nat.reduceAdd, Nat.reduceMul, Nat.reduceSub, Nat.reduceMod, Nat.reduceDiv]
  rw [u2, hX7_whereWas_18]
  unfold ab_was
  generalize ab_anc A h 64 j = w at w1 w2 u1 u2 ⊢
  have hB := mX7_isBeforeIt (N := N) (l := l) (d := d) (h := h) ho hp (show w < n by omega)
  rw [fk_b_f w2] at hB
  have hA := n_at (N := N) (l := l) (d := d + 1) (j := nI w) hn ho.2.1 hp
  rw [nI_clamp (by omega)] at hA
  have hh := n_h (show w < 64 by omega)
  have a6 := (hp.2.2.1 w (by omega) (by rw [ab_ok_n ho]; omega)).2.2.2.2.2.1
  rw [show 33 + 3 + w = 36 + w by omega] at a6
  by_cases e : h = H
  · subst e
    rw [if_pos rfl]
    by_cases c : A (192 + w) = nI 1 ∧ nI 0 ≤ A (320 + w)
    · rw [if_pos c]
      rw [fk_b_t ⟨⟨nI_le (by omega) (by omega), nI_lt (show w < n by omega) (by omega)⟩, c⟩] at hA
      simp (disch := first | assumption | omega) only [rX7_whereWas, hB, e3, hA, nc0, a6, Option.bind_some, Option.toList_some, Option.toList_none, List.cons_append, List.nil_append, fk_b_0, nI_add, Nat.add_zero, Nat.zero_add, not_true_eq_false, not_false_eq_true, if_true, if_false, sI_le_t, sI_le_f, sI_lt_t, sI_lt_f, sI_eq_t, sI_eq_f, sI_rem, sI_div, sI_m1a, sI_m1b, sI_m1c, sI_m1d, sI_m1e, sI_m1f, sI_m2a, sI_m2b, sI_sub, pk_mul, sI_dec, fk_u_s, fk_u_o, sI_dec0, sI_z, sI_md, Bool.false_eq_true, Nat.reduceAdd, Nat.reduceMul, Nat.reduceSub, Nat.reduceMod, Nat.reduceDiv]
    · rw [if_neg c]
      rw [fk_b_f fun z => c z.2] at hA
      simp (disch := first | assumption | omega) only [rX7_whereWas, hB, e3, hA, Option.bind_some, Option.toList_some, Option.toList_none, List.cons_append, List.nil_append, fk_b_0, nI_add, Nat.add_zero, Nat.zero_add, not_true_eq_false, not_false_eq_true, if_true, if_false, sI_le_t, sI_le_f, sI_lt_t, sI_lt_f, sI_eq_t, sI_eq_f, sI_rem, sI_div, sI_m1a, sI_m1b, sI_m1c, sI_m1d, sI_m1e, sI_m1f, sI_m2a, sI_m2b, sI_sub, pk_mul, sI_dec, fk_u_s, fk_u_o, sI_dec0, sI_z, sI_md, Bool.false_eq_true, Nat.reduceAdd, Nat.reduceMul, Nat.reduceSub, Nat.reduceMod, Nat.reduceDiv]
  · rw [if_neg e]
    have := hq (h % 48 * 64 + w) (by omega)
    simp (disch := first | assumption | omega) only [rX7_whereWas, hB, e3, mX11_within, and_self, c234, this, Option.bind_some, Option.toList_some, Option.toList_none, List.cons_append, List.nil_append, fk_b_0, nI_add, Nat.add_zero, Nat.zero_add, not_true_eq_false, not_false_eq_true, if_true, if_false, sI_le_t, sI_le_f, sI_lt_t, sI_lt_f, sI_eq_t, sI_eq_f, sI_rem, sI_div, sI_m1a, sI_m1b, sI_m1c, sI_m1d, sI_m1e, sI_m1f, sI_m2a, sI_m2b, sI_sub, pk_mul, sI_dec, fk_u_s, fk_u_o, sI_dec0, sI_z, sI_md, Bool.false_eq_true, Nat.reduceAdd, Nat.reduceMul, Nat.reduceSub, Nat.reduceMod, Nat.reduceDiv]
    rw [show 840 + (h % 48 * 64 + w) = 840 + 64 * (h % 48) + w by omega]
theorem mX12_wasAt {h j : Nat} (ho : ab_ok v n H A) (hw : ab_wp n H A) (hA7 : y 247 = A) (hj : j < n) (h1 : h ≤ H) (h2 : H < h + 48) : fk_ev (d + 3) qX12_wasAt 0 [.ref 246, .int ((nI j)), .int ((nI h)), .null] [] (fk_E N y l) = some (some (.int ((ab_was A H h j))), fk_E N y l) := by
  have hn := ho.1
  have hH := ho.2.2.2.1
  obtain ⟨w1, w2, w3⟩ := ab_anc_spec ho h 64 j (by omega) hj
  obtain ⟨up, u1, u2⟩ := w3 (fun _ w => fk_ev (d + 3) qX12_wasAt 2 [.ref 246, .int (nI j), .int (nI h), .int w] [] (fk_E N y l)) (by
    intro up w hw hup hc
    try dsimp only
    have z1 : ¬ A (64 + w) < nI 0 := Int32.not_lt.mpr hc.1
    have z2 : ¬ A (128 + w) < nI h := Int32.not_lt.mpr hc.2
    rw [hX12_wasAt_2]
    simp (disch := first | assumption | omega) only [rX12_wasAt, hA7, z1, z2, Option.bind_some, Option.toList_some, Option.toList_none, List.cons_append, List.nil_append, fk_b_0, nI_add, Nat.add_zero, Nat.zero_add, not_true_eq_false, not_false_eq_true, if_true, if_false, sI_le_t, sI_le_f, sI_lt_t, sI_lt_f, sI_eq_t, sI_eq_f, sI_rem, sI_div, sI_m1a, sI_m1b, sI_m1c, sI_m1d, sI_m1e, sI_m1f, sI_m2a, sI_m2b, sI_sub, pk_mul, sI_dec, fk_u_s, fk_u_o, sI_dec0, sI_z, sI_md, Bool.false_eq_true, Nat.reduceAdd, Nat.reduceMul, Nat.reduceSub, Nat.reduceMod, Nat.reduceDiv]) 0 (by omega)
  try dsimp only at u2
  simp (disch := first | assumption | omega) only [rX12_wasAt, Option.bind_some, Option.toList_some, Option.toList_none, List.cons_append, List.nil_append, fk_b_0, nI_add, Nat.add_zero, Nat.zero_add, not_true_eq_false, not_false_eq_true, if_true, if_false, sI_le_t, sI_le_f, sI_lt_t, sI_lt_f, sI_eq_t, sI_eq_f, sI_rem, sI_div, sI_m1a, sI_m1b, sI_m1c, sI_m1d, sI_m1e, sI_m1f, sI_m2a, sI_m2b, sI_sub, pk_mul, sI_dec, fk_u_s, fk_u_o, sI_dec0, sI_z, sI_md, Bool.false_eq_true, Nat.reduceAdd, Nat.reduceMul, Nat.reduceSub, Nat.reduceMod, Nat.reduceDiv]
  rw [u2, hX12_wasAt_2]
  unfold ab_was
  generalize ab_anc A h 64 j = w at w1 w2 u1 u2 ⊢
  obtain ⟨b, hb, eb⟩ := (ho.2.2.2.2.2.1 w (by omega)).2.2.1
  have hbH : b ≤ H := by
    have := hw.1 w (by omega)
    rw [eb, nI_clamp (by omega)] at this
    exact this
  have hA := mX12_isAtN (N := N) (l := l) (d := d) (y := y) (k := w) hn (by rw [hA7]; exact ho.2.1) (by omega)
  rw [hA7] at hA
  have start : fk_ev (d + 3) qX12_wasAt 3 [.ref 246, .int (nI j), .int (nI h), .int (nI w)] [.ref 246] (fk_E N y l) = fk_ev (d + 3) qX12_wasAt 41 [.ref 246, .int (nI j), .int (nI h), .int (nI w)] [] (fk_E N y l) := by
    by_cases c1 : A (64 + w) < nI 0
    · obtain ⟨q0, q1, q3, q6, q8, q9, q10, q11, _⟩ := rX12_wasAt
      simp (disch := omega) only [q3, q6, q8, q9, nI_add, q10, q11, hA7, if_pos c1]
    · have c2 : A (128 + w) < nI h := Int32.not_le.mp fun z => w2 ⟨Int32.not_lt.mp c1, z⟩
      obtain ⟨q0, q1, q3, q6, q8, q9, q10, q11, q14, q15, q16, q19, q22, q23, q24, q25, _⟩ := rX12_wasAt
      simp (disch := omega) only [q3, q6, q8, q9, nI_add, q10, q11, hA7, if_neg c1, q14, q15, q16, q19, q22, q23, q24, q25, if_pos c2]
  rw [start]
  by_cases cb : b ≤ h
  · have z1 : ¬ nI h < nI b := Int32.not_lt.mpr (nI_le cb (by omega))
    by_cases e : h = H
    · subst e
      rw [if_pos rfl]
      by_cases c : A (192 + w) = nI 1 ∧ nI 0 ≤ A (320 + w)
      · rw [if_pos c]
        rw [fk_b_t c] at hA
        simp (disch := first | assumption | omega) only [rX12_wasAt, hA7, eb, ho.2.2.1, hA, Option.bind_some, Option.toList_some, Option.toList_none, List.cons_append, List.nil_append, fk_b_0, nI_add, Nat.add_zero, Nat.zero_add, not_true_eq_false, not_false_eq_true, if_true, if_false, sI_le_t, sI_le_f, sI_lt_t, sI_lt_f, sI_eq_t, sI_eq_f, sI_rem, sI_div, sI_m1a, sI_m1b, sI_m1c, sI_m1d, sI_m1e, sI_m1f, sI_m2a, sI_m2b, sI_sub, pk_mul, sI_dec, fk_u_s, fk_u_o, sI_dec0, sI_z, sI_md, Bool.false_eq_true, Nat.reduceAdd, Nat.reduceMul, Nat.reduceSub, Nat.reduceMod, Nat.reduceDiv]
      · rw [if_neg c]
        rw [fk_b_f c] at hA
        simp (disch := first | assumption | omega) only [rX12_wasAt, hA7, eb, ho.2.2.1, hA, Option.bind_some, Option.toList_some, Option.toList_none, List.cons_append, List.nil_append, fk_b_0, nI_add, Nat.add_zero, Nat.zero_add, not_true_eq_false, not_false_eq_true, if_true, if_false, sI_le_t, sI_le_f, sI_lt_t, sI_lt_f, sI_eq_t, sI_eq_f, sI_rem, sI_div, sI_m1a, sI_m1b, sI_m1c, sI_m1d, sI_m1e, sI_m1f, sI_m2a, sI_m2b, sI_sub, pk_mul, sI_dec, fk_u_s, fk_u_o, sI_dec0, sI_z, sI_md, Bool.false_eq_true, Nat.reduceAdd, Nat.reduceMul, Nat.reduceSub, Nat.reduceMod, Nat.reduceDiv]
    · rw [if_neg e]
      simp (disch := first | assumption | omega) only [rX12_wasAt, hA7, eb, ho.2.2.1, Option.bind_some, Option.toList_some, Option.toList_none, List.cons_append, List.nil_append, fk_b_0, nI_add, Nat.add_zero, Nat.zero_add, not_true_eq_false, not_false_eq_true, if_true, if_false, sI_le_t, sI_le_f, sI_lt_t, sI_lt_f, sI_eq_t, sI_eq_f, sI_rem, sI_div, sI_m1a, sI_m1b, sI_m1c, sI_m1d, sI_m1e, sI_m1f, sI_m2a, sI_m2b, sI_sub, pk_mul, sI_dec, fk_u_s, fk_u_o, sI_dec0, sI_z, sI_md, Bool.false_eq_true, Nat.reduceAdd, Nat.reduceMul, Nat.reduceSub, Nat.reduceMod, Nat.reduceDiv]
  · have e : h ≠ H := by omega
    rw [if_neg e, hw.2 h w (by omega) h2 (by omega) fun _ => by rw [eb, nI_clamp (by omega)]; omega]
    simp (disch := first | assumption | omega) only [rX12_wasAt, hA7, eb, Option.bind_some, Option.toList_some, Option.toList_none, List.cons_append, List.nil_append, fk_b_0, nI_add, Nat.add_zero, Nat.zero_add, not_true_eq_false, not_false_eq_true, if_true, if_false, sI_le_t, sI_le_f, sI_lt_t, sI_lt_f, sI_eq_t, sI_eq_f, sI_rem, sI_div, sI_m1a, sI_m1b, sI_m1c, sI_m1d, sI_m1e, sI_m1f, sI_m2a, sI_m2b, sI_sub, pk_mul, sI_dec, fk_u_s, fk_u_o, sI_dec0, sI_z, sI_md, Bool.false_eq_true, Nat.reduceAdd, Nat.reduceMul, Nat.reduceSub, Nat.reduceMod, Nat.reduceDiv]
theorem cl_was (hR : cR S y) {j t : Int32} : ∃ a, fk_ev (d + 8) qX11_was 0 [.ref 1, .int j, .int t] [] (fk_E N y l) = some (some (.int a), fk_E N y l) ∧ fk_ev (d + 8) qX12_was 0 [.ref 246, .int j, .int t] [] (fk_E N y l) = some (some (.int a), fk_E N y l) := by
  obtain ⟨r0, r1, r2, ⟨n, H, p1, p2, p3, p4⟩, r4, r5, r6, r7, r8, r9⟩ := id hR
  have hn := p1.1
  have hm := p1.2.1
  have hH := p1.2.2.2.1
  have h8 := n8
  have h234 : fk_at 234 7 := ⟨by decide, by decide, by decide +kernel⟩
  have eb : y 33 2 = nI n := p3.1.1.trans hm
  have e3 : y 33 3 = nI H := p3.1.2.1.trans p1.2.2.1
  have hb := mX8_hasBeen (N := N) (l := l) (d := d + 6) (j := j) (Or.inl rfl) eb
  have hi := mX12_isHalf (N := N) (l := l) (d := d + 7) (y := y) (j := j)
  rw [hm] at hi
  by_cases hj : nI 0 ≤ j ∧ j < nI n
  · rw [fk_b_t hj] at hb hi
    obtain ⟨jq1, jq2⟩ := hj; obtain ⟨j, hj, rfl⟩ := fk_ixn jq1 jq2 (by omega)
    have h12 := mX12_isRemembered (N := N) (l := l) (d := d + 6) (y := y) (t := t) p1.2.2.1 hH
    have h7 := mX7_isRemembered (N := N) (l := l) (d := d + 6) (y := y) (t := t) e3 hH
    by_cases ht : ab_rb H t
    · obtain ⟨t, ht2, rfl⟩ := fk_ixn2 (x := t) (n := H) (by rw [Int32.le_iff_toInt_le, fk_toInt_nI (by omega)]; exact ht.1) (by rw [Int32.le_iff_toInt_le, fk_toInt_nI (by omega)]; exact ht.2.1) (by omega)
      rw [fk_b_t ht] at h12
      have ht3 := ht.2.2
      rw [fk_toInt_nI (by omega)] at ht3
      refine ⟨ab_was (y 247) H t j, ?_, ?_⟩
      · simp (disch := first | assumption | omega) only [rX11_was, hb, mX7_whereWas p1 p3 p4 hj ht2 (show H < t + 48 by omega), Option.bind_some, Option.toList_some, Option.toList_none, List.cons_append, List.nil_append, fk_b_0, nI_add, Nat.add_zero, Nat.zero_add, not_true_eq_false, not_false_eq_true, if_true, if_false, sI_le_t, sI_le_f, sI_lt_t, sI_lt_f, sI_eq_t, sI_eq_f, sI_rem, sI_div, sI_m1a, sI_m1b, sI_m1c, sI_m1d, sI_m1e, sI_m1f, sI_m2a, sI_m2b, sI_sub, pk_mul, sI_dec, fk_u_s, fk_u_o, sI_dec0, sI_z, sI_md, Bool.false_eq_true, Nat.reduceAdd, Nat.reduceMul, Nat.reduceSub, Nat.reduceMod, Nat.reduceDiv]
      · simp (disch := first | assumption | omega) only [rX12_was, hi, h12, mX12_wasAt p1 p2 rfl hj ht2 (show H < t + 48 by omega), Option.bind_some, Option.toList_some, Option.toList_none, List.cons_append, List.nil_append, fk_b_0, nI_add, Nat.add_zero, Nat.zero_add, not_true_eq_false, not_false_eq_true, if_true, if_false, sI_le_t, sI_le_f, sI_lt_t, sI_lt_f, sI_eq_t, sI_eq_f, sI_rem, sI_div, sI_m1a, sI_m1b, sI_m1c, sI_m1d, sI_m1e, sI_m1f, sI_m2a, sI_m2b, sI_sub, pk_mul, sI_dec, fk_u_s, fk_u_o, sI_dec0, sI_z, sI_md, Bool.false_eq_true, Nat.reduceAdd, Nat.reduceMul, Nat.reduceSub, Nat.reduceMod, Nat.reduceDiv]
    · rw [fk_b_f ht] at h12 h7
      refine ⟨(-3), ?_, ?_⟩
      · have hww : fk_ev (d + 7) qX7_whereWas 0 [.ref 234, .ref 33, .int ((nI j)), .int t, .null, .null] [] (fk_E N y l) = some (some (.int ((-3))), fk_E N y l) := by
          simp (disch := first | assumption | omega) only [rX7_whereWas, h7, Option.bind_some, Option.toList_some, Option.toList_none, List.cons_append, List.nil_append, fk_b_0, nI_add, Nat.add_zero, Nat.zero_add, not_true_eq_false, not_false_eq_true, if_true, if_false, sI_le_t, sI_le_f, sI_lt_t, sI_lt_f, sI_eq_t, sI_eq_f, sI_rem, sI_div, sI_m1a, sI_m1b, sI_m1c, sI_m1d, sI_m1e, sI_m1f, sI_m2a, sI_m2b, sI_sub, pk_mul, sI_dec, fk_u_s, fk_u_o, sI_dec0, sI_z, sI_md, Bool.false_eq_true, Nat.reduceAdd, Nat.reduceMul, Nat.reduceSub, Nat.reduceMod, Nat.reduceDiv]
        simp (disch := first | assumption | omega) only [rX11_was, hb, hww, Option.bind_some, Option.toList_some, Option.toList_none, List.cons_append, List.nil_append, fk_b_0, nI_add, Nat.add_zero, Nat.zero_add, not_true_eq_false, not_false_eq_true, if_true, if_false, sI_le_t, sI_le_f, sI_lt_t, sI_lt_f, sI_eq_t, sI_eq_f, sI_rem, sI_div, sI_m1a, sI_m1b, sI_m1c, sI_m1d, sI_m1e, sI_m1f, sI_m2a, sI_m2b, sI_sub, pk_mul, sI_dec, fk_u_s, fk_u_o, sI_dec0, sI_z, sI_md, Bool.false_eq_true, Nat.reduceAdd, Nat.reduceMul, Nat.reduceSub, Nat.reduceMod, Nat.reduceDiv]
      · simp (disch := first | assumption | omega) only [rX12_was, hi, h12, Option.bind_some, Option.toList_some, Option.toList_none, List.cons_append, List.nil_append, fk_b_0, nI_add, Nat.add_zero, Nat.zero_add, not_true_eq_false, not_false_eq_true, if_true, if_false, sI_le_t, sI_le_f, sI_lt_t, sI_lt_f, sI_eq_t, sI_eq_f, sI_rem, sI_div, sI_m1a, sI_m1b, sI_m1c, sI_m1d, sI_m1e, sI_m1f, sI_m2a, sI_m2b, sI_sub, pk_mul, sI_dec, fk_u_s, fk_u_o, sI_dec0, sI_z, sI_md, Bool.false_eq_true, Nat.reduceAdd, Nat.reduceMul, Nat.reduceSub, Nat.reduceMod, Nat.reduceDiv]
  · rw [fk_b_f hj] at hb hi
    refine ⟨(-1), ?_, ?_⟩
    · simp (disch := first | assumption | omega) only [rX11_was, hb, Option.bind_some, Option.toList_some, Option.toList_none, List.cons_append, List.nil_append, fk_b_0, nI_add, Nat.add_zero, Nat.zero_add, not_true_eq_false, not_false_eq_true, if_true, if_false, sI_le_t, sI_le_f, sI_lt_t, sI_lt_f, sI_eq_t, sI_eq_f, sI_rem, sI_div, sI_m1a, sI_m1b, sI_m1c, sI_m1d, sI_m1e, sI_m1f, sI_m2a, sI_m2b, sI_sub, pk_mul, sI_dec, fk_u_s, fk_u_o, sI_dec0, sI_z, sI_md, Bool.false_eq_true, Nat.reduceAdd, Nat.reduceMul, Nat.reduceSub, Nat.reduceMod, Nat.reduceDiv]
    · simp (disch := first | assumption | omega) only [rX12_was, hi, Option.bind_some, Option.toList_some, Option.toList_none, List.cons_append, List.nil_append, fk_b_0, nI_add, Nat.add_zero, Nat.zero_add, not_true_eq_false, not_false_eq_true, if_true, if_false, sI_le_t, sI_le_f, sI_lt_t, sI_lt_f, sI_eq_t, sI_eq_f, sI_rem, sI_div, sI_m1a, sI_m1b, sI_m1c, sI_m1d, sI_m1e, sI_m1f, sI_m2a, sI_m2b, sI_sub, pk_mul, sI_dec, fk_u_s, fk_u_o, sI_dec0, sI_z, sI_md, Bool.false_eq_true, Nat.reduceAdd, Nat.reduceMul, Nat.reduceSub, Nat.reduceMod, Nat.reduceDiv]
end CL9b
