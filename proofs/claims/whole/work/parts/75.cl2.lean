section CL2
variable {N : Nat} {S : Nat → Int32} {v y y1 y2 : Nat → Nat → Int32} {l : Nat → Nat → Int64} {d p n H : Nat} {A A' : Nat → Int32}
def ck_wc (y : Nat → Nat → Int32) (p n o : Nat) (q : Int32) : Nat → Nat → Int32 :=
  fk_u (fk_u (fk_u (fk_u (fk_u (fk_u (fk_u (fk_u (fk_u (fk_u (fk_u (fk_u (fk_u (fk_u (fk_u (fk_u y (p + 3 + n) 1 (nI o)) (p + 3 + n) 2 (-2)) (p + 3 + n) 3 (y p 3)) (p + 3 + n) 4 (nI 1)) (p + 3 + n) 5 (nI 4096)) (p + 3 + n) 6 q) (p + 3 + n) 7 (-2)) (p + 3 + n) 8 (nI 0)) (p + 3 + n) 9 (nI 0)) (p + 3 + n) 10 (nI 0)) (p + 3 + n) 11 (nI 0)) (p + 3 + n) 12 (nI 0)) (p + 3 + n) 13 (-2)) (p + 3 + n) 14 (nI 0)) p 2 (nI (n + 1))) (p + 2) o (y (p + 2) o + nI 1)
set_option maxRecDepth 10000 in
theorem mX8_welcome {o : Nat} {q : Int32} (hp : ck_pp p) (hn : n < 64) (ho : o < 4) (eb : y p 2 = nI n) : fk_ev (d + 2) qX8_welcome 0 [.ref p, .int ((nI o)), .int q, .null] [] (fk_E N y l) = some (some (.int ((nI n))), fk_E N (ck_wc y p n o q) l) := by
  obtain ⟨h8, c0, c1, h24, s24, h20, s20, p1, p2⟩ := ck_pp_at hp
  have hp' : p = 33 ∨ p = 100 ∨ p = 167 := hp
  have hh := ck_pp_h hp hn
  simp (disch := first | assumption | omega) only [rX8_welcome, mX11_within, and_self, eb, c0, ck_p3 (p := p), mX0_beNew hh, c1, Option.bind_some, Option.toList_some, Option.toList_none, List.cons_append, List.nil_append, fk_b_0, nI_add, Nat.add_zero, Nat.zero_add, not_true_eq_false, not_false_eq_true, if_true, if_false, sI_le_t, sI_le_f, sI_lt_t, sI_lt_f, sI_eq_t, sI_eq_f, sI_rem, sI_div, sI_m1a, sI_m1b, sI_m1c, sI_m1d, sI_m1e, sI_m1f, sI_m2a, sI_m2b, sI_sub, pk_mul, sI_dec, fk_u_s, fk_u_o, sI_dec0, sI_z, sI_md, Bool.false_eq_true, Nat.reduceAdd, Nat.reduceMul, Nat.reduceSub, Nat.reduceMod, Nat.reduceDiv]
  rfl
def ab_wc (A : Nat → Int32) (n : Nat) (o q : Int32) : Nat → Int32 := fk_w (fk_w (ab_bg A n o (-2) (nI 4096)) (320 + n) q) (384 + n) (-2)
theorem ab_wc_at {o q : Int32} (hn : n < 64) (i : Nat) : ab_wc A n o q i =
    if i = 384 + n then (-2) else if i = 320 + n then q else if i = 768 + n then nI 0 else if i = 704 + n then nI 0 else if i = 640 + n then (-2) else if i = 576 + n then nI 0 else if i = 512 + n then nI 0 else if i = 448 + n then nI 0 else if i = 256 + n then nI 4096 else if i = 192 + n then nI 1 else if i = 128 + n then A 832 else if i = 64 + n then (-2) else if i = n then o else if i = 833 then nI (n + 1) else A i := rfl
set_option maxRecDepth 10000 in
theorem ck_pr_wc {T : Nat → Int32} {o : Nat} {q : Int32} (hp : ck_pp p) (h : ck_pr p y T A) (ho : ab_ok v n H A) (hn : n < 64) (ho4 : o < 4) : ck_pr p (ck_wc y p n o q) T (ab_wc A n (nI o) q) := by
  have hp' : p = 33 ∨ p = 100 ∨ p = 167 := hp
  have hNn := ab_ok_n ho
  have at' := ab_wc_at (A := A) (o := nI o) (q := q) hn
  obtain ⟨⟨q1, q2, q3, q4, q5, q6, q7⟩, q8, q9, q10, q11⟩ := h
  generalize ab_wc A n (nI o) q = B at at' ⊢
  have B833 : B 833 = nI (n + 1) := by rw [at']; simp (disch := omega) only [if_neg, if_true]
  have eN : ab_n B = n + 1 := ab_n_of (by omega) B833
  have hlo : ∀ o' : Int32, ab_lo B o' = ab_lo A o' + (if nI o = o' then 1 else 0) := by
    intro o'
    unfold ab_lo
    rw [eN, hNn, fk_cf_succ, Nat.zero_add]
    have e1 : B (192 + n) = nI 1 := by rw [at']; simp (disch := omega) only [if_neg, if_true]
    have e2 : B n = nI o := by rw [at']; simp (disch := omega) only [if_neg, if_true]
    congr 1
    · refine fk_cf_congr n 0 fun i _ hi => ?_
      have e3 : B (192 + i) = A (192 + i) := by rw [at']; simp (disch := omega) only [if_neg, if_true]
      have e4 : B i = A i := by rw [at']; simp (disch := omega) only [if_neg, if_true]
      rw [e3, e4]
    · rw [e1, e2]
      by_cases h : nI o = o'
      · simp [h]
      · simp [h]
  unfold ck_wc
  rw [q2]
  refine ⟨⟨?_, ?_, ?_, ?_, ?_, ?_, ?_⟩, fun i hi => ?_, fun i hi hi2 => ?_, fun i hi hi2 => ?_, fun o' ho' => ?_⟩
  · rw [B833]; simp (disch := omega) only [fk_u_o, fk_u_s]
  · rw [at']; simp (disch := omega) only [fk_u_o, fk_u_s, if_neg, if_true]; exact q2
  · rw [at']; simp (disch := omega) only [fk_u_o, fk_u_s, if_neg, if_true]; exact q3
  · rw [at']; simp (disch := omega) only [fk_u_o, fk_u_s, if_neg, if_true]; exact q4
  · rw [at']; simp (disch := omega) only [fk_u_o, fk_u_s, if_neg, if_true]; exact q5
  · rw [at']; simp (disch := omega) only [fk_u_o, fk_u_s, if_neg, if_true]; exact q6
  · rw [at']; simp (disch := omega) only [fk_u_o, fk_u_s, if_neg, if_true]; exact q7
  · simp (disch := omega) only [fk_u_o]; exact q8 i hi
  · rw [eN] at hi2
    by_cases i_n : i = n
    · subst i_n
      unfold ck_hm
      simp only [at']
      simp (disch := omega) only [fk_u_o, fk_u_s, if_neg, if_true]
      exact ⟨trivial, trivial, trivial, by decide, trivial, trivial, trivial, trivial, trivial, trivial, trivial, trivial, trivial⟩
    · refine ck_hm_congr ?_ (fun c' hc' => ?_) (q9 i hi (by omega))
      · simp (disch := omega) only [fk_u_rowo]
      · rw [at']
        simp (disch := omega) only [if_neg]
  · rw [eN] at hi2
    by_cases i_n : i = n
    · subst i_n
      simp (disch := omega) only [fk_u_o, fk_u_s]
      exact Or.inl trivial
    · simp (disch := omega) only [fk_u_o]
      exact q10 i hi (by omega)
  · have z := hlo (nI o')
    by_cases e : o' = o
    · subst e
      rw [if_pos rfl] at z
      simp (disch := omega) only [fk_u_o, fk_u_s]
      rw [q11 o' ho', z, nI_add]
    · rw [if_neg (by rw [sI_eq_f (by omega) (by omega) (by omega)]; exact id), Nat.add_zero] at z
      simp (disch := omega) only [fk_u_o]
      rw [q11 o' ho', z]
theorem ab_ok_wc {o q : Nat} (ho : ab_ok v n H A) (hn : n < 64) (ho4 : o < 4) (hq : q < 16) : ab_ok v (n + 1) H (ab_wc A n (nI o) (nI q)) := by
  have at' := ab_wc_at (A := A) (o := nI o) (q := nI q) hn
  generalize ab_wc A n (nI o) (nI q) = B at at' ⊢
  obtain ⟨g1, g2, g3, g4, ⟨x, hx, g5⟩, g6, g7⟩ := ho
  have same : ∀ i, i < n → ∀ c, (c = 0 ∨ c = 64 ∨ c = 128 ∨ c = 192 ∨ c = 256 ∨ c = 320 ∨ c = 384 ∨ c = 448 ∨ c = 512 ∨ c = 640 ∨ c = 704 ∨ c = 768) → B (c + i) = A (c + i) := by
    intro i hi c hc
    rw [at']
    simp (disch := omega) only [if_neg]
  refine ⟨by omega, ?_, ?_, g4, ⟨x, hx, ?_⟩, fun i hi => ?_, ?_⟩
  · rw [at']; simp (disch := omega) only [if_neg, if_true]
  · rw [at']; simp (disch := omega) only [if_neg, if_true]; exact g3
  · rw [at']; simp (disch := omega) only [if_neg, if_true]; exact g5
  · by_cases i_n : i = n
    · subst i_n
      unfold ab_oj
      simp only [at']
      simp (disch := omega) only [if_neg, if_true]
      refine ⟨⟨o, ho4, rfl⟩, Or.inl trivial, ⟨H, by omega, g3⟩, ⟨4096, by omega, by omega, rfl⟩, Or.inl ⟨q, hq, rfl, trivial, trivial⟩, ⟨0, by omega, rfl⟩, fun _ => trivial, fun k hk => ?_, fun k hk => hk⟩
      rw [fk_tb_0] at hk
      exact absurd hk (by decide)
    · exact ab_oj_congr (same i (by omega)) (g6 i (by omega))
  · rw [fk_sf_succ, Nat.zero_add, fk_sf_congr n 0 fun i _ hi => ab_wj_congr (A := A) (j := i) (same i (by omega) 192 (by omega)) (same i (by omega) 256 (by omega))]
    have : ab_wj B n = 4096 := by
      unfold ab_wj
      simp only [at']
      simp (disch := omega) only [if_neg, if_true]
      decide
    omega
theorem ab_wp_wc {o q : Int32} (ho : ab_ok v n H A) (hn : n < 64) (hw : ab_wp n H A) : ab_wp (n + 1) H (ab_wc A n o q) := by
  have at' := ab_wc_at (A := A) (o := o) (q := q) hn
  generalize ab_wc A n o q = B at at' ⊢
  have hH := ho.2.2.1
  have hH2 := ho.2.2.2.1
  have bn : B (128 + n) = nI H := by rw [at']; simp (disch := omega) only [if_neg, if_true]; exact hH
  have bj : ∀ j, j < n → B (128 + j) = A (128 + j) := fun j hj => by rw [at']; simp (disch := omega) only [if_neg]
  refine ⟨fun j hj => ?_, fun k j k1 k2 k3 k4 => ?_⟩
  · by_cases e : j = n
    · subst e; rw [bn, nI_clamp (by omega)]; omega
    · rw [bj j (by omega)]; exact hw.1 j (by omega)
  · have : B (840 + 64 * (k % 48) + j) = A (840 + 64 * (k % 48) + j) := by rw [at']; simp (disch := omega) only [if_neg]
    rw [this]
    refine hw.2 k j k1 k2 k3 fun hj => ?_
    have := k4 (by omega)
    rw [bj j hj] at this
    exact this
theorem mX11_comes_no {one q : Int32} (ho : ab_ok v n H A) (hp : ck_pr 33 y (fun _ => nI 0) A) (hg : ¬ ((nI 0 ≤ one ∧ one < nI 4) ∧ (nI 0 ≤ q ∧ q < nI 16) ∧ ab_lo A one = 0 ∧ n ≠ 64)) : fk_ev (d + 3) qX11_comes 0 [.ref 1, .int one, .int q] [] (fk_E N y l) = some (some (.int ((-1))), fk_E N y l) := by
  have h8 := n8
  have hn := ho.1
  simp (disch := first | assumption | omega) only [rX11_comes, mX11_within, Option.bind_some, Option.toList_some, Option.toList_none, List.cons_append, List.nil_append, fk_b_0, nI_add, Nat.add_zero, Nat.zero_add, not_true_eq_false, not_false_eq_true, if_true, if_false, sI_le_t, sI_le_f, sI_lt_t, sI_lt_f, sI_eq_t, sI_eq_f, sI_rem, sI_div, sI_m1a, sI_m1b, sI_m1c, sI_m1d, sI_m1e, sI_m1f, sI_m2a, sI_m2b, sI_sub, pk_mul, sI_dec, fk_u_s, fk_u_o, sI_dec0, sI_z, sI_md, Bool.false_eq_true, Nat.reduceAdd, Nat.reduceMul, Nat.reduceSub, Nat.reduceMod, Nat.reduceDiv]
  by_cases h1 : nI 0 ≤ one ∧ one < nI 4
  · by_cases h2 : nI 0 ≤ q ∧ q < nI 16
    · obtain ⟨o, ho4, rfl⟩ := fk_ixn h1.1 h1.2 (by omega)
      have e5 : y 35 o = nI (ab_lo A (nI o)) := hp.2.2.2.2 o ho4
      have hlo : ab_lo A (nI o) ≤ 64 := by
        unfold ab_lo
        rw [ab_ok_n ho]
        exact Nat.le_trans (fk_cf_le n 0) hn
      have eb : y 33 2 = nI n := hp.1.1.trans ho.2.1
      rw [if_neg fun z => z h1, if_pos (fun z : ¬ (nI 0 ≤ q ∧ q < nI 16) => z h2)]
      by_cases h3 : ab_lo A (nI o) = 0
      · have h4 : n = 64 := Classical.byContradiction fun z => hg ⟨h1, h2, h3, z⟩
        subst h4
        simp (disch := first | assumption | omega) only [rX11_comes, nc1, e5, h3, eb, Option.bind_some, Option.toList_some, Option.toList_none, List.cons_append, List.nil_append, fk_b_0, nI_add, Nat.add_zero, Nat.zero_add, not_true_eq_false, not_false_eq_true, if_true, if_false, sI_le_t, sI_le_f, sI_lt_t, sI_lt_f, sI_eq_t, sI_eq_f, sI_rem, sI_div, sI_m1a, sI_m1b, sI_m1c, sI_m1d, sI_m1e, sI_m1f, sI_m2a, sI_m2b, sI_sub, pk_mul, sI_dec, fk_u_s, fk_u_o, sI_dec0, sI_z, sI_md, Bool.false_eq_true, Nat.reduceAdd, Nat.reduceMul, Nat.reduceSub, Nat.reduceMod, Nat.reduceDiv]
      · simp (disch := first | assumption | omega) only [rX11_comes, nc1, e5, Option.bind_some, Option.toList_some, Option.toList_none, List.cons_append, List.nil_append, fk_b_0, nI_add, Nat.add_zero, Nat.zero_add, not_true_eq_false, not_false_eq_true, if_true, if_false, sI_le_t, sI_le_f, sI_lt_t, sI_lt_f, sI_eq_t, sI_eq_f, sI_rem, sI_div, sI_m1a, sI_m1b, sI_m1c, sI_m1d, sI_m1e, sI_m1f, sI_m2a, sI_m2b, sI_sub, pk_mul, sI_dec, fk_u_s, fk_u_o, sI_dec0, sI_z, sI_md, Bool.false_eq_true, Nat.reduceAdd, Nat.reduceMul, Nat.reduceSub, Nat.reduceMod, Nat.reduceDiv]
    · simp [h1, h2]
  · simp only [h1, not_false_eq_true, if_true]
theorem mX11_comes_ok {o q : Nat} (ho : ab_ok v n H A) (hp : ck_pr 33 y (fun _ => nI 0) A) (ho4 : o < 4) (hq : q < 16) (h3 : ab_lo A (nI o) = 0) (hn : n < 64) : fk_ev (d + 3) qX11_comes 0 [.ref 1, .int ((nI o)), .int ((nI q))] [] (fk_E N y l) = some (some (.int ((nI n))), fk_E N (ck_wc y 33 n o (nI q)) l) := by
  have h8 := n8
  have e5 : y 35 o = nI (ab_lo A (nI o)) := hp.2.2.2.2 o ho4
  have eb : y 33 2 = nI n := hp.1.1.trans ho.2.1
  simp (disch := first | assumption | omega) only [rX11_comes, mX11_within, and_self, nc1, e5, h3, eb, mX8_welcome (p := 33) (Or.inl rfl) hn ho4 eb, Option.bind_some, Option.toList_some, Option.toList_none, List.cons_append, List.nil_append, fk_b_0, nI_add, Nat.add_zero, Nat.zero_add, not_true_eq_false, not_false_eq_true, if_true, if_false, sI_le_t, sI_le_f, sI_lt_t, sI_lt_f, sI_eq_t, sI_eq_f, sI_rem, sI_div, sI_m1a, sI_m1b, sI_m1c, sI_m1d, sI_m1e, sI_m1f, sI_m2a, sI_m2b, sI_sub, pk_mul, sI_dec, fk_u_s, fk_u_o, sI_dec0, sI_z, sI_md, Bool.false_eq_true, Nat.reduceAdd, Nat.reduceMul, Nat.reduceSub, Nat.reduceMod, Nat.reduceDiv]
theorem cl_comes (hR : cR S y) {one q : Int32} : ∃ a y1 y2, fk_ev (d + 8) qX11_comes 0 [.ref 1, .int one, .int q] [] (fk_E N y l) = some (some (.int a), fk_E N y1 l) ∧ fk_ev (d + 8) qX12_comes 0 [.ref 246, .int one, .int q, .null] [] (fk_E N y1 l) = some (some (.int a), fk_E N y2 l) ∧ cR S y2 := by
  obtain ⟨r0, r1, r2, ⟨n, H, p1, p2, p3, p4⟩, r4, r5, r6, r7, r8, r9⟩ := id hR
  have hn := p1.1
  have elo : ∀ o, ab_lo (y 247) o = fk_cf (fun j => decide (y 247 (192 + j) = nI 1 ∧ y 247 j = o)) 0 n := fun o => by unfold ab_lo; rw [ab_ok_n p1]
  by_cases hg : (nI 0 ≤ one ∧ one < nI 4) ∧ (nI 0 ≤ q ∧ q < nI 16) ∧ ab_lo (y 247) one = 0 ∧ n ≠ 64
  · obtain ⟨g1, g2, g3, g4⟩ := hg
    obtain ⟨o, ho4, rfl⟩ := fk_ixn g1.1 g1.2 (by omega)
    obtain ⟨q, hq, rfl⟩ := fk_ixn g2.1 g2.2 (by omega)
    have hn' : n < 64 := by omega
    have e0 := mX11_comes_ok (N := N) (l := l) (d := d + 5) p1 p3 ho4 hq g3 hn'
    have hY : ∀ k, ¬ (33 ≤ k ∧ k < 100) → ck_wc y 33 n o (nI q) k = y k := fun k hk => by
      unfold ck_wc
      simp (disch := omega) only [fk_u_rowo]
    have hpr := ck_pr_wc (v := y) (q := nI q) (Or.inl rfl) p3 p1 hn' ho4
    generalize ck_wc y 33 n o (nI q) = Y at e0 hY hpr
    have h247 : Y 247 = y 247 := hY 247 (by omega)
    have e := mX12_comes_ok (N := N) (l := l) (d := d + 6) (y := Y) hn' (by rw [h247]; exact p1.2.1) ho4 hq (by rw [h247, ← elo]; exact g3)
    refine ⟨nI n, Y, _, e0, e, cR_upd (A' := ab_wc (y 247) n (nI o) (nI q)) hR hY (fun k hk => by rw [fk_u_rowo hk, fk_u_rowo hk, fk_bg_o hk]) (by rw [fk_u_row, fk_u_row, fk_bg_r, h247]; rfl) (ab_ok_wc p1 hn' ho4 hq) (ab_wp_wc p1 hn' p2) hpr fun i hi => by rw [ab_wc_at hn']; simp (disch := omega) only [if_neg]⟩
  · refine ⟨(-1), y, y, mX11_comes_no (d := d + 5) p1 p3 hg, mX12_comes_no (d := d + 6) hn p1.2.1 ?_, hR⟩
    rw [← elo]
    exact hg
end CL2
