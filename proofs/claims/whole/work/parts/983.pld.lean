section PLD
variable {N : Nat} {S : Nat → Int32} {v v' y : Nat → Nat → Int32} {l : Nat → Nat → Int64} {d n F x : Nat} {W : Int32 → (Nat → Int32) → Int32} {P po : Int32}
/-- the reference's plans, and what it leaves -/
theorem mX12_plan_all (hR : cR S y) {y1 : Nat → Nat → Int32} {c o j H q : Nat} {w : Int32} (HW : fk_LR W y) (hc : c = 2 ∨ c = 10) (sq : ck_sq c y y1) (ho : ab_ok y q H (y 247)) (hj : ab_oo (y 247) o q j) (h1 : ab_lo (y 247) (nI o) = 1) (hat : nI 0 ≤ y 247 (320 + j)) (ho4 : nI 0 ≤ nI o ∧ nI o < nI 4) (o4 : o < 4) (hP : nI 0 ≤ P ∧ P ≤ nI 65535) (hw : nI 0 ≤ w ∧ w ≤ nI 2) (hn1 : 1 ≤ n) (hn : n ≤ 48) (hl : H + n ≤ 999) (hF : F < 65536) (eF : ab_fo y = nI F) : ∃ y2, fk_ev (d + 9) qX12_plan 0 [.ref 246, .int (nI o), .int P, .int (nI n), .int w, .null, .null] [] (fk_E N y1 l) = fk_ev (d + 9) qX12_plan 164 [.ref 246, .int (nI o), .int P, .int (nI n), .int w, .int (nI F), .int (nI (F + 1))] [] (fk_E N y2 l) ∧ cR S y2 ∧ ab_tP y2 y2 (ab_fd y W P (nI o) (ab_s0 (y 247) j) n F (F + 1)) ∧ (ab_fd y W P (nI o) (ab_s0 (y 247) j) n F (F + 1)).1 ≤ 1000000000 := by
  obtain ⟨r0, r1, r2, ⟨n0, H0, p1, p2, p3, p4⟩, r4, r5, r6, r7, r8, r9⟩ := id hR
  have hq := ho.1
  have hm := ho.2.1
  have hj1 := hj.1
  have f : ∀ k, 246 ≤ k → y1 k = y k := fun k hk => sq.1 k (by omega) (by omega) (by omega) (by omega) (by omega)
  have o1 : ab_ok y1 q H (y1 247) := by rw [f 247 (by omega)]; exact ab_ok_c (by rw [f 246 (by omega)]) ho
  have eli := mX12_livOf (N := N) (l := l) (d := d + 7) o1 (w := nI o)
  rw [show y1 247 = y 247 from f 247 (by omega), h1] at eli
  have eal := mX12_aliveOf (N := N) (l := l) (d := d + 7) (y := y1) (o := o) (j := j) o1 (by rw [f 247 (by omega)]; exact hj)
  have eat := mX12_isAt (N := N) (l := l) (d := d + 6) (y := y1) (j := nI j) hq (by rw [f 247 (by omega)]; exact hm)
  rw [fk_b_t (by rw [nI_clamp (by omega), f 247 (by omega)]; exact ⟨⟨nI_le (by omega) (by omega), (nI_ltI (by omega) (by omega)).mpr hj1⟩, hj.2.1.1, hat⟩)] at eat
  have efo := mX12_forksOf (N := N) (l := l) (d := d + 6) (y := y1)
  rw [ab_fo_env (v := y) (by rw [f 246 (by omega)]) (f 250 (by omega)), eF] at efo
  have z832 : y1 247 832 = nI H := by rw [f 247 (by omega)]; exact ho.2.2.1
  generalize eu : fk_u y1 246 39 (nI 1000000000) = u
  have uo : ∀ k, k ≠ 246 → u k = y1 k := fun k hk => by rw [← eu, fk_u_rowo hk]
  have beg := mX12_begins (N := N) (l := l) (d := d + 7) (y := u)
  generalize eb : fk_cp u 247 248 3912 = b at beg
  have bo : ∀ k, k ≠ 248 → b k = u k := fun k hk => by
    rw [← eb]
    funext i
    exact if_neg fun q => hk q.1
  have b8 : ∀ i, i < 3912 → b 248 i = y 247 i := fun i hi => by
    rw [← eb]
    refine (if_pos ⟨rfl, hi⟩).trans ?_
    rw [uo 247 (by omega), f 247 (by omega)]
  generalize eV : fk_u (fk_u b 246 33 (nI o)) 246 36 (nI 1) = V
  have Vo : ∀ k, k ≠ 246 → V k = b k := fun k hk => by rw [← eV, fk_u_rowo hk, fk_u_rowo hk]
  have Vf : ∀ k, 246 ≤ k → k ≠ 246 → k ≠ 248 → V k = y k := fun k h1 h2 h3 => by rw [Vo k h2, bo k h3, uo k h2, f k h1]
  have V6 : ∀ i, i ≠ 33 → i ≠ 36 → i ≠ 39 → V 246 i = y 246 i := fun i a b c => by rw [← eV, fk_u_o (by omega), fk_u_o (by omega), bo 246 (by omega), ← eu, fk_u_o (by omega), f 246 (by omega)]
  have V33 : V 246 33 = nI o := by rw [← eV, fk_u_o (by omega), fk_u_s]
  have V36 : V 246 36 = nI 1 := by rw [← eV, fk_u_s]
  have V39 : V 246 39 = nI 1000000000 := by rw [← eV, fk_u_o (by omega), fk_u_o (by omega), bo 246 (by omega), ← eu, fk_u_s]
  have e3 : V 246 3 = y 246 3 := V6 3 (by omega) (by omega) (by omega)
  have e25 : ∀ c, 250 ≤ c → c ≤ 254 → V c = y c := fun c h1 h2 => Vf c (by omega) (by omega) (by omega)
  obtain ⟨t, g1, g2⟩ := mX12_plan_loop (N := N) (l := l) (d := d) (P := P) (y0 := V) (t := V) (A := y 247) (o := o) (n := n) (j := j) (q := q) (H := H) (wh := .int w) (fk_LR_c (fun k h1 h2 => Vf k (by omega) (by omega) (by omega)) (V6 19 (by omega) (by omega) (by omega)) HW) (ab_rv_c e3 e25 r1) V33 V36 hl (fun i hi => by rw [Vo 248 (by omega)]; exact b8 i hi) (ab_ok_c e3 ho) hj hF ⟨⟨Nat.le_refl _, V39, fun h => absurd h (Nat.lt_irrefl _)⟩, fun _ _ _ _ _ _ => rfl, fun _ _ _ _ _ _ => rfl, fun i _ => by rw [Vf 247 (by omega) (by omega) (by omega)]⟩
  rw [ab_fd_env e3 e25] at g2
  generalize ab_fd y W P (nI o) (ab_s0 (y 247) j) n F (F + 1) = st at g2 ⊢
  obtain ⟨⟨s0, s1, s2⟩, s3, s4, s5⟩ := g2
  generalize ea : fk_cp t 248 247 3912 = a
  have ag := mX12_again (N := N) (l := l) (d := d + 7) (y := t)
  rw [ea] at ag
  have ao : ∀ k, k ≠ 247 → a k = t k := fun k hk => by
    rw [← ea]
    funext i
    exact if_neg fun q => hk q.1
  have a7 : ∀ i, i < 3912 → a 247 i = y 247 i := fun i hi => by
    rw [← ea]
    refine (if_pos ⟨rfl, hi⟩).trans ?_
    rw [s4 248 (by omega) (by omega) (by omega) (by omega) (by omega), Vo 248 (by omega)]
    exact b8 i hi
  generalize eZ : fk_u (fk_u a 246 33 (-1)) 246 36 (nI 0) = Z
  have Zo : ∀ k, k ≠ 246 → Z k = a k := fun k hk => by rw [← eZ, fk_u_rowo hk, fk_u_rowo hk]
  have Z6 : ∀ i, i ≠ 33 → i ≠ 36 → Z 246 i = t 246 i := fun i h1 h2 => by rw [← eZ, fk_u_o (by omega), fk_u_o (by omega), ao 246 (by omega)]
  have Zf : ∀ k, k ≠ 246 → k ≠ 247 → k ≠ 248 → k ≠ 267 → k ≠ 268 → k ≠ 269 → Z k = y1 k := fun k h1 h2 h3 h4 h5 h6 => by rw [Zo k h1, ao k h2, s4 k h1 h2 h4 h5 h6, Vo k h1, bo k h3, uo k h1]
  refine ⟨Z, ?_, cR_q hR (fun k hk => ?_) (fun i hi => ?_) (fun j hj => ?_) (fun i hi => ?_) ?_ (fun i hi => by rw [Zo 247 (by omega)]; exact a7 i hi), ⟨⟨by rw [Z6 39 (by omega) (by omega)]; exact s1, fun h => by rw [Z6 40 (by omega) (by omega), Z6 41 (by omega) (by omega)]; exact s2 h⟩, fun _ _ _ _ _ => rfl, fun _ _ _ _ _ _ => rfl⟩, s0⟩
  · have st1 : fk_ev (d + 9) qX12_plan 0 [.ref 246, .int (nI o), .int P, .int (nI n), .int w, .null, .null] [] (fk_E N y1 l) = fk_ev (d + 9) qX12_plan 107 [.ref 246, .int (nI o), .int P, .int (nI n), .int w, .int (nI F), .int (nI 0)] [] (fk_E N V l) := by
      simp (disch := first | assumption | omega) only [rX12_plan, mX12_isOne, mX12_in, ho4, hP, hw, and_self, z832, eli, eal, eat, efo, eu, beg, eV, Option.bind_some, Option.toList_some, Option.toList_none, List.cons_append, List.nil_append, fk_b_0, nI_add, Nat.add_zero, Nat.zero_add, not_true_eq_false, not_false_eq_true, if_true, if_false, sI_le_t, sI_le_f, sI_lt_t, sI_lt_f, sI_eq_t, sI_eq_f, sI_rem, sI_div, sI_m1a, sI_m1b, sI_m1c, sI_m1d, sI_m1e, sI_m1f, sI_m2a, sI_m2b, sI_sub, pk_mul, sI_dec, fk_u_s, fk_u_o, sI_dec0, sI_z, sI_md, Bool.false_eq_true, Nat.reduceAdd, Nat.reduceMul, Nat.reduceSub, Nat.reduceMod, Nat.reduceDiv]
    rw [st1, g1, hX12_plan_107]
    simp (disch := first | assumption | omega) only [rX12_plan, ag, eZ, Option.bind_some, Option.toList_some, Option.toList_none, List.cons_append, List.nil_append, fk_b_0, nI_add, Nat.add_zero, Nat.zero_add, not_true_eq_false, not_false_eq_true, if_true, if_false, sI_le_t, sI_le_f, sI_lt_t, sI_lt_f, sI_eq_t, sI_eq_f, sI_rem, sI_div, sI_m1a, sI_m1b, sI_m1c, sI_m1d, sI_m1e, sI_m1f, sI_m2a, sI_m2b, sI_sub, pk_mul, sI_dec, fk_u_s, fk_u_o, sI_dec0, sI_z, sI_md, Bool.false_eq_true, Nat.reduceAdd, Nat.reduceMul, Nat.reduceSub, Nat.reduceMod, Nat.reduceDiv]
  · rw [Zf k (by omega) (by omega) (by omega) (by omega) (by omega) (by omega)]
    exact sq.1 k (by omega) (by omega) (by omega) (by omega) (by omega)
  · by_cases h33 : i = 33
    · subst h33; rw [← eZ, fk_u_o (by omega), fk_u_s]; exact r7.symm
    · by_cases h36 : i = 36
      · subst h36; rw [← eZ, fk_u_s]; exact r8.symm
      · rw [Z6 i h33 h36, s3 i (by omega) (by omega) (by omega) (by omega) (by omega)]
        exact V6 i h33 h36 (by omega)
  · rw [Zf _ (by omega) (by omega) (by omega) (by omega) (by omega) (by omega)]
    exact sq.2 j hj
  · rw [Zf 235 (by omega) (by omega) (by omega) (by omega) (by omega) (by omega), sq.1 235 (by omega) (by omega) (by omega) (by omega) (by omega)]
  · exact ck_pr_k p3 fun k h1 h2 => by rw [Zf k (by omega) (by omega) (by omega) (by omega) (by omega) (by omega), sq.1 k (by omega) (by omega) (by omega) (by omega) (by omega)]
end PLD
