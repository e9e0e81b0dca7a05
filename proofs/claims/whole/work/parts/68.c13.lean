section C13
variable {N : Nat} {v y y0 : Nat → Nat → Int32} {l : Nat → Nat → Int64} {d p c n H m : Nat} {T A : Nat → Int32} {b0 : Int32} {W : Int32 → (Nat → Int32) → Int32} {s : ab_S}
theorem ck_cs_hr {z : Int32} (hp : ck_pp p) (hs : ck_cs y0 p c T b0 0 y s) (hn : n ≤ 64) (hNn : ab_n s.1 = n) : ck_cs y0 p c T b0 0 (fk_u y p 3 z) (fk_w s.1 832 z, s.2) := by
  have hp' : p = 33 ∨ p = 100 ∨ p = 167 := hp
  obtain ⟨⟨⟨q1, q2, q3, q4, q5, q6, q7⟩, q8, q9, q10, q11⟩, g2, g3, g4, g5, g6⟩ := hs
  have eN : ab_n (fk_w s.1 832 z) = ab_n s.1 := by unfold ab_n; rw [fk_w_o (by omega)]
  refine ⟨⟨⟨?_, ?_, ?_, ?_, ?_, ?_, ?_⟩, fun i hi => ?_, fun i hi hi2 => ?_, fun i hi hi2 => ?_, fun o' ho' => ?_⟩, fun i hi => by omega, ?_, ?_, fun i i1 i2 => ?_, fun k k1 k2 k3 k4 => ?_⟩
  · dsimp only; simp (disch := omega) only [fk_u_o, fk_u_s, fk_w_o, fk_w_s]; exact q1
  · dsimp only; simp (disch := omega) only [fk_u_o, fk_u_s, fk_w_o, fk_w_s]
  · dsimp only; simp (disch := omega) only [fk_u_o, fk_u_s, fk_w_o, fk_w_s]; exact q3
  · dsimp only; simp (disch := omega) only [fk_u_o, fk_u_s, fk_w_o, fk_w_s]; exact q4
  · dsimp only; simp (disch := omega) only [fk_u_o, fk_u_s, fk_w_o, fk_w_s]; exact q5
  · dsimp only; simp (disch := omega) only [fk_u_o, fk_u_s, fk_w_o, fk_w_s]; exact q6
  · dsimp only; simp (disch := omega) only [fk_u_o, fk_u_s, fk_w_o, fk_w_s]; exact q7
  · rw [fk_u_o (by omega)]; exact q8 i hi
  · rw [eN] at hi2
    exact ck_hm_congr (fk_u_rowo (by omega)) (fun c' hc' => fk_w_o (by omega)) (q9 i hi hi2)
  · rw [eN] at hi2
    rw [fk_u_o (by omega)]; exact q10 i hi hi2
  · rw [fk_u_o (by omega), q11 o' ho', ab_lo_congr (A := s.1) (fk_w_o (by omega)) fun i hi => ?_]
    exact ⟨fk_w_o (by omega), fk_w_o (by omega)⟩
  · rw [fk_u_o (by omega)]; exact g3
  · rw [fk_u_o (by omega)]; exact g4
  · rw [fk_u_o (by omega)]; exact g5 i i1 i2
  · rw [fk_u_rowo (by omega)]; exact g6 k k1 k2 k3 k4
/-- an hour goes by, for the class -/
theorem mX6_goBy (hL : ck_LC W c y0) (hv : ab_rv v) (hN : ck_nt v y0) (hp : ck_pp p) (hq2 : y0 238 2 = nI p) (hq3 : y0 238 3 = nI c) (hs : ck_cs y0 p c T b0 0 y s) (ho : ab_ok v n H s.1) (hH : H < 999) : ∃ y' m, fk_ev (d + 4) qX6_goBy 0 [.ref 238] [] (fk_E N y l) = some (none, fk_E N y' l) ∧ ck_cs y0 p c T b0 0 y' (ab_hr v W (y0 238 4) (y0 238 5) (¬ y0 238 4 = (-1)) s) ∧ n ≤ m ∧ ab_ok v m (H + 1) (ab_hr v W (y0 238 4) (y0 238 5) (¬ y0 238 4 = (-1)) s).1 := by
  obtain ⟨h8, c0, c1, h24, s24, h20, s20, p1, p2⟩ := ck_pp_at hp
  have hc := hL.1
  have s0 : ck_cs y0 p c T b0 0 y (s.1, fun _ => nI 0, s.2.2) := ⟨hs.1, fun j hj => by omega, hs.2.2⟩
  have o0 : ab_ok v n H ((s.1, fun _ => nI 0, s.2.2) : ab_S).1 := ho
  obtain ⟨y1, e1, r1, o1⟩ := mX6_comeNearer (N := N) (l := l) (d := d + 1) hv hN hp hc hq2 s0 o0 fun _ => rfl
  obtain ⟨y2, e2, r2, o2⟩ := mX6_meetAgain (N := N) (l := l) (d := d) hL hp hq2 hq3 r1 o1
  obtain ⟨y3, e3, r3, o3⟩ := mX6_arrive (N := N) (l := l) (d := d + 1) hL hv hN hp hq2 hq3 r2 o2
  have E4 : y3 238 4 = y0 238 4 := r3.2.2.2.2.1 4 (by omega) (by omega)
  have st : ∃ y4, (∀ R, fk_ev (d + 4) qX6_goBy 24 [.ref 238] [] (fk_E N y4 l) = R → fk_ev (d + 4) qX6_goBy 0 [.ref 238] [] (fk_E N y l) = R) ∧ ck_cs y0 p c T b0 n y4 (ab_p5 W (¬ y0 238 4 = (-1)) (ab_p4 v W (ab_p3 W (ab_p2 v (y0 238 4) (ab_p1 (s.1, fun _ => nI 0, s.2.2)))))) ∧ ab_ok v n H (ab_p5 W (¬ y0 238 4 = (-1)) (ab_p4 v W (ab_p3 W (ab_p2 v (y0 238 4) (ab_p1 (s.1, fun _ => nI 0, s.2.2)))))).1 := by
    by_cases hpl : y0 238 4 = (-1)
    · obtain ⟨y4, e4, r4, o4⟩ := mX6_die (N := N) (l := l) (d := d + 1) (nd := ¬ y0 238 4 = (-1)) hL hp hq2 hq3 r3 o3 (fun z => z hpl)
      refine ⟨y4, fun R hR => ?_, r4, o4⟩
      rw [← hR]
      have E4' : y3 238 4 = (-1) := E4.trans hpl
      have st : ∀ R, fk_ev (d + 4) qX6_goBy 24 [.ref 238] [] (fk_E N y4 l) = R → fk_ev (d + 4) qX6_goBy 20 [.ref 238] [] (fk_E N y3 l) = R := by
        intro R hR
        rw [← hR]
        have : fk_ev (d + 4) qX6_goBy 20 [.ref 238] [] (fk_E N y3 l) = (fk_ev (d + 3) qX6_die 0 [.ref 238, .null, .null] [] (fk_E N y3 l)).bind fun o => fk_ev (d + 4) qX6_goBy 24 [.ref 238] (o.1.toList ++ []) o.2 := by
          obtain ⟨_, _, _, _, _, _, _, _, _, _, q1, q2, _⟩ := rX6_goBy
          rw [q1, q2]
        rw [this, e4]
        rfl
      have st3 : fk_ev (d + 4) qX6_goBy 0 [.ref 238] [] (fk_E N y l) = fk_ev (d + 4) qX6_goBy 20 [.ref 238] [] (fk_E N y3 l) := by
        obtain ⟨q0, q1, q2, q3, q4, q5, q6, q7, q8, q9, _⟩ := rX6_goBy
        rw [q0, q1, e1]
        show fk_ev (d + 4) qX6_goBy 4 [.ref 238] [] (fk_E N y1 l) = _
        rw [q2, q3, e2]
        show fk_ev (d + 4) qX6_goBy 8 [.ref 238] [] (fk_E N y2 l) = _
        rw [q4, q5, e3]
        show fk_ev (d + 4) qX6_goBy 12 [.ref 238] [] (fk_E N y3 l) = _
        rw [q6, q7, q8, q9, E4', if_neg (fun z => z rfl)]
      rw [st3]
      exact st _ rfl
    · have hp5 : ∀ t : ab_S, ab_p5 W (¬ y0 238 4 = (-1)) t = t := fun t => ab_p5_nd hpl
      rw [hp5]
      refine ⟨y3, fun R hR => ?_, r3, o3⟩
      rw [← hR]
      have E4' : ¬ y3 238 4 = (-1) := by rw [E4]; exact hpl
      obtain ⟨q0, q1, q2, q3, q4, q5, q6, q7, q8, q9, _⟩ := rX6_goBy
      rw [q0, q1, e1]
      show fk_ev (d + 4) qX6_goBy 4 [.ref 238] [] (fk_E N y1 l) = _
      rw [q2, q3, e2]
      show fk_ev (d + 4) qX6_goBy 8 [.ref 238] [] (fk_E N y2 l) = _
      rw [q4, q5, e3]
      show fk_ev (d + 4) qX6_goBy 12 [.ref 238] [] (fk_E N y3 l) = _
      rw [q6, q7, q8, q9, if_pos E4']
  obtain ⟨y4, e4, r4, o4⟩ := st
  obtain ⟨y5, e5, r5, ⟨m, hm, o5, _⟩⟩ := mX6_setOut (N := N) (l := l) (d := d) hL hv hN hp hq2 hq3 (ck_cs_0 r4) o4
  unfold ab_hr
  dsimp only
  generalize ab_p6 v W (y0 238 4) (y0 238 5) (ab_p5 W (¬ y0 238 4 = (-1)) (ab_p4 v W (ab_p3 W (ab_p2 v (y0 238 4) (ab_p1 (s.1, fun _ => nI 0, s.2.2)))))) = z at r5 o5 ⊢
  have E2 : y5 238 2 = nI p := by rw [r5.2.2.2.2.1 2 (by omega) (by omega)]; exact hq2
  have E3 : y5 p 3 = z.1 832 := r5.1.1.2.1
  refine ⟨fk_u y5 p 3 (z.1 832 + nI 1), m, e4 _ ?_, ck_cs_hr hp r5 o5.1 (ab_ok_n o5), hm, ?_⟩
  · simp (disch := first | assumption | omega) only [rX6_goBy, e5, E2, nI_clamp, E3, Option.bind_some, Option.toList_some, Option.toList_none, List.cons_append, List.nil_append, fk_b_0, nI_add, Nat.add_zero, Nat.zero_add, not_true_eq_false, not_false_eq_true, if_true, if_false, sI_le_t, sI_le_f, sI_lt_t, sI_lt_f, sI_eq_t, sI_eq_f, sI_rem, sI_div, sI_m1a, sI_m1b, sI_m1c, sI_m1d, sI_m1e, sI_m1f, sI_m2a, sI_m2b, sI_sub, pk_mul, sI_dec, fk_u_s, fk_u_o, sI_dec0, sI_z, sI_md, Bool.false_eq_true, Nat.reduceAdd, Nat.reduceMul, Nat.reduceSub, Nat.reduceMod, Nat.reduceDiv]
  · obtain ⟨h1, h2, h3, h4, ⟨x, hx, h5⟩, h6, h7⟩ := o5
    refine ⟨h1, ?_, ?_, by omega, ⟨x, hx, ?_⟩, fun i hi => ab_oj_congr (fun c hc => fk_w_o (by omega)) (h6 i hi), ?_⟩
    · rw [fk_w_o (by omega)]; exact h2
    · rw [fk_w_s, h3, nI_add]
    · rw [fk_w_o (by omega)]; exact h5
    · rw [fk_sf_congr m 0 fun i _ hi => ab_wj_congr (A := z.1) (j := i) (fk_w_o (by omega)) (fk_w_o (by omega))]
      exact h7
end C13
