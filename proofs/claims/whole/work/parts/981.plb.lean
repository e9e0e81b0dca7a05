section PLB
variable {N : Nat} {v y t : Nat → Nat → Int32} {l : Nat → Nat → Int64} {d n H c j o x q L F : Nat} {T A : Nat → Int32} {W : Int32 → (Nat → Int32) → Int32} {P : Int32}
theorem ab_fd_0 (hF : F < 65536) (h1 : ab_lo A (nI o) = 1) (h0 : P &&& (nI 1 <<< (A (320 + j) &&& 31) ^^^ (-1)) = nI 0) : ab_fd v W P (nI o) (ab_s0 A j) n F (F + 1) = (0, 0, 1) := by
  have e0 : ab_fd v W P (nI o) (ab_s0 A j) n F (0 + 1) = (0, 0, 1) := by
    have es : ab_sF F 0 := (ab_sF_su hF (by omega)).mpr fun i h => by rw [Nat.zero_testBit] at h; exact absurd h (by decide)
    have hK : 0 < ab_K n (1000000000, 0, 0) := by
      unfold ab_K
      split
      · show 0 < 1000000000
        omega
      · omega
    have ef : ab_fk v W P (nI o) (ab_s0 A j) 0 (ab_K n (1000000000, 0, 0)) = 0 := fk_fi_at (by omega) (by omega) (by
      rw [decide_eq_true_eq, ab_rn_0]
      exact ⟨h0, h1⟩) fun a _ h => by omega
    rw [ab_fd_s, if_pos es, show ab_fd v W P (nI o) (ab_s0 A j) n F 0 = (1000000000, 0, 0) from rfl]
    unfold ab_up
    rw [ef, if_pos hK, ab_mm_0]
  refine ab_fd_skip (x := 0 + 1) (by omega) e0 fun z _ _ _ => ?_
  unfold ab_up
  rw [show ab_K n (0, 0, 1) = 0 from if_pos (Nat.zero_le _)]
  exact if_neg (by omega)
theorem mX9_seek (hv : ab_rv v) (hN : ck_nt v y) (hL : ck_LC W c y) (hpr : ck_pr 33 y T A) (ho : ab_ok v q H A) (hj : ab_oo A o q j) (h1 : ab_lo A (nI o) = 1) (ho4 : o < 4) (hF : F < 65536) (eF : ab_fo v = nI F) (hn : n ≤ 48) (hl : H + n ≤ 999) (h167 : ∀ j, j < 64 → y (167 + 3 + j) 0 = nI j) : ∃ y1, fk_ev (d + 6) qX9_seek 0 [.ref 240, .ref 33, .ref c, .int ((nI j)), .int P, .int ((nI n)), .null, .null, .null, .null, .null, .null, .null, .null] [] (fk_E N y l) = some (none, fk_E N y1 l) ∧ ck_sq c y y1 ∧ ck_r3 n y1 (ab_fd v W P (nI o) (ab_s0 A j) n F (F + 1)) := by
  obtain ⟨h8, c0, c1, h24, s24, h20, s20, p1, p2⟩ := ck_pp_at (p := 33) (Or.inl rfl)
  have hc := hL.1
  have hq := ho.1
  have hj1 := hj.1
  have hh := n_h (show j < 64 by omega)
  have e6 : y (36 + j) 6 = A (320 + j) := by
    have := (hpr.2.2.1 j (by omega) (by rw [ab_ok_n ho]; exact hj1)).2.2.2.2.2.1
    rw [show 33 + 3 + j = 36 + j by omega] at this
    exact this
  generalize eu : fk_u (fk_u (fk_u y 240 3 (-1)) 240 4 (nI 0)) 240 5 (nI 1) = u
  have uo : ∀ k, k ≠ 240 → u k = y k := fun k hk => by rw [← eu, fk_u_rowo hk, fk_u_rowo hk, fk_u_rowo hk]
  have u6 : u (36 + j) 6 = A (320 + j) := by rw [uo _ (by omega)]; exact e6
  have c34 : fk_cr 33 0 = 34 := c0
  have h34 : fk_at 34 24 := h24
  have s34 : (fk_shp 34).2 = 64 := s24
  have e36 : 34 + 2 + j = 36 + j := by omega
  have sq : ck_sq c y u := ⟨fun k _ _ _ _ k5 => uo k k5, fun i hi => by rw [uo _ (by omega)]; exact h167 i hi⟩
  by_cases cw : P &&& (nI 1 <<< (A (320 + j) &&& 31) ^^^ (-1)) = nI 0
  · refine ⟨fk_u u 240 3 (nI 0), ?_, ⟨fun k k1 k2 k3 k4 k5 => by rw [fk_u_rowo k5]; exact sq.1 k k1 k2 k3 k4 k5, fun i hi => by rw [fk_u_rowo (by omega)]; exact sq.2 i hi⟩, ?_⟩
    · simp (disch := first | assumption | omega) only [rX9_seek, eu, c34, s34, e36, u6, cw, Option.bind_some, Option.toList_some, Option.toList_none, List.cons_append, List.nil_append, fk_b_0, nI_add, Nat.add_zero, Nat.zero_add, not_true_eq_false, not_false_eq_true, if_true, if_false, sI_le_t, sI_le_f, sI_lt_t, sI_lt_f, sI_eq_t, sI_eq_f, sI_rem, sI_div, sI_m1a, sI_m1b, sI_m1c, sI_m1d, sI_m1e, sI_m1f, sI_m2a, sI_m2b, sI_sub, pk_mul, sI_dec, fk_u_s, fk_u_o, sI_dec0, sI_z, sI_md, Bool.false_eq_true, Nat.reduceAdd, Nat.reduceMul, Nat.reduceSub, Nat.reduceMod, Nat.reduceDiv]
    · rw [ab_fd_0 hF h1 cw]
      refine Or.inr ⟨Nat.zero_le _, fk_u_s, ?_, ?_⟩
      · rw [fk_u_o (by omega), ← eu, fk_u_o (by omega), fk_u_s]
      · rw [fk_u_o (by omega), ← eu, fk_u_s]
  · have ef := mX5_forkPlaces (N := N) (l := l) (d := d + 4) (y := u) hv (ck_nt_c rfl (fun _ _ _ => rfl) (fun c' _ _ => uo c' (by omega)) hN)
    rw [eF] at ef
    have h8F := (ab_fo_ok (v := v)).2
    rw [eF] at h8F
    obtain ⟨y1, e1, e2, e3⟩ := mX9_seek_loop (N := N) (l := l) (d := d) (a3 := .int (nI j)) (a4 := .int P) (a5 := .int (nI n)) hv hN hL hpr ho hj ho4 hF h8F hn hl cw (F + 1) 0 0 n (1000000000, 0, 0) u (by omega) (fun i h => by rw [Nat.zero_testBit] at h; exact absurd h (by decide)) (Nat.zero_le _) (if_neg (by show ¬ 1000000000 ≤ n; omega)).symm rfl sq (Or.inl ⟨rfl, by rw [← eu, fk_u_o (by omega), fk_u_o (by omega), fk_u_s]⟩) .null .null
    refine ⟨y1, ?_, e2, e3⟩
    rw [← e1]
    simp (disch := first | assumption | omega) only [rX9_seek, eu, c34, s34, e36, u6, cw, ef, Option.bind_some, Option.toList_some, Option.toList_none, List.cons_append, List.nil_append, fk_b_0, nI_add, Nat.add_zero, Nat.zero_add, not_true_eq_false, not_false_eq_true, if_true, if_false, sI_le_t, sI_le_f, sI_lt_t, sI_lt_f, sI_eq_t, sI_eq_f, sI_rem, sI_div, sI_m1a, sI_m1b, sI_m1c, sI_m1d, sI_m1e, sI_m1f, sI_m2a, sI_m2b, sI_sub, pk_mul, sI_dec, fk_u_s, fk_u_o, sI_dec0, sI_z, sI_md, Bool.false_eq_true, Nat.reduceAdd, Nat.reduceMul, Nat.reduceSub, Nat.reduceMod, Nat.reduceDiv]
end PLB
