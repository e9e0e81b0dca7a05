section CL6
variable {N : Nat} {S : Nat → Int32} {v y y1 y2 : Nat → Nat → Int32} {l : Nat → Nat → Int64} {d p p' n H t : Nat} {T A A' : Nat → Int32}
set_option maxRecDepth 10000 in
theorem mX8_copyFrom (hp : ck_pp p) (hp' : ck_pp p') (hpp : p ≠ p') (h : ck_pr p' y T A) (ho : ab_ok v n H A) (h0 : ∀ j, j < 64 → y (p + 3 + j) 0 = nI j) : ∃ y', fk_ev (d + 1) qX8_copyFrom 0 [.ref p, .ref p', .null] [] (fk_E N y l) = some (none, fk_E N y' l) ∧ ck_pr p y' T A ∧ ∀ k, ¬ (p ≤ k ∧ k < p + 67) → y' k = y k := by
  obtain ⟨h8, c0, c1, h24, s24, h20, s20, p1, p2⟩ := ck_pp_at hp
  obtain ⟨g8, d0, d1, g24, t24, g20, t20, p3, p4⟩ := ck_pp_at hp'
  have e1 : p = 33 ∨ p = 100 ∨ p = 167 := hp
  have e2 : p' = 33 ∨ p' = 100 ∨ p' = 167 := hp'
  have hn := ho.1
  have hN := ab_ok_n ho
  obtain ⟨⟨q1, q2, q3, q4, q5, q6, q7⟩, q8, q9, q10, q11⟩ := id h
  have eb : y p' 2 = nI n := q1.trans ho.2.1
  have key := fk_loopr (σ := Nat → Nat → Int32) (fun k z => fk_ev (d + 1) qX8_copyFrom 2 [.ref p, .ref p', .int (nI k)] [] (fk_E N z l)) (fun k z => (∀ c, ¬ (p + 3 ≤ c ∧ c < p + 67) → z c = y c) ∧ (∀ j, j < 64 → z (p + 3 + j) 0 = nI j) ∧ ∀ j, j < k → ck_hm (z (p + 3 + j)) A j ∧ (z (p + 3 + j) 14 = nI 0 ∨ z (p + 3 + j) 14 = nI 1)) n (by
    rintro k z hk ⟨i1, i2, i3⟩
    try dsimp only
    have hk64 : k < 64 := by omega
    have a := q9 k hk64 (by omega)
    have a14 := q10 k hk64 (by omega)
    have ez : z (p' + 3 + k) = y (p' + 3 + k) := i1 _ (by omega)
    have hh := ck_pp_h hp hk64
    have hh' := ck_pp_h hp' hk64
    have hcc : p + 3 + k ≠ p' + 3 + k := by omega
    have b4 : z (p' + 3 + k) 4 = nI 0 ∨ z (p' + 3 + k) 4 = nI 1 := by rw [ez, a.2.2.2.1]; exact fk_b_01
    have b14 : z (p' + 3 + k) 14 = nI 0 ∨ z (p' + 3 + k) 14 = nI 1 := by rw [ez]; exact a14
    have ebz : z p' 2 = nI n := by rw [i1 p' (by omega)]; exact eb
    refine ⟨ck_hcp z (p + 3 + k) (p' + 3 + k), ?_, fun c hc => by rw [ck_hcp_o (by omega)]; exact i1 c hc, fun j hj => ?_, fun j hj => ?_⟩
    · rw [hX8_copyFrom_2]
      simp (disch := first | assumption | omega) only [rX8_copyFrom, ebz, c0, d0, ck_p3 (p := p), ck_p3 (p := p'), mX0_copyFrom hh hh' hcc b4 b14, Option.bind_some, Option.toList_some, Option.toList_none, List.cons_append, List.nil_append, fk_b_0, nI_add, Nat.add_zero, Nat.zero_add, not_true_eq_false, not_false_eq_true, if_true, if_false, sI_le_t, sI_le_f, sI_lt_t, sI_lt_f, sI_eq_t, sI_eq_f, sI_rem, sI_div, sI_m1a, sI_m1b, sI_m1c, sI_m1d, sI_m1e, sI_m1f, sI_m2a, sI_m2b, sI_sub, pk_mul, sI_dec, fk_u_s, fk_u_o, sI_dec0, sI_z, sI_md, Bool.false_eq_true, Nat.reduceAdd, Nat.reduceMul, Nat.reduceSub, Nat.reduceMod, Nat.reduceDiv]
    · by_cases e : j = k
      · subst e; rw [ck_hcp_0]; exact i2 j hj
      · rw [ck_hcp_o (by omega)]; exact i2 j hj
    · by_cases e : j = k
      · subst e
        obtain ⟨a1, a2, a3, a4, a5, a6, a7, a8, a9, a10, a11, a12, a13⟩ := a
        refine ⟨?_, by rw [ck_hcp_s (by omega) (by omega), ez]; exact a14⟩
        unfold ck_hm
        simp (disch := omega) only [ck_hcp_s]
        rw [ez]
        exact ⟨a1, a2, a3, a4, a5, a6, a7, a8, a9, a10, a11, a12, a13⟩
      · rw [ck_hcp_o (by omega)]; exact i3 j (by omega)) n 0 y (Nat.zero_add n) ⟨fun _ _ => rfl, h0, fun j hj => by omega⟩
  obtain ⟨z, e, i1, i2, i3⟩ := key
  have ebz : z p' 2 = nI n := by rw [i1 p' (by omega)]; exact eb
  have Zr : ∀ i, z p' i = y p' i := fun i => by rw [i1 p' (by omega)]
  generalize hU : fk_uc z (p' + 2) 0 (p + 2) 0 4 = U
  have Uo : ∀ c, c ≠ p + 2 → U c = z c := fun c hc => by
    rw [← hU]
    funext j
    exact if_neg fun q => hc q.1
  have Ul : ∀ o, o < 4 → U (p + 2) o = y (p' + 2) o := fun o ho => by
    rw [← hU, ← i1 (p' + 2) (by omega)]
    unfold fk_uc
    rw [if_pos ⟨rfl, by omega, by omega⟩]
    congr 1
    omega
  have Ur : ∀ i, U p' i = y p' i := fun i => by rw [Uo p' (by omega)]; exact Zr i
  refine ⟨fk_u (fk_u (fk_u (fk_u (fk_u (fk_u (fk_u U p 2 (y p' 2)) p 3 (y p' 3)) p 4 (y p' 4)) p 5 (y p' 5)) p 6 (y p' 6)) p 7 (y p' 7)) p 8 (y p' 8), ?_, ?_, fun k hk => ?_⟩
  · simp (disch := first | assumption | omega) only [rX8_copyFrom, Option.bind_some, Option.toList_some, Option.toList_none, List.cons_append, List.nil_append, fk_b_0, nI_add, Nat.add_zero, Nat.zero_add, not_true_eq_false, not_false_eq_true, if_true, if_false, sI_le_t, sI_le_f, sI_lt_t, sI_lt_f, sI_eq_t, sI_eq_f, sI_rem, sI_div, sI_m1a, sI_m1b, sI_m1c, sI_m1d, sI_m1e, sI_m1f, sI_m2a, sI_m2b, sI_sub, pk_mul, sI_dec, fk_u_s, fk_u_o, sI_dec0, sI_z, sI_md, Bool.false_eq_true, Nat.reduceAdd, Nat.reduceMul, Nat.reduceSub, Nat.reduceMod, Nat.reduceDiv]
    rw [e, hX8_copyFrom_2]
    simp (disch := first | assumption | omega) only [rX8_copyFrom, ebz, c1, d1, hU, Ur, Option.bind_some, Option.toList_some, Option.toList_none, List.cons_append, List.nil_append, fk_b_0, nI_add, Nat.add_zero, Nat.zero_add, not_true_eq_false, not_false_eq_true, if_true, if_false, sI_le_t, sI_le_f, sI_lt_t, sI_lt_f, sI_eq_t, sI_eq_f, sI_rem, sI_div, sI_m1a, sI_m1b, sI_m1c, sI_m1d, sI_m1e, sI_m1f, sI_m2a, sI_m2b, sI_sub, pk_mul, sI_dec, fk_u_s, fk_u_o, sI_dec0, sI_z, sI_md, Bool.false_eq_true, Nat.reduceAdd, Nat.reduceMul, Nat.reduceSub, Nat.reduceMod, Nat.reduceDiv]
  · refine ⟨⟨?_, ?_, ?_, ?_, ?_, ?_, ?_⟩, fun i hi => ?_, fun i hi hi2 => ?_, fun i hi hi2 => ?_, fun o' ho' => ?_⟩
    · simp (disch := omega) only [fk_u_o, fk_u_s]; exact q1
    · simp (disch := omega) only [fk_u_o, fk_u_s]; exact q2
    · simp (disch := omega) only [fk_u_o, fk_u_s]; exact q3
    · simp (disch := omega) only [fk_u_o, fk_u_s]; exact q4
    · simp (disch := omega) only [fk_u_o, fk_u_s]; exact q5
    · simp (disch := omega) only [fk_u_o, fk_u_s]; exact q6
    · simp (disch := omega) only [fk_u_o, fk_u_s]; exact q7
    · simp (disch := omega) only [fk_u_o]; rw [Uo _ (by omega)]; exact i2 i hi
    · simp (disch := omega) only [fk_u_rowo]; rw [Uo _ (by omega)]; exact (i3 i (by omega)).1
    · simp (disch := omega) only [fk_u_rowo]; rw [Uo _ (by omega)]; exact (i3 i (by omega)).2
    · simp (disch := omega) only [fk_u_rowo]; rw [Ul o' ho']; exact q11 o' ho'
  · simp (disch := omega) only [fk_u_rowo]
    rw [Uo k (by omega)]
    exact i1 k (by omega)
/-- a past put into the other -/
theorem mX7_copyFrom {a b : Nat} (hab : (a = 234 ∧ b = 236) ∨ (a = 236 ∧ b = 234)) : fk_ev d qX7_copyFrom 0 [.ref a, .ref b] [] (fk_E N y l) = some (none, fk_E N (fk_uc y (b + 1) 0 (a + 1) 0 3072) l) := by
  have h234 : fk_at 234 7 := ⟨by decide, by decide, by decide +kernel⟩
  have h236 : fk_at 236 7 := ⟨by decide, by decide, by decide +kernel⟩
  have h235 : fk_at 235 20 := ⟨by decide, by decide, by decide +kernel⟩
  have h237 : fk_at 237 20 := ⟨by decide, by decide, by decide +kernel⟩
  have s235 : (fk_shp 235).2 = 3072 := by decide +kernel
  have s237 : (fk_shp 237).2 = 3072 := by decide +kernel
  have c234 : fk_cr 234 0 = 235 := by decide
  have c236 : fk_cr 236 0 = 237 := by decide
  rcases hab with ⟨rfl, rfl⟩ | ⟨rfl, rfl⟩
  · simp (disch := first | assumption | omega) only [rX7_copyFrom, c234, c236, s235, Option.bind_some, Option.toList_some, Option.toList_none, List.cons_append, List.nil_append, fk_b_0, nI_add, Nat.add_zero, Nat.zero_add, not_true_eq_false, not_false_eq_true, if_true, if_false, sI_le_t, sI_le_f, sI_lt_t, sI_lt_f, sI_eq_t, sI_eq_f, sI_rem, sI_div, sI_m1a, sI_m1b, sI_m1c, sI_m1d, sI_m1e, sI_m1f, sI_m2a, sI_m2b, sI_sub, pk_mul, sI_dec, fk_u_s, fk_u_o, sI_dec0, sI_z, sI_md, Bool.false_eq_true, Nat.reduceAdd, Nat.reduceMul, Nat.reduceSub, Nat.reduceMod, Nat.reduceDiv]
  · simp (disch := first | assumption | omega) only [rX7_copyFrom, c234, c236, s237, Option.bind_some, Option.toList_some, Option.toList_none, List.cons_append, List.nil_append, fk_b_0, nI_add, Nat.add_zero, Nat.zero_add, not_true_eq_false, not_false_eq_true, if_true, if_false, sI_le_t, sI_le_f, sI_lt_t, sI_lt_f, sI_eq_t, sI_eq_f, sI_rem, sI_div, sI_m1a, sI_m1b, sI_m1c, sI_m1d, sI_m1e, sI_m1f, sI_m2a, sI_m2b, sI_sub, pk_mul, sI_dec, fk_u_s, fk_u_o, sI_dec0, sI_z, sI_md, Bool.false_eq_true, Nat.reduceAdd, Nat.reduceMul, Nat.reduceSub, Nat.reduceMod, Nat.reduceDiv]
theorem cl_keep (hR : cR S y) : ∃ a y1 y2, fk_ev (d + 8) qX11_keep 0 [.ref 1] [] (fk_E N y l) = some (some (.int a), fk_E N y1 l) ∧ fk_ev (d + 8) qX12_keep 0 [.ref 246] [] (fk_E N y1 l) = some (some (.int a), fk_E N y2 l) ∧ cR S y2 := by
  obtain ⟨r0, r1, r2, ⟨n, H, p1, p2, p3, p4⟩, ⟨k1, k2⟩, r5, r6, r7, r8, r9⟩ := id hR
  have hn := p1.1
  have h33 := n8
  have h100 : fk_at 100 8 := ⟨by decide, by decide, by decide +kernel⟩
  have h234 : fk_at 234 7 := ⟨by decide, by decide, by decide +kernel⟩
  have h236 : fk_at 236 7 := ⟨by decide, by decide, by decide +kernel⟩
  obtain ⟨z, e1, z1, z2⟩ := mX8_copyFrom (N := N) (l := l) (d := d + 6) (p := 100) (p' := 33) (Or.inr (Or.inl rfl)) (Or.inl rfl) (by omega) p3 p1 k1
  generalize hU : fk_u (fk_uc z 235 0 237 0 3072) 1 2 (nI 1) = U
  have Uo : ∀ c, c ≠ 237 → c ≠ 1 → U c = z c := fun c h1 h2 => by
    rw [← hU, fk_u_rowo h2]
    funext j
    exact if_neg fun q => h1 q.1
  have U1 : ∀ i, i ≠ 2 → U 1 i = y 1 i := fun i hi => by
    rw [← hU, fk_u_o (by omega)]
    show (if (1 : Nat) = 237 ∧ _ then _ else z 1 i) = y 1 i
    rw [if_neg (by omega), z2 1 (by omega)]
  have U12 : U 1 2 = nI 1 := by rw [← hU, fk_u_s]
  have U237 : ∀ i, i < 3072 → U 237 i = y 235 i := fun i hi => by
    rw [← hU, fk_u_o (by omega)]
    unfold fk_uc
    rw [if_pos ⟨rfl, by omega, by omega⟩, z2 235 (by omega)]
    congr 1
    omega
  have Uf : ∀ c, ¬ (100 ≤ c ∧ c < 167) → c ≠ 237 → c ≠ 1 → U c = y c := fun c h1 h2 h3 => by rw [Uo c h2 h3, z2 c (by omega)]
  have pU : ck_pr 33 U (fun _ => nI 0) (y 247) := ck_pr_k p3 fun k h1 h2 => Uf k (by omega) (by omega) (by omega)
  have e0 : fk_ev (d + 8) qX11_keep 0 [.ref 1] [] (fk_E N y l) = some (some (.int ((nI (fk_cf (fun j => decide (y 247 (192 + j) = nI 1)) 0 n)))), fk_E N U l) := by
    simp (disch := first | assumption | omega) only [rX11_keep, e1, mX7_copyFrom (Or.inr ⟨rfl, rfl⟩), hU, mX8_livingInAll (Or.inl rfl) pU p1, Option.bind_some, Option.toList_some, Option.toList_none, List.cons_append, List.nil_append, fk_b_0, nI_add, Nat.add_zero, Nat.zero_add, not_true_eq_false, not_false_eq_true, if_true, if_false, sI_le_t, sI_le_f, sI_lt_t, sI_lt_f, sI_eq_t, sI_eq_f, sI_rem, sI_div, sI_m1a, sI_m1b, sI_m1c, sI_m1d, sI_m1e, sI_m1f, sI_m2a, sI_m2b, sI_sub, pk_mul, sI_dec, fk_u_s, fk_u_o, sI_dec0, sI_z, sI_md, Bool.false_eq_true, Nat.reduceAdd, Nat.reduceMul, Nat.reduceSub, Nat.reduceMod, Nat.reduceDiv]
  have u247 : U 247 = y 247 := Uf 247 (by omega) (by omega) (by omega)
  have e2 := mX12_keep (N := N) (l := l) (d := d + 6) (y := U) hn (by rw [u247]; exact p1.2.1)
  rw [u247] at e2
  generalize hV : fk_cp (fk_u U 246 49 (nI 1)) 247 249 3912 = V at e2
  have V249 : ∀ i, i < 3912 → V 249 i = y 247 i := fun i hi => by
    rw [← hV]
    unfold fk_cp
    rw [if_pos ⟨rfl, hi⟩, fk_u_o (by omega), u247]
  have Vo : ∀ c, c ≠ 249 → c ≠ 246 → V c = U c := fun c h1 h2 => by
    rw [← hV]
    funext j
    unfold fk_cp
    rw [if_neg fun q => h1 q.1, fk_u_o fun q => h2 q.1]
  have V246 : ∀ i, i ≠ 49 → V 246 i = y 246 i := fun i hi => by
    rw [← hV]
    unfold fk_cp
    rw [if_neg (by omega), fk_u_o (by omega), Uf 246 (by omega) (by omega) (by omega)]
  have V49 : V 246 49 = nI 1 := by
    rw [← hV]
    unfold fk_cp
    rw [if_neg (by omega), fk_u_s]
  have Vf : ∀ c, ¬ (100 ≤ c ∧ c < 167) → c ≠ 237 → c ≠ 1 → c ≠ 249 → c ≠ 246 → V c = y c := fun c h1 h2 h3 h4 h5 => by rw [Vo c h4 h5, Uf c h1 h2 h3]
  have e3 : V 246 3 = y 246 3 := V246 3 (by omega)
  have e25 : ∀ c, 250 ≤ c → c ≤ 254 → V c = y c := fun c h1 h2 => Vf c (by omega) (by omega) (by omega) (by omega) (by omega)
  have p100 : ck_pr 100 V (fun _ => nI 0) (V 249) := by
    refine ck_pr_hi (A := y 247) (ck_pr_k (y := z) z1 fun k h1 h2 => ?_) (by rw [ab_ok_n p1]; exact hn) fun i hi => V249 i (by omega)
    rw [Vo k (by omega) (by omega), Uo k (by omega) (by omega)]
  refine ⟨_, U, V, e0, e2, (Vf 0 (by omega) (by omega) (by omega) (by omega) (by omega)).trans r0, ab_rv_c e3 e25 r1, ck_nt_c e3 e25 (fun c h1 h2 => Vf c (by omega) (by omega) (by omega) (by omega) (by omega)) r2, ?_, ⟨p100.2.1, Or.inr ⟨?_, V49, n, H, ?_, ?_, p100, fun i hi => ?_⟩⟩, ?_, ?_, (V246 33 (by omega)).trans r7, (V246 36 (by omega)).trans r8, fun j hj => ?_⟩
  · rw [Vf 247 (by omega) (by omega) (by omega) (by omega) (by omega)]
    exact cR_pl_c e3 (fun k h1 h2 => Vf k (by omega) (by omega) (by omega) (by omega) (by omega)) (Vf 235 (by omega) (by omega) (by omega) (by omega) (by omega)) ⟨n, H, p1, p2, p3, p4⟩
  · rw [Vo 1 (by omega) (by omega)]; exact U12
  · exact ab_ok_c e3 (ab_ok_hi p1 fun i hi => V249 i (by omega))
  · refine ⟨fun j hj => by rw [V249 _ (by omega)]; exact p2.1 j hj, fun h j h1 h2 h3 h4 => ?_⟩
    rw [V249 _ (by omega)]
    exact p2.2 h j h1 h2 h3 fun hj => by have := h4 hj; rw [V249 _ (by omega)] at this; exact this
  · rw [Vo 237 (by omega) (by omega), U237 i hi, p4 i hi, V249 _ (by omega)]
  · obtain ⟨t, t1, t2, t3, t4⟩ := r5
    exact ⟨t, t1, by rw [Vf 26 (by omega) (by omega) (by omega) (by omega) (by omega)]; exact t2, (V246 10 (by omega)).trans t3, fun i hi => by rw [Vf 27 (by omega) (by omega) (by omega) (by omega) (by omega), Vf 255 (by omega) (by omega) (by omega) (by omega) (by omega)]; exact t4 i hi⟩
  · obtain ⟨c, W, w1, w2, w3, w4, w5, w6⟩ := r6
    have g : ∀ k, k ≠ 1 → k ≤ 20 → V k = y k := fun k h1 h2 => Vf k (by omega) (by omega) (by omega) (by omega) (by omega)
    refine ⟨c, W, w1, by rw [Vo 1 (by omega) (by omega), U1 0 (by omega)]; exact w2, by rw [Vo 1 (by omega) (by omega), U1 1 (by omega)]; exact w3, ck_LC_c (fun k h1 h2 => g k (by omega) (by omega)) (by rw [g c (by omega) (by omega)]) (by rw [g c (by omega) (by omega)]) w4, fk_LR_c (fun k h1 h2 => Vf k (by omega) (by omega) (by omega) (by omega) (by omega)) (V246 19 (by omega)) w5, by rw [g c (by omega) (by omega), V246 19 (by omega)]; exact w6⟩
  · rw [Vf _ (by omega) (by omega) (by omega) (by omega) (by omega)]; exact r9 j hj
end CL6
