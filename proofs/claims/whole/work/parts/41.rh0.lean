section RH0
variable {N : Nat} {v y : Nat → Nat → Int32} {l : Nat → Nat → Int64} {d : Nat} {W : Int32 → (Nat → Int32) → Int32} {s : ab_S}
theorem ab_n_of {A : Nat → Int32} {n : Nat} (hn : n ≤ 64) (hm : A 833 = nI n) : ab_n A = n := by
  unfold ab_n
  rw [hm, nI_clamp (by omega)]
/-- a row filled with 0 up to j -/
def fk_zf (y : Nat → Nat → Int32) (a j : Nat) : Nat → Nat → Int32 := fun c i => if c = a ∧ i < j then nI 0 else y c i
theorem fk_zf_o {a j c i : Nat} (h : c ≠ a) : fk_zf y a j c i = y c i := if_neg fun z => h z.1
theorem fk_zf_z {a : Nat} : fk_zf y a 0 = y := by
  funext c i
  exact if_neg fun z => by omega
theorem fk_zf_s {a j : Nat} : fk_u (fk_zf y a j) a j (nI 0) = fk_zf y a (j + 1) := by
  funext c i
  unfold fk_u fk_zf
  grind
def fk_feel (y : Nat → Nat → Int32) (j n : Nat) : Nat → Nat → Int32 :=
  fk_u (fk_u (fk_u (fk_u (fk_u (fk_u (fk_u (fk_u (fk_u (fk_zf y 268 14) 268 0 (y 247 832)) 268 1 (y 247 j)) 268 2 (nI j)) 268 3 (y 247 (256 + j))) 268 4 (if y 247 (320 + j) < nI 0 then nI 0 else y 247 (320 + j))) 268 5 (nI (fk_cf (fun k => decide (y 247 (192 + k) = nI 1 ∧ y 247 k = y 247 j)) 0 n))) 268 6 (fk_bits (y 247 (704 + j)))) 268 7 (y 247 (576 + j))) 268 8 (y 247 832 - y 247 (128 + j))
theorem fk_feel_o {j n c i : Nat} (h : c ≠ 268) : fk_feel y j n c i = y c i := by
  unfold fk_feel
  simp (disch := omega) only [fk_u_o, fk_zf_o]
theorem fk_feel_f {j n k : Nat} (hn : n ≤ 64) (hm : y 247 833 = nI n) (hk : k < 14) : fk_feel y j n 268 k = ab_fe (y 247) j k := by
  unfold fk_feel ab_fe ab_lo
  rw [ab_n_of hn hm]
  have h : k = 0 ∨ k = 1 ∨ k = 2 ∨ k = 3 ∨ k = 4 ∨ k = 5 ∨ k = 6 ∨ k = 7 ∨ k = 8 ∨ 9 ≤ k := by omega
  rcases h with rfl | rfl | rfl | rfl | rfl | rfl | rfl | rfl | rfl | h
  · simp [fk_u]
  · simp [fk_u]
  · simp [fk_u]
  · simp [fk_u]
  · simp [fk_u]
  · simp [fk_u]
  · simp [fk_u]
  · simp [fk_u]
  · simp [fk_u]
  · have h0 : ¬ k = 0 := by omega
    have h1 : ¬ k = 1 := by omega
    have h2 : ¬ k = 2 := by omega
    have h3 : ¬ k = 3 := by omega
    have h4 : ¬ k = 4 := by omega
    have h5 : ¬ k = 5 := by omega
    have h6 : ¬ k = 6 := by omega
    have h7 : ¬ k = 7 := by omega
    have h8 : ¬ k = 8 := by omega
    simp [fk_u, fk_zf, h0, h1, h2, h3, h4, h5, h6, h7, h8, hk]
theorem mX12_feels {j n : Nat} (hj : j < 64) (hn : n ≤ 64) (hm : y 247 833 = nI n) : fk_ev (d + 2) qX12_feels 0 [.ref 246, .int ((nI j)), .null] [] (fk_E N y l) = some (none, fk_E N (fk_feel y j n) l) := by
  simp (disch := first | assumption | omega) only [rX12_feels, Option.bind_some, Option.toList_some, Option.toList_none, List.cons_append, List.nil_append, fk_b_0, nI_add, Nat.add_zero, Nat.zero_add, not_true_eq_false, not_false_eq_true, if_true, if_false, sI_le_t, sI_le_f, sI_lt_t, sI_lt_f, sI_eq_t, sI_eq_f, sI_rem, sI_div, sI_m1a, sI_m1b, sI_m1c, sI_m1d, sI_m1e, sI_m1f, sI_m2a, sI_m2b, sI_sub, pk_mul, sI_dec, fk_u_s, fk_u_o, sI_dec0, sI_z, sI_md, Bool.false_eq_true, Nat.reduceAdd, Nat.reduceMul, Nat.reduceSub, Nat.reduceMod, Nat.reduceDiv]
  have e := fk_loop0 (fun k (_ : Unit) => fk_ev (d + 2) qX12_feels 2 [.ref 246, .int ((nI j)), .int ((nI k))] [] (fk_E N (fk_zf y 268 k) l)) (fun _ s => s) 14 (by
    intro k c hk
    try dsimp only
    rw [hX12_feels_2]
    simp (disch := first | assumption | omega) only [rX12_feels, fk_zf_s, Option.bind_some, Option.toList_some, Option.toList_none, List.cons_append, List.nil_append, fk_b_0, nI_add, Nat.add_zero, Nat.zero_add, not_true_eq_false, not_false_eq_true, if_true, if_false, sI_le_t, sI_le_f, sI_lt_t, sI_lt_f, sI_eq_t, sI_eq_f, sI_rem, sI_div, sI_m1a, sI_m1b, sI_m1c, sI_m1d, sI_m1e, sI_m1f, sI_m2a, sI_m2b, sI_sub, pk_mul, sI_dec, fk_u_s, fk_u_o, sI_dec0, sI_z, sI_md, Bool.false_eq_true, Nat.reduceAdd, Nat.reduceMul, Nat.reduceSub, Nat.reduceMod, Nat.reduceDiv]) ()
  try dsimp only at e
  rw [fk_zf_z] at e
  rw [e, hX12_feels_2]
  simp (disch := first | assumption | omega | (simp (disch := omega) only [fk_u_s, fk_u_o, fk_zf_o, fk_feel_o]; assumption)) only [rX12_feels, fk_zf_o, mX12_max, mX12_livingOf hn, mX12_bits, Option.bind_some, Option.toList_some, Option.toList_none, List.cons_append, List.nil_append, fk_b_0, nI_add, Nat.add_zero, Nat.zero_add, not_true_eq_false, not_false_eq_true, if_true, if_false, sI_le_t, sI_le_f, sI_lt_t, sI_lt_f, sI_eq_t, sI_eq_f, sI_rem, sI_div, sI_m1a, sI_m1b, sI_m1c, sI_m1d, sI_m1e, sI_m1f, sI_m2a, sI_m2b, sI_sub, pk_mul, sI_dec, fk_u_s, fk_u_o, sI_dec0, sI_z, sI_md, Bool.false_eq_true, Nat.reduceAdd, Nat.reduceMul, Nat.reduceSub, Nat.reduceMod, Nat.reduceDiv]
  rfl
theorem fk_rs_k {y' : Nat → Nat → Int32} (hs : fk_rs v y s) (h : ∀ c, c ≠ 267 → c ≠ 268 → y' c = y c) : fk_rs v y' s := by
  obtain ⟨h1, h2, h3, h4, h5⟩ := hs
  refine ⟨(h 247 (by decide) (by decide)).trans h1, fun j hj => ?_, ?_, fun i hi => ?_, fun c c1 c2 c3 c4 c5 => (h c c3 c4).trans (h5 c c1 c2 c3 c4 c5)⟩
  · rw [h 269 (by decide) (by decide)]; exact h2 j hj
  · rw [h 246 (by decide) (by decide)]; exact h3
  · rw [h 246 (by decide) (by decide)]; exact h4 i hi
theorem mX12_gladlyFor (HW : fk_LR W v) (hs : fk_rs v y s) {j r n : Nat} (hj : j < 64) (hr : r < 32) (hn : n ≤ 64) (hm : s.1 833 = nI n) : ∃ y', fk_ev (d + 4) qX12_gladlyFor 0 [.ref 246, .int ((nI j)), .int ((nI r))] [] (fk_E N y l) = some (some (.int ((ab_gl v W s.1 j r))), fk_E N y' l) ∧ fk_rs v y' s := by
  have hs0 := hs
  obtain ⟨h1, h2, h3, h4, h5⟩ := hs
  have hm' : y 247 833 = nI n := by rw [h1]; exact hm
  obtain ⟨y', e2, k2⟩ := HW.2.1 N d (fk_u (fk_u (fk_u (fk_feel y j n) 268 9 (nI r)) 268 10 (y 251 r)) 268 11 (y 252 r)) l (nI 99) (nI 99) (by
    intro c c1 c2
    funext i
    rw [fk_u_o (by omega), fk_u_o (by omega), fk_u_o (by omega), fk_feel_o (by omega), h5 c (by omega) (by omega) (by omega) (by omega) (by omega)]) (by
    rw [fk_u_o (by omega), fk_u_o (by omega), fk_u_o (by omega), fk_feel_o (by omega), h4 19 (by omega)]) (Or.inl rfl) (by decide)
  have eW : W (nI 99) (fk_u (fk_u (fk_u (fk_feel y j n) 268 9 (nI r)) 268 10 (y 251 r)) 268 11 (y 252 r) 268) = W (nI 99) (ab_fr v s.1 j r) := by
    refine HW.1 _ _ _ fun k hk => ?_
    unfold ab_fr
    have e251 : y 251 = v 251 := h5 251 (by omega) (by omega) (by omega) (by omega) (by omega)
    have e252 : y 252 = v 252 := h5 252 (by omega) (by omega) (by omega) (by omega) (by omega)
    by_cases k9 : k = 9
    · subst k9; simp [fk_u]
    · by_cases k10 : k = 10
      · subst k10; simp [fk_u, e251]
      · by_cases k11 : k = 11
        · subst k11; simp [fk_u, e252]
        · rw [fk_u_o (by omega), fk_u_o (by omega), fk_u_o (by omega), fk_feel_f hn hm' hk, if_neg k9, if_neg k10, if_neg k11, h1]
  rw [eW] at e2
  refine ⟨y', ?_, fk_rs_k hs0 fun c c1 c2 => ?_⟩
  · simp (disch := first | assumption | omega | (simp (disch := omega) only [fk_u_s, fk_u_o, fk_zf_o, fk_feel_o]; assumption)) only [rX12_gladlyFor, mX12_feels hj hn hm', fk_feel_o, e2, Option.bind_some, Option.toList_some, Option.toList_none, List.cons_append, List.nil_append, fk_b_0, nI_add, Nat.add_zero, Nat.zero_add, not_true_eq_false, not_false_eq_true, if_true, if_false, sI_le_t, sI_le_f, sI_lt_t, sI_lt_f, sI_eq_t, sI_eq_f, sI_rem, sI_div, sI_m1a, sI_m1b, sI_m1c, sI_m1d, sI_m1e, sI_m1f, sI_m2a, sI_m2b, sI_sub, pk_mul, sI_dec, fk_u_s, fk_u_o, sI_dec0, sI_z, sI_md, Bool.false_eq_true, Nat.reduceAdd, Nat.reduceMul, Nat.reduceSub, Nat.reduceMod, Nat.reduceDiv]
    rfl
  · rw [k2 c c1]
    funext i
    rw [fk_u_o (by omega), fk_u_o (by omega), fk_u_o (by omega), fk_feel_o (by omega)]
end RH0
