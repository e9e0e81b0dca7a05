section R0
variable {N : Nat} {y : Nat → Nat → Int32} {l : Nat → Nat → Int64} {d : Nat} {h : fk_H}
def fk_bits (s : Int32) : Int32 := fk_it (fun k n => n + (s >>> (nI k &&& 31) &&& nI 1)) 0 16 (nI 0)
theorem mX12_bits {s : Int32} : fk_ev d qX12_bits 0 [.int s, .null, .null] [] h = some (some (.int ((fk_bits s))), h) := by
  simp (disch := first | assumption | omega) only [rX12_bits, Option.bind_some, Option.toList_some, Option.toList_none, List.cons_append, List.nil_append, fk_b_0, nI_add, Nat.add_zero, Nat.zero_add, not_true_eq_false, not_false_eq_true, if_true, if_false, sI_le_t, sI_le_f, sI_lt_t, sI_lt_f, sI_eq_t, sI_eq_f, sI_rem, sI_div, sI_m1a, sI_m1b, sI_m1c, sI_m1d, sI_m1e, sI_m1f, sI_m2a, sI_m2b, sI_sub, pk_mul, sI_dec, fk_u_s, fk_u_o, sI_dec0, sI_z, sI_md, Bool.false_eq_true, Nat.reduceAdd, Nat.reduceMul, Nat.reduceSub, Nat.reduceMod, Nat.reduceDiv]
  have e := fk_loop0 (fun j (c : Int32) => fk_ev d qX12_bits 4 [.int s, .int c, .int ((nI j))] [] h) (fun k n => n + (s >>> (nI k &&& 31) &&& nI 1)) 16 (by
    intro j c hj
    try dsimp only
    rw [hX12_bits_4]
    simp (disch := first | assumption | omega) only [rX12_bits, Option.bind_some, Option.toList_some, Option.toList_none, List.cons_append, List.nil_append, fk_b_0, nI_add, Nat.add_zero, Nat.zero_add, not_true_eq_false, not_false_eq_true, if_true, if_false, sI_le_t, sI_le_f, sI_lt_t, sI_lt_f, sI_eq_t, sI_eq_f, sI_rem, sI_div, sI_m1a, sI_m1b, sI_m1c, sI_m1d, sI_m1e, sI_m1f, sI_m2a, sI_m2b, sI_sub, pk_mul, sI_dec, fk_u_s, fk_u_o, sI_dec0, sI_z, sI_md, Bool.false_eq_true, Nat.reduceAdd, Nat.reduceMul, Nat.reduceSub, Nat.reduceMod, Nat.reduceDiv]) (nI 0)
  try dsimp only at e
  rw [e, hX12_bits_4]
  simp (disch := first | assumption | omega) only [rX12_bits, Option.bind_some, Option.toList_some, Option.toList_none, List.cons_append, List.nil_append, fk_b_0, nI_add, Nat.add_zero, Nat.zero_add, not_true_eq_false, not_false_eq_true, if_true, if_false, sI_le_t, sI_le_f, sI_lt_t, sI_lt_f, sI_eq_t, sI_eq_f, sI_rem, sI_div, sI_m1a, sI_m1b, sI_m1c, sI_m1d, sI_m1e, sI_m1f, sI_m2a, sI_m2b, sI_sub, pk_mul, sI_dec, fk_u_s, fk_u_o, sI_dec0, sI_z, sI_md, Bool.false_eq_true, Nat.reduceAdd, Nat.reduceMul, Nat.reduceSub, Nat.reduceMod, Nat.reduceDiv]
  rfl
/-- 3912 numbers of a row put into another -/
def fk_cp (y : Nat → Nat → Int32) (a b n : Nat) : Nat → Nat → Int32 := fun c j => if c = b ∧ j < n then y a j else y c j
theorem mX12_copies {a b : Nat} (ha : fk_at a 20) (hb : fk_at b 20) (sa : (fk_shp a).2 = 3912) (sb : (fk_shp b).2 = 3912) (hab : a ≠ b) : fk_ev d qX12_copies 0 [.ref a, .ref b, .null] [] (fk_E N y l) = some (none, fk_E N (fk_cp y a b 3912) l) := by
  simp (disch := first | assumption | omega) only [rX12_copies, Option.bind_some, Option.toList_some, Option.toList_none, List.cons_append, List.nil_append, fk_b_0, nI_add, Nat.add_zero, Nat.zero_add, not_true_eq_false, not_false_eq_true, if_true, if_false, sI_le_t, sI_le_f, sI_lt_t, sI_lt_f, sI_eq_t, sI_eq_f, sI_rem, sI_div, sI_m1a, sI_m1b, sI_m1c, sI_m1d, sI_m1e, sI_m1f, sI_m2a, sI_m2b, sI_sub, pk_mul, sI_dec, fk_u_s, fk_u_o, sI_dec0, sI_z, sI_md, Bool.false_eq_true, Nat.reduceAdd, Nat.reduceMul, Nat.reduceSub, Nat.reduceMod, Nat.reduceDiv]
  have e := fk_loop0 (fun j (_ : Unit) => fk_ev d qX12_copies 2 [.ref a, .ref b, .int ((nI j))] [] (fk_E N (fk_cp y a b j) l)) (fun _ s => s) 3912 (by
    intro j c hj
    try dsimp only
    rw [hX12_copies_2]
    simp (disch := first | assumption | omega) only [rX12_copies, Option.bind_some, Option.toList_some, Option.toList_none, List.cons_append, List.nil_append, fk_b_0, nI_add, Nat.add_zero, Nat.zero_add, not_true_eq_false, not_false_eq_true, if_true, if_false, sI_le_t, sI_le_f, sI_lt_t, sI_lt_f, sI_eq_t, sI_eq_f, sI_rem, sI_div, sI_m1a, sI_m1b, sI_m1c, sI_m1d, sI_m1e, sI_m1f, sI_m2a, sI_m2b, sI_sub, pk_mul, sI_dec, fk_u_s, fk_u_o, sI_dec0, sI_z, sI_md, Bool.false_eq_true, Nat.reduceAdd, Nat.reduceMul, Nat.reduceSub, Nat.reduceMod, Nat.reduceDiv]
    congr 2
    funext c i
    unfold fk_u fk_cp
    grind) ()
  try dsimp only at e
  have e0 : fk_cp y a b 0 = y := by
    funext c i
    unfold fk_cp
    rw [if_neg (by omega)]
  rw [e0] at e
  rw [e, hX12_copies_2]
  simp (disch := first | assumption | omega) only [rX12_copies, Option.bind_some, Option.toList_some, Option.toList_none, List.cons_append, List.nil_append, fk_b_0, nI_add, Nat.add_zero, Nat.zero_add, not_true_eq_false, not_false_eq_true, if_true, if_false, sI_le_t, sI_le_f, sI_lt_t, sI_lt_f, sI_eq_t, sI_eq_f, sI_rem, sI_div, sI_m1a, sI_m1b, sI_m1c, sI_m1d, sI_m1e, sI_m1f, sI_m2a, sI_m2b, sI_sub, pk_mul, sI_dec, fk_u_s, fk_u_o, sI_dec0, sI_z, sI_md, Bool.false_eq_true, Nat.reduceAdd, Nat.reduceMul, Nat.reduceSub, Nat.reduceMod, Nat.reduceDiv]
theorem mX12_begins : fk_ev (d + 1) qX12_begins 0 [.ref 246] [] (fk_E N y l) = some (none, fk_E N (fk_cp y 247 248 3912) l) := by
  simp (disch := first | assumption | omega) only [rX12_begins, mX12_copies fk_at_247 fk_at_248 fk_ln_247 fk_ln_248 (show (247 : Nat) ≠ 248 by decide), Option.bind_some, Option.toList_some, Option.toList_none, List.cons_append, List.nil_append, fk_b_0, nI_add, Nat.add_zero, Nat.zero_add, not_true_eq_false, not_false_eq_true, if_true, if_false, sI_le_t, sI_le_f, sI_lt_t, sI_lt_f, sI_eq_t, sI_eq_f, sI_rem, sI_div, sI_m1a, sI_m1b, sI_m1c, sI_m1d, sI_m1e, sI_m1f, sI_m2a, sI_m2b, sI_sub, pk_mul, sI_dec, fk_u_s, fk_u_o, sI_dec0, sI_z, sI_md, Bool.false_eq_true, Nat.reduceAdd, Nat.reduceMul, Nat.reduceSub, Nat.reduceMod, Nat.reduceDiv]
theorem mX12_again : fk_ev (d + 1) qX12_again 0 [.ref 246] [] (fk_E N y l) = some (none, fk_E N (fk_cp y 248 247 3912) l) := by
  simp (disch := first | assumption | omega) only [rX12_again, mX12_copies fk_at_248 fk_at_247 fk_ln_248 fk_ln_247 (show (248 : Nat) ≠ 247 by decide), Option.bind_some, Option.toList_some, Option.toList_none, List.cons_append, List.nil_append, fk_b_0, nI_add, Nat.add_zero, Nat.zero_add, not_true_eq_false, not_false_eq_true, if_true, if_false, sI_le_t, sI_le_f, sI_lt_t, sI_lt_f, sI_eq_t, sI_eq_f, sI_rem, sI_div, sI_m1a, sI_m1b, sI_m1c, sI_m1d, sI_m1e, sI_m1f, sI_m2a, sI_m2b, sI_sub, pk_mul, sI_dec, fk_u_s, fk_u_o, sI_dec0, sI_z, sI_md, Bool.false_eq_true, Nat.reduceAdd, Nat.reduceMul, Nat.reduceSub, Nat.reduceMod, Nat.reduceDiv]
theorem mX12_isAt {j : Int32} {n : Nat} (hn : n ≤ 64) (hm : y 247 833 = nI n) : fk_ev (d + 2) qX12_isAt 0 [.ref 246, .int j] [] (fk_E N y l) = some (some (.int ((fk_b ((nI 0 ≤ j ∧ j < nI n) ∧ y 247 (192 + j.toNatClampNeg) = nI 1 ∧ nI 0 ≤ y 247 (320 + j.toNatClampNeg))))), fk_E N y l) := by
  simp (disch := first | assumption | omega) only [rX12_isAt, mX12_isLiving hn hm, Option.bind_some, Option.toList_some, Option.toList_none, List.cons_append, List.nil_append, fk_b_0, nI_add, Nat.add_zero, Nat.zero_add, not_true_eq_false, not_false_eq_true, if_true, if_false, sI_le_t, sI_le_f, sI_lt_t, sI_lt_f, sI_eq_t, sI_eq_f, sI_rem, sI_div, sI_m1a, sI_m1b, sI_m1c, sI_m1d, sI_m1e, sI_m1f, sI_m2a, sI_m2b, sI_sub, pk_mul, sI_dec, fk_u_s, fk_u_o, sI_dec0, sI_z, sI_md, Bool.false_eq_true, Nat.reduceAdd, Nat.reduceMul, Nat.reduceSub, Nat.reduceMod, Nat.reduceDiv]
  by_cases h1 : nI 0 ≤ j ∧ j < nI n
  · obtain ⟨k, hk, rfl⟩ := fk_ixn h1.1 h1.2 (by omega)
    rw [nI_clamp (by omega)]
    by_cases h2 : y 247 (192 + k) = nI 1
    · simp (disch := first | assumption | omega) only [h1, h2, and_self, rX12_isAt, Option.bind_some, Option.toList_some, Option.toList_none, List.cons_append, List.nil_append, fk_b_0, nI_add, Nat.add_zero, Nat.zero_add, not_true_eq_false, not_false_eq_true, if_true, if_false, sI_le_t, sI_le_f, sI_lt_t, sI_lt_f, sI_eq_t, sI_eq_f, sI_rem, sI_div, sI_m1a, sI_m1b, sI_m1c, sI_m1d, sI_m1e, sI_m1f, sI_m2a, sI_m2b, sI_sub, pk_mul, sI_dec, fk_u_s, fk_u_o, sI_dec0, sI_z, sI_md, Bool.false_eq_true, Nat.reduceAdd, Nat.reduceMul, Nat.reduceSub, Nat.reduceMod, Nat.reduceDiv]
      by_cases h3 : y 247 (320 + k) < nI 0
      · simp [h3, rX12_isAt, fk_b, Int32.not_le.mpr h3]
      · simp [h3, rX12_isAt, fk_b, Int32.not_lt.mp h3]
    · simp [h1, h2, rX12_isAt, fk_b]
  · simp [h1, rX12_isAt, fk_b]
theorem mX12_isAtN {k n : Nat} (hn : n ≤ 64) (hm : y 247 833 = nI n) (hk : k < n) : fk_ev (d + 2) qX12_isAt 0 [.ref 246, .int ((nI k))] [] (fk_E N y l) = some (some (.int ((fk_b (y 247 (192 + k) = nI 1 ∧ nI 0 ≤ y 247 (320 + k))))), fk_E N y l) := by
  rw [mX12_isAt hn hm, nI_clamp (by omega)]
  simp (disch := first | assumption | omega) only [true_and, Option.bind_some, Option.toList_some, Option.toList_none, List.cons_append, List.nil_append, fk_b_0, nI_add, Nat.add_zero, Nat.zero_add, not_true_eq_false, not_false_eq_true, if_true, if_false, sI_le_t, sI_le_f, sI_lt_t, sI_lt_f, sI_eq_t, sI_eq_f, sI_rem, sI_div, sI_m1a, sI_m1b, sI_m1c, sI_m1d, sI_m1e, sI_m1f, sI_m2a, sI_m2b, sI_sub, pk_mul, sI_dec, fk_u_s, fk_u_o, sI_dec0, sI_z, sI_md, Bool.false_eq_true, Nat.reduceAdd, Nat.reduceMul, Nat.reduceSub, Nat.reduceMod, Nat.reduceDiv]
theorem mX12_isLivingN {k n : Nat} (hn : n ≤ 64) (hm : y 247 833 = nI n) (hk : k < n) : fk_ev (d + 1) qX12_isLiving 0 [.ref 246, .int ((nI k))] [] (fk_E N y l) = some (some (.int ((fk_b (y 247 (192 + k) = nI 1)))), fk_E N y l) := by
  rw [mX12_isLiving hn hm, nI_clamp (by omega)]
  simp (disch := first | assumption | omega) only [true_and, Option.bind_some, Option.toList_some, Option.toList_none, List.cons_append, List.nil_append, fk_b_0, nI_add, Nat.add_zero, Nat.zero_add, not_true_eq_false, not_false_eq_true, if_true, if_false, sI_le_t, sI_le_f, sI_lt_t, sI_lt_f, sI_eq_t, sI_eq_f, sI_rem, sI_div, sI_m1a, sI_m1b, sI_m1c, sI_m1d, sI_m1e, sI_m1f, sI_m2a, sI_m2b, sI_sub, pk_mul, sI_dec, fk_u_s, fk_u_o, sI_dec0, sI_z, sI_md, Bool.false_eq_true, Nat.reduceAdd, Nat.reduceMul, Nat.reduceSub, Nat.reduceMod, Nat.reduceDiv]
theorem mX12_isHalfN {k n : Nat} (hn : n ≤ 64) (hm : y 247 833 = nI n) (hk : k < n) : fk_ev d qX12_isHalf 0 [.ref 246, .int ((nI k))] [] (fk_E N y l) = some (some (.int ((nI 1))), fk_E N y l) := by
  rw [mX12_isHalf, hm]
  rw [fk_b_t ⟨nI_le (by omega) (by omega), nI_lt hk (by omega)⟩]
def fk_bg (y : Nat → Nat → Int32) (n : Nat) (one parent weight : Int32) : Nat → Nat → Int32 :=
  fk_u (fk_u (fk_u (fk_u (fk_u (fk_u (fk_u (fk_u (fk_u (fk_u (fk_u (fk_u y 247 833 (nI (n + 1))) 247 n one) 247 (64 + n) parent) 247 (128 + n) (y 247 832)) 247 (192 + n) (nI 1)) 247 (256 + n) weight) 247 (448 + n) (nI 0)) 247 (512 + n) (nI 0)) 247 (576 + n) (nI 0)) 247 (640 + n) (-2)) 247 (704 + n) (nI 0)) 247 (768 + n) (nI 0)
theorem mX12_begin {n : Nat} {one parent weight : Int32} (hn : n < 64) (hm : y 247 833 = nI n) : fk_ev d qX12_begin 0 [.ref 246, .int one, .int parent, .int weight, .null] [] (fk_E N y l) = some (some (.int ((nI n))), fk_E N (fk_bg y n one parent weight) l) := by
  simp (disch := first | assumption | omega) only [rX12_begin, hm, Option.bind_some, Option.toList_some, Option.toList_none, List.cons_append, List.nil_append, fk_b_0, nI_add, Nat.add_zero, Nat.zero_add, not_true_eq_false, not_false_eq_true, if_true, if_false, sI_le_t, sI_le_f, sI_lt_t, sI_lt_f, sI_eq_t, sI_eq_f, sI_rem, sI_div, sI_m1a, sI_m1b, sI_m1c, sI_m1d, sI_m1e, sI_m1f, sI_m2a, sI_m2b, sI_sub, pk_mul, sI_dec, fk_u_s, fk_u_o, sI_dec0, sI_z, sI_md, Bool.false_eq_true, Nat.reduceAdd, Nat.reduceMul, Nat.reduceSub, Nat.reduceMod, Nat.reduceDiv]
  rfl
def fk_kn (y : Nat → Nat → Int32) (j : Nat) (f so : Int32) : Nat → Nat → Int32 :=
  fk_u (fk_u y 247 (704 + j) (y 247 (704 + j) ||| nI 1 <<< (f &&& 31))) 247 (768 + j) (if so = nI 0 then y 247 (768 + j) &&& (nI 1 <<< (f &&& 31) ^^^ (-1)) else y 247 (768 + j) ||| nI 1 <<< (f &&& 31))
theorem mX12_knows {j : Nat} {f so : Int32} (hj : j < 64) : fk_ev d qX12_knows 0 [.ref 246, .int ((nI j)), .int f, .int so] [] (fk_E N y l) = some (none, fk_E N (fk_kn y j f so) l) := by
  unfold fk_kn
  by_cases h : so = nI 0
  · simp (disch := first | assumption | omega) only [rX12_knows, h, Option.bind_some, Option.toList_some, Option.toList_none, List.cons_append, List.nil_append, fk_b_0, nI_add, Nat.add_zero, Nat.zero_add, not_true_eq_false, not_false_eq_true, if_true, if_false, sI_le_t, sI_le_f, sI_lt_t, sI_lt_f, sI_eq_t, sI_eq_f, sI_rem, sI_div, sI_m1a, sI_m1b, sI_m1c, sI_m1d, sI_m1e, sI_m1f, sI_m2a, sI_m2b, sI_sub, pk_mul, sI_dec, fk_u_s, fk_u_o, sI_dec0, sI_z, sI_md, Bool.false_eq_true, Nat.reduceAdd, Nat.reduceMul, Nat.reduceSub, Nat.reduceMod, Nat.reduceDiv]
  · simp (disch := first | assumption | omega) only [rX12_knows, h, Option.bind_some, Option.toList_some, Option.toList_none, List.cons_append, List.nil_append, fk_b_0, nI_add, Nat.add_zero, Nat.zero_add, not_true_eq_false, not_false_eq_true, if_true, if_false, sI_le_t, sI_le_f, sI_lt_t, sI_lt_f, sI_eq_t, sI_eq_f, sI_rem, sI_div, sI_m1a, sI_m1b, sI_m1c, sI_m1d, sI_m1e, sI_m1f, sI_m2a, sI_m2b, sI_sub, pk_mul, sI_dec, fk_u_s, fk_u_o, sI_dec0, sI_z, sI_md, Bool.false_eq_true, Nat.reduceAdd, Nat.reduceMul, Nat.reduceSub, Nat.reduceMod, Nat.reduceDiv]
end R0
