section CL5
variable {N : Nat} {S : Nat → Int32} {v y y1 y2 : Nat → Nat → Int32} {l : Nat → Nat → Int64} {d p n H t : Nat} {A A' : Nat → Int32}
/-- the tape alone, and scratch, has changed -/
theorem cR_tape (hR : cR S y) (hf : ∀ k, (k ≤ 8 ∨ (10 ≤ k ∧ k ≤ 16) ∨ (19 ≤ k ∧ k ≤ 24) ∨ (33 ≤ k ∧ k ≤ 233) ∨ k = 235 ∨ k = 237 ∨ k = 247 ∨ k = 249 ∨ (250 ≤ k ∧ k ≤ 254) ∨ (262 ≤ k ∧ k ≤ 266)) → y2 k = y k) (h246 : ∀ i, (i = 3 ∨ i = 19 ∨ i = 33 ∨ i = 36 ∨ i = 49) → y2 246 i = y 246 i) (ht : cR_tp y2) : cR S y2 := by
  obtain ⟨r0, r1, r2, ⟨n, H, p1, p2, p3, p4⟩, r4, r5, r6, r7, r8, r9⟩ := hR
  have e3 : y2 246 3 = y 246 3 := h246 3 (by omega)
  have e25 : ∀ c, 250 ≤ c → c ≤ 254 → y2 c = y c := fun c h1 h2 => hf c (by omega)
  refine ⟨(hf 0 (by omega)).trans r0, ab_rv_c e3 e25 r1, ck_nt_c e3 e25 (fun c h1 h2 => hf c (by omega)) r2, ?_, ?_, ht, ?_, (h246 33 (by omega)).trans r7, (h246 36 (by omega)).trans r8, fun j hj => by rw [hf _ (by omega)]; exact r9 j hj⟩
  · rw [hf 247 (by omega)]
    exact cR_pl_c e3 (fun k k1 k2 => hf k (by omega)) (hf 235 (by omega)) ⟨n, H, p1, p2, p3, p4⟩
  · obtain ⟨q1, q2⟩ := r4
    refine ⟨fun j hj => by rw [hf _ (by omega)]; exact q1 j hj, ?_⟩
    rw [hf 1 (by omega), h246 49 (by omega), hf 249 (by omega)]
    rcases q2 with q2 | ⟨q2, q3, q4⟩
    · exact Or.inl q2
    · exact Or.inr ⟨q2, q3, cR_pl_c e3 (fun k k1 k2 => hf k (by omega)) (hf 237 (by omega)) q4⟩
  · obtain ⟨c, W, q1, q2, q3, q4, q5, q6⟩ := r6
    refine ⟨c, W, q1, by rw [hf 1 (by omega)]; exact q2, by rw [hf 1 (by omega)]; exact q3, ck_LC_c (fun k k1 k2 => hf k (by omega)) (by rw [hf c (by omega)]) (by rw [hf c (by omega)]) q4, fk_LR_c (fun k k1 k2 => hf k (by omega)) (h246 19 (by omega)) q5, by rw [hf c (by omega), h246 19 (by omega)]; exact q6⟩
theorem sI_d8 {a : Nat} (h : 8 ≤ a) : nI a + (-8) = nI (a - 8) := by
  obtain ⟨k, rfl⟩ : ∃ k, a = k + 8 := ⟨a - 8, by omega⟩
  rw [Nat.add_sub_cancel, ← nI_add, Int32.add_assoc, show nI 8 + (-8) = (0 : Int32) by decide, Int32.add_zero]
theorem mX10_hasRoomFor {k : Nat} (ht : t ≤ 260) (hk : k ≤ 100) (e : y 26 1 = nI t) : fk_ev d qX10_hasRoomFor 0 [.ref 26, .int ((nI k))] [] (fk_E N y l) = some (some (.int ((fk_b (t + k ≤ 260)))), fk_E N y l) := by
  by_cases h : t + k ≤ 260
  · simp (disch := first | assumption | omega) only [rX10_hasRoomFor, e, Option.bind_some, Option.toList_some, Option.toList_none, List.cons_append, List.nil_append, fk_b_0, nI_add, Nat.add_zero, Nat.zero_add, not_true_eq_false, not_false_eq_true, if_true, if_false, sI_le_t, sI_le_f, sI_lt_t, sI_lt_f, sI_eq_t, sI_eq_f, sI_rem, sI_div, sI_m1a, sI_m1b, sI_m1c, sI_m1d, sI_m1e, sI_m1f, sI_m2a, sI_m2b, sI_sub, pk_mul, sI_dec, fk_u_s, fk_u_o, sI_dec0, sI_z, sI_md, Bool.false_eq_true, Nat.reduceAdd, Nat.reduceMul, Nat.reduceSub, Nat.reduceMod, Nat.reduceDiv]
    rw [fk_b_t h]
  · simp (disch := first | assumption | omega) only [rX10_hasRoomFor, e, Option.bind_some, Option.toList_some, Option.toList_none, List.cons_append, List.nil_append, fk_b_0, nI_add, Nat.add_zero, Nat.zero_add, not_true_eq_false, not_false_eq_true, if_true, if_false, sI_le_t, sI_le_f, sI_lt_t, sI_lt_f, sI_eq_t, sI_eq_f, sI_rem, sI_div, sI_m1a, sI_m1b, sI_m1c, sI_m1d, sI_m1e, sI_m1f, sI_m2a, sI_m2b, sI_sub, pk_mul, sI_dec, fk_u_s, fk_u_o, sI_dec0, sI_z, sI_md, Bool.false_eq_true, Nat.reduceAdd, Nat.reduceMul, Nat.reduceSub, Nat.reduceMod, Nat.reduceDiv]
    rw [fk_b_f h]
def ck_pu (y : Nat → Nat → Int32) (t : Nat) (v : Int32) : Nat → Nat → Int32 :=
  fk_u (fk_u (fk_u (fk_u (fk_u (fk_u (fk_u (fk_u y 27 t (v >>> (nI 24 &&& 31) &&& nI 255)) 26 1 (nI (t + 1))) 27 (t + 1) (v >>> (nI 16 &&& 31) &&& nI 255)) 26 1 (nI (t + 2))) 27 (t + 2) (v >>> (nI 8 &&& 31) &&& nI 255)) 26 1 (nI (t + 3))) 27 (t + 3) (v >>> (nI 0 &&& 31) &&& nI 255)) 26 1 (nI (t + 4))
theorem ck_pu_1 {x : Int32} : ck_pu y t x 26 1 = nI (t + 4) := fk_u_s
theorem ck_pu_step {k t : Nat} {x : Int32} (ht : t < 260) (hk : k < 32) (e : y 26 1 = nI t) : fk_ev (d + 1) qX10_put 3 [.ref 26, .int x, .int (nI k)] [] (fk_E N y l) = fk_ev (d + 1) qX10_put 3 [.ref 26, .int x, .int (nI k + (-8))] [] (fk_E N (fk_u (fk_u y 27 t (x >>> (nI k &&& 31) &&& nI 255)) 26 1 (nI (t + 1))) l) := by
  have h1 := mX10_hasRoomFor (N := N) (l := l) (d := d) (k := 1) (t := t) (by omega) (by omega) e
  rw [fk_b_t (by omega)] at h1
  rw [hX10_put_3]
  simp (disch := first | assumption | omega) only [rX10_put, h1, e, Option.bind_some, Option.toList_some, Option.toList_none, List.cons_append, List.nil_append, fk_b_0, nI_add, Nat.add_zero, Nat.zero_add, not_true_eq_false, not_false_eq_true, if_true, if_false, sI_le_t, sI_le_f, sI_lt_t, sI_lt_f, sI_eq_t, sI_eq_f, sI_rem, sI_div, sI_m1a, sI_m1b, sI_m1c, sI_m1d, sI_m1e, sI_m1f, sI_m2a, sI_m2b, sI_sub, pk_mul, sI_dec, fk_u_s, fk_u_o, sI_dec0, sI_z, sI_md, Bool.false_eq_true, Nat.reduceAdd, Nat.reduceMul, Nat.reduceSub, Nat.reduceMod, Nat.reduceDiv]
theorem mX10_put {x : Int32} (ht : t + 4 ≤ 260) (e : y 26 1 = nI t) : fk_ev (d + 1) qX10_put 0 [.ref 26, .int x, .null] [] (fk_E N y l) = some (none, fk_E N (ck_pu y t x) l) := by
  obtain ⟨q0, q1, _⟩ := rX10_put
  rw [q0, q1, ck_pu_step (t := t) (by omega) (by omega) e, sI_d8 (by omega), ck_pu_step (t := t + 1) (by omega) (by omega) fk_u_s, sI_d8 (by omega), ck_pu_step (t := t + 2) (by omega) (by omega) fk_u_s, sI_d8 (by omega), ck_pu_step (t := t + 3) (by omega) (by omega) fk_u_s, hX10_put_3]
  simp (disch := first | assumption | omega) only [rX10_put, show (nI 0 + (-8) < nI 0) = True from eq_true (by decide), Option.bind_some, Option.toList_some, Option.toList_none, List.cons_append, List.nil_append, fk_b_0, nI_add, Nat.add_zero, Nat.zero_add, not_true_eq_false, not_false_eq_true, if_true, if_false, sI_le_t, sI_le_f, sI_lt_t, sI_lt_f, sI_eq_t, sI_eq_f, sI_rem, sI_div, sI_m1a, sI_m1b, sI_m1c, sI_m1d, sI_m1e, sI_m1f, sI_m2a, sI_m2b, sI_sub, pk_mul, sI_dec, fk_u_s, fk_u_o, sI_dec0, sI_z, sI_md, Bool.false_eq_true, Nat.reduceAdd, Nat.reduceMul, Nat.reduceSub, Nat.reduceMod, Nat.reduceDiv]
  rfl
theorem ck_b8 {z : Int32} : z.toInt8.toInt32 &&& nI 255 = z &&& nI 255 := by
  apply fk_tb_ext
  intro k hk
  rw [fk_tb_and, fk_tb_and, fk_tb_nI hk]
  by_cases h : k < 8
  · have e1 : fk_tb z.toInt8.toInt32 k = fk_tb z k := by
      show ((z.toBitVec.signExtend 8).signExtend 32).getLsbD k = z.toBitVec.getLsbD k
      rw [BitVec.getLsbD_signExtend, BitVec.getLsbD_signExtend]
      simp [h, hk, show k < 32 by omega]
    rw [e1]
  · have e2 : (255 : Nat).testBit k = false := by
      rw [show (255 : Nat) = 2 ^ 8 - 1 from rfl, Nat.testBit_two_pow_sub_one]
      exact decide_eq_false h
    rw [e2, Bool.and_false, Bool.and_false]
theorem fk_by_255 {x : Int32} {k : Nat} : fk_by x k &&& nI 255 = x >>> (nI (8 * k) &&& 31) &&& nI 255 := by
  unfold fk_by
  rw [pk_vb, ck_b8]
/-- four bytes more on both tapes -/
theorem ck_tp4 {x : Int32} (ht : t + 4 ≤ 260) (h : ∀ i, i < t → y1 27 i = y2 255 i &&& nI 255) : ∀ i, i < t + 4 → ck_pu y1 t x 27 i = fk_tyy y2 t x 255 i &&& nI 255 := by
  intro i hi
  unfold ck_pu fk_tyy
  have hh : i < t ∨ i = t ∨ i = t + 1 ∨ i = t + 2 ∨ i = t + 3 := by omega
  rcases hh with h1 | rfl | rfl | rfl | rfl
  · simp (disch := omega) only [fk_u_o]
    exact h i h1
  · simp (disch := omega) only [fk_u_o, fk_u_s]
    exact (fk_by_255 (x := x) (k := 3)).symm
  · simp (disch := omega) only [fk_u_o, fk_u_s]
    exact (fk_by_255 (x := x) (k := 2)).symm
  · simp (disch := omega) only [fk_u_o, fk_u_s]
    exact (fk_by_255 (x := x) (k := 1)).symm
  · simp (disch := omega) only [fk_u_o, fk_u_s]
    exact (fk_by_255 (x := x) (k := 0)).symm
theorem ck_pu_o {x : Int32} {k : Nat} (h1 : k ≠ 26) (h2 : k ≠ 27) : ck_pu y t x k = y k := by
  unfold ck_pu
  simp (disch := assumption) only [fk_u_rowo]
theorem fk_tyy_o {x : Int32} {k : Nat} (h1 : k ≠ 246) (h2 : k ≠ 255) : fk_tyy y t x k = y k := by
  unfold fk_tyy
  simp (disch := assumption) only [fk_u_rowo]
theorem fk_tyy_i {x : Int32} {i : Nat} (h1 : i ≠ 10) : fk_tyy y t x 246 i = y 246 i := by
  unfold fk_tyy
  simp (disch := omega) only [fk_u_o]
theorem mX11_feed_no {a b c e f : Int32} (ht : t ≤ 260) (hm : y 26 1 = nI t) (hg : 240 < t) : fk_ev (d + 2) qX11_feed 0 [.ref 1, .int a, .int b, .int c, .int e, .int f] [] (fk_E N y l) = some (some (.int ((-1))), fk_E N y l) := by
  have h1 := mX10_hasRoomFor (N := N) (l := l) (d := d + 1) (k := 20) ht (by omega) hm
  rw [fk_b_f (by omega)] at h1
  simp (disch := first | assumption | omega) only [rX11_feed, h1, Option.bind_some, Option.toList_some, Option.toList_none, List.cons_append, List.nil_append, fk_b_0, nI_add, Nat.add_zero, Nat.zero_add, not_true_eq_false, not_false_eq_true, if_true, if_false, sI_le_t, sI_le_f, sI_lt_t, sI_lt_f, sI_eq_t, sI_eq_f, sI_rem, sI_div, sI_m1a, sI_m1b, sI_m1c, sI_m1d, sI_m1e, sI_m1f, sI_m2a, sI_m2b, sI_sub, pk_mul, sI_dec, fk_u_s, fk_u_o, sI_dec0, sI_z, sI_md, Bool.false_eq_true, Nat.reduceAdd, Nat.reduceMul, Nat.reduceSub, Nat.reduceMod, Nat.reduceDiv]
theorem mX11_feed_ok {a b c e f : Int32} (ht : t ≤ 240) (hm : y 26 1 = nI t) : fk_ev (d + 2) qX11_feed 0 [.ref 1, .int a, .int b, .int c, .int e, .int f] [] (fk_E N y l) = some (some (.int ((nI (t + 20)))), fk_E N (ck_pu (ck_pu (ck_pu (ck_pu (ck_pu y t a) (t + 4) b) (t + 8) c) (t + 12) e) (t + 16) f) l) := by
  have h1 := mX10_hasRoomFor (N := N) (l := l) (d := d + 1) (k := 20) (t := t) (by omega) (by omega) hm
  rw [fk_b_t (by omega)] at h1
  have h4 : ck_pu y t a 26 1 = nI (t + 4) := ck_pu_1
  have h8 : ck_pu (ck_pu y t a) (t + 4) b 26 1 = nI (t + 8) := ck_pu_1
  have h12 : ck_pu (ck_pu (ck_pu y t a) (t + 4) b) (t + 8) c 26 1 = nI (t + 12) := ck_pu_1
  have h16 : ck_pu (ck_pu (ck_pu (ck_pu y t a) (t + 4) b) (t + 8) c) (t + 12) e 26 1 = nI (t + 16) := ck_pu_1
  simp (disch := first | assumption | omega) only [rX11_feed, h1, mX10_put (t := t), mX10_put (t := t + 4), mX10_put (t := t + 8), mX10_put (t := t + 12), mX10_put (t := t + 16), ck_pu_1, Nat.add_assoc, Option.bind_some, Option.toList_some, Option.toList_none, List.cons_append, List.nil_append, fk_b_0, nI_add, Nat.add_zero, Nat.zero_add, not_true_eq_false, not_false_eq_true, if_true, if_false, sI_le_t, sI_le_f, sI_lt_t, sI_lt_f, sI_eq_t, sI_eq_f, sI_rem, sI_div, sI_m1a, sI_m1b, sI_m1c, sI_m1d, sI_m1e, sI_m1f, sI_m2a, sI_m2b, sI_sub, pk_mul, sI_dec, fk_u_s, fk_u_o, sI_dec0, sI_z, sI_md, Bool.false_eq_true, Nat.reduceAdd, Nat.reduceMul, Nat.reduceSub, Nat.reduceMod, Nat.reduceDiv]
theorem cl_feed (hR : cR S y) {a b c e f : Int32} : ∃ u y1 y2, fk_ev (d + 8) qX11_feed 0 [.ref 1, .int a, .int b, .int c, .int e, .int f] [] (fk_E N y l) = some (some (.int u), fk_E N y1 l) ∧ fk_ev (d + 8) qX12_feed 0 [.ref 246, .int a, .int b, .int c, .int e, .int f] [] (fk_E N y1 l) = some (some (.int u), fk_E N y2 l) ∧ cR S y2 := by
  obtain ⟨r0, r1, r2, r3, r4, ⟨t, t1, t2, t3, t4⟩, r6, r7, r8, r9⟩ := id hR
  by_cases hg : t ≤ 240
  · have e1 := mX11_feed_ok (N := N) (l := l) (d := d + 6) (a := a) (b := b) (c := c) (e := e) (f := f) hg t2
    have o1 : ∀ k, k ≠ 26 → k ≠ 27 → ck_pu (ck_pu (ck_pu (ck_pu (ck_pu y t a) (t + 4) b) (t + 8) c) (t + 12) e) (t + 16) f k = y k := fun k h1 h2 => by
      rw [ck_pu_o h1 h2, ck_pu_o h1 h2, ck_pu_o h1 h2, ck_pu_o h1 h2, ck_pu_o h1 h2]
    have e2 := mX12_feed_ok (N := N) (l := l) (d := d + 7) (y := ck_pu (ck_pu (ck_pu (ck_pu (ck_pu y t a) (t + 4) b) (t + 8) c) (t + 12) e) (t + 16) f) (a := a) (b := b) (c := c) (e := e) (f := f) hg (by rw [o1 246 (by omega) (by omega)]; exact t3)
    have b1 := ck_tp4 (y1 := y) (y2 := y) (x := a) (t := t) (by omega) t4
    have b2 := ck_tp4 (x := b) (t := t + 4) (by omega) b1
    have b3 := ck_tp4 (x := c) (t := t + 8) (by omega) b2
    have b4 := ck_tp4 (x := e) (t := t + 12) (by omega) b3
    have b5 := ck_tp4 (x := f) (t := t + 16) (by omega) b4
    have e27 : ∀ z : Nat → Nat → Int32, z 255 = y 255 → ∀ i, fk_tyy (fk_tyy (fk_tyy (fk_tyy (fk_tyy z t a) (t + 4) b) (t + 8) c) (t + 12) e) (t + 16) f 255 i = fk_tyy (fk_tyy (fk_tyy (fk_tyy (fk_tyy y t a) (t + 4) b) (t + 8) c) (t + 12) e) (t + 16) f 255 i := by
      intro z hz i
      have key : ∀ (z1 z2 : Nat → Nat → Int32) (t : Nat) (x : Int32), z1 255 = z2 255 → fk_tyy z1 t x 255 = fk_tyy z2 t x 255 := by
        intro z1 z2 t x hz
        unfold fk_tyy
        simp (disch := decide) only [fk_u_row, fk_u_rowo]
        rw [hz]
      rw [key _ _ _ _ (key _ _ _ _ (key _ _ _ _ (key _ _ _ _ (key _ _ _ _ hz))))]
    have hY1 : ck_pu (ck_pu (ck_pu (ck_pu (ck_pu y t a) (t + 4) b) (t + 8) c) (t + 12) e) (t + 16) f 26 1 = nI (t + 20) := ck_pu_1
    generalize ck_pu (ck_pu (ck_pu (ck_pu (ck_pu y t a) (t + 4) b) (t + 8) c) (t + 12) e) (t + 16) f = Y at e1 o1 e2 b5 hY1
    refine ⟨nI (t + 20), Y, _, e1, e2, cR_tape hR (fun k hk => ?_) (fun i hi => ?_) ⟨t + 20, by omega, ?_, ?_, fun i hi => ?_⟩⟩
    · rw [fk_tyy_o (by omega) (by omega), fk_tyy_o (by omega) (by omega), fk_tyy_o (by omega) (by omega), fk_tyy_o (by omega) (by omega), fk_tyy_o (by omega) (by omega), o1 k (by omega) (by omega)]
    · rw [fk_tyy_i (by omega), fk_tyy_i (by omega), fk_tyy_i (by omega), fk_tyy_i (by omega), fk_tyy_i (by omega), o1 246 (by omega) (by omega)]
    · rw [fk_tyy_o (by omega) (by omega), fk_tyy_o (by omega) (by omega), fk_tyy_o (by omega) (by omega), fk_tyy_o (by omega) (by omega), fk_tyy_o (by omega) (by omega)]
      exact hY1
    · rw [fk_tyy_10]
    · rw [e27 Y (o1 255 (by omega) (by omega)) i, ← b5 i (by omega)]
      rw [fk_tyy_o (by omega) (by omega), fk_tyy_o (by omega) (by omega), fk_tyy_o (by omega) (by omega), fk_tyy_o (by omega) (by omega), fk_tyy_o (by omega) (by omega)]
  · exact ⟨(-1), y, y, mX11_feed_no (d := d + 6) t1 t2 (by omega), mX12_feed_no (d := d + 7) t1 t3 (by omega), hR⟩
end CL5
