section WHO
variable {N : Nat} {S : Nat → Int32} {v y y0 y1 y2 z : Nat → Nat → Int32} {l : Nat → Nat → Int64} {d p p' n H t c k m : Nat} {T A A' : Nat → Int32}
/-- a byte's number -/
def fk_bn (z : Int32) : Nat := (z &&& nI 255).toBitVec.toNat
theorem fk_bn_lt {z : Int32} : fk_bn z < 256 := by
  show (z.toBitVec &&& BitVec.ofNat 32 255).toNat < 256
  rw [BitVec.toNat_and]
  exact Nat.lt_of_le_of_lt Nat.and_le_right (by decide)
theorem fk_bn_e {z : Int32} : z &&& nI 255 = nI (fk_bn z) := by
  apply Int32.toBitVec.inj
  show (z &&& nI 255).toBitVec = BitVec.ofNat 32 ((z &&& nI 255).toBitVec.toNat)
  rw [BitVec.ofNat_toNat, BitVec.setWidth_eq]
theorem fk_hl {a b : Nat} (ha : a < 256) (hb : b < 256) : nI a <<< (nI 8 &&& 31) ||| nI b = nI (a * 256 + b) := by
  apply fk_tb_ext
  intro k hk
  rw [fk_tb_or, fk_tb_shl (by omega), fk_tb_nI hk, fk_tb_nI hk, show a * 256 + b = 2 ^ 8 * a + b by omega, Nat.testBit_two_pow_mul_add a (by omega)]
  by_cases h : k < 8
  · rw [if_pos h, decide_eq_true h]
    simp
  · rw [if_neg h, decide_eq_false h, decide_eq_true hk, fk_tb_nI (by omega), Nat.testBit_lt_two_pow (x := b) (Nat.lt_of_lt_of_le hb (Nat.le_trans (show 256 ≤ 2 ^ 8 by decide) (Nat.pow_le_pow_right (by omega) (by omega))))]
    simp
def ab_pl (B : Nat → Int32) (i : Nat) : Nat := fk_bn (B (3 * i + 2))
def ab_hq (B : Nat → Int32) (i : Nat) : Nat := fk_bn (B (3 * i)) * 256 + fk_bn (B (3 * i + 1))
theorem ab_hq_lt {B : Nat → Int32} {i : Nat} : ab_hq B i < 65536 := by
  unfold ab_hq
  have h1 := fk_bn_lt (z := B (3 * i))
  have h2 := fk_bn_lt (z := B (3 * i + 1))
  omega
theorem mX11_seenHour (e1 : y 26 1 = nI t) (ht : t ≤ 260) (hk : 3 * k + 2 < t) (e27 : ∀ i, i < t → y 27 i = y 255 i &&& nI 255) : fk_ev (d + 2) qX11_seenHour 0 [.ref 1, .int ((nI k))] [] (fk_E N y l) = some (some (.int ((nI (ab_hq (y 255) k)))), fk_E N y l) := by
  have b0 := mX10_byteAt (N := N) (l := l) (d := d) (k := 3 * k) e1 ht (by omega)
  have b1 := mX10_byteAt (N := N) (l := l) (d := d) (k := 3 * k + 1) e1 ht (by omega)
  rw [e27 _ (by omega), fk_bn_e] at b0 b1
  simp (disch := first | assumption | omega) only [rX11_seenHour, b0, b1, Option.bind_some, Option.toList_some, Option.toList_none, List.cons_append, List.nil_append, fk_b_0, nI_add, Nat.add_zero, Nat.zero_add, not_true_eq_false, not_false_eq_true, if_true, if_false, sI_le_t, sI_le_f, sI_lt_t, sI_lt_f, sI_eq_t, sI_eq_f, sI_rem, sI_div, sI_m1a, sI_m1b, sI_m1c, sI_m1d, sI_m1e, sI_m1f, sI_m2a, sI_m2b, sI_sub, pk_mul, sI_dec, fk_u_s, fk_u_o, sI_dec0, sI_z, sI_md, Bool.false_eq_true, Nat.reduceAdd, Nat.reduceMul, Nat.reduceSub, Nat.reduceMod, Nat.reduceDiv]
  rfl
theorem mX11_seenPlace (e1 : y 26 1 = nI t) (ht : t ≤ 260) (hk : 3 * k + 2 < t) (e27 : ∀ i, i < t → y 27 i = y 255 i &&& nI 255) : fk_ev (d + 2) qX11_seenPlace 0 [.ref 1, .int ((nI k))] [] (fk_E N y l) = some (some (.int ((nI (ab_pl (y 255) k)))), fk_E N y l) := by
  have b0 := mX10_byteAt (N := N) (l := l) (d := d) (k := 3 * k + 2) e1 ht (by omega)
  rw [e27 _ (by omega), fk_bn_e] at b0
  simp (disch := first | assumption | omega) only [rX11_seenPlace, b0, Option.bind_some, Option.toList_some, Option.toList_none, List.cons_append, List.nil_append, fk_b_0, nI_add, Nat.add_zero, Nat.zero_add, not_true_eq_false, not_false_eq_true, if_true, if_false, sI_le_t, sI_le_f, sI_lt_t, sI_lt_f, sI_eq_t, sI_eq_f, sI_rem, sI_div, sI_m1a, sI_m1b, sI_m1c, sI_m1d, sI_m1e, sI_m1f, sI_m2a, sI_m2b, sI_sub, pk_mul, sI_dec, fk_u_s, fk_u_o, sI_dec0, sI_z, sI_md, Bool.false_eq_true, Nat.reduceAdd, Nat.reduceMul, Nat.reduceSub, Nat.reduceMod, Nat.reduceDiv]
  rfl
theorem mX12_hourAt (hk : k < 86) : fk_ev d qX12_hourAt 0 [.ref 246, .int ((nI k))] [] (fk_E N y l) = some (some (.int ((nI (ab_hq (y 255) k)))), fk_E N y l) := by
  simp (disch := first | assumption | omega) only [rX12_hourAt, fk_bn_e, fk_hl fk_bn_lt fk_bn_lt, Option.bind_some, Option.toList_some, Option.toList_none, List.cons_append, List.nil_append, fk_b_0, nI_add, Nat.add_zero, Nat.zero_add, not_true_eq_false, not_false_eq_true, if_true, if_false, sI_le_t, sI_le_f, sI_lt_t, sI_lt_f, sI_eq_t, sI_eq_f, sI_rem, sI_div, sI_m1a, sI_m1b, sI_m1c, sI_m1d, sI_m1e, sI_m1f, sI_m2a, sI_m2b, sI_sub, pk_mul, sI_dec, fk_u_s, fk_u_o, sI_dec0, sI_z, sI_md, Bool.false_eq_true, Nat.reduceAdd, Nat.reduceMul, Nat.reduceSub, Nat.reduceMod, Nat.reduceDiv]
  rfl
/-- an hour that is told and remembered, a place that there is -/
abbrev ab_fq (B : Nat → Int32) (H i : Nat) : Prop := ab_pl B i < 16 ∧ ab_hq B i ≤ H ∧ H < ab_hq B i + 48
theorem ab_rb_n {h : Nat} (hh : h < 65536) : ab_rb H (nI h) ↔ h ≤ H ∧ H < h + 48 := by
  rw [ab_rb, fk_toInt_nI (by omega)]
  omega
/-- not seen there -/
abbrev ab_ns (A B : Nat → Int32) (H j i : Nat) : Bool := !decide (ab_was A H (ab_hq B i) j = nI (ab_pl B i))
theorem mX11_wasSeen (ho : ab_ok v n H A) (hp : ck_pr 33 y (fun _ => nI 0) A) (hq : ∀ i, i < 3072 → y 235 i = A (840 + i)) {j : Nat} (hj : j < n) (e1 : y 26 1 = nI t) (ht : t ≤ 260) (hm : 3 * m ≤ t) (e27 : ∀ i, i < t → y 27 i = y 255 i &&& nI 255) (hF : ∀ i, i < m → ab_fq (y 255) H i) : ∀ k i, i + k = m → fk_ev (d + 4) qX11_wasSeen 2 [.ref 1, .int (nI j), .int (nI m), .int (nI i)] [] (fk_E N y l) = some (some (.int (fk_b (fk_cf (ab_ns A (y 255) H j) i k = 0))), fk_E N y l) := by
  have h234 : fk_at 234 7 := ⟨by decide, by decide, by decide +kernel⟩
  intro k
  induction k with
  | zero =>
    intro i hi
    have hi : i = m := hi
    subst hi
    rw [hX11_wasSeen_2, fk_b_t (show fk_cf (ab_ns A (y 255) H j) i 0 = 0 from rfl)]
    simp (disch := first | assumption | omega) only [rX11_wasSeen, Option.bind_some, Option.toList_some, Option.toList_none, List.cons_append, List.nil_append, fk_b_0, nI_add, Nat.add_zero, Nat.zero_add, not_true_eq_false, not_false_eq_true, if_true, if_false, sI_le_t, sI_le_f, sI_lt_t, sI_lt_f, sI_eq_t, sI_eq_f, sI_rem, sI_div, sI_m1a, sI_m1b, sI_m1c, sI_m1d, sI_m1e, sI_m1f, sI_m2a, sI_m2b, sI_sub, pk_mul, sI_dec, fk_u_s, fk_u_o, sI_dec0, sI_z, sI_md, Bool.false_eq_true, Nat.reduceAdd, Nat.reduceMul, Nat.reduceSub, Nat.reduceMod, Nat.reduceDiv]
  | succ k ih =>
    intro i hi
    have sh := mX11_seenHour (N := N) (l := l) (d := d + 1) (k := i) e1 ht (by omega) e27
    have sp := mX11_seenPlace (N := N) (l := l) (d := d + 1) (k := i) e1 ht (by omega) e27
    obtain ⟨f1, f2, f3⟩ := hF i (by omega)
    have ww := mX7_whereWas (N := N) (l := l) (d := d) ho hp hq hj f2 f3
    rw [hX11_wasSeen_2]
    by_cases c : ab_was A H (ab_hq (y 255) i) j = nI (ab_pl (y 255) i)
    · have e : fk_cf (ab_ns A (y 255) H j) i (k + 1) = fk_cf (ab_ns A (y 255) H j) (i + 1) k := by
        show (if ab_ns A (y 255) H j i then 1 else 0) + fk_cf (ab_ns A (y 255) H j) (i + 1) k = _
        rw [if_neg (by simp [ab_ns, c]), Nat.zero_add]
      rw [e, ← ih (i + 1) (by omega)]
      simp (disch := first | assumption | omega) only [rX11_wasSeen, sh, ww, sp, c, Option.bind_some, Option.toList_some, Option.toList_none, List.cons_append, List.nil_append, fk_b_0, nI_add, Nat.add_zero, Nat.zero_add, not_true_eq_false, not_false_eq_true, if_true, if_false, sI_le_t, sI_le_f, sI_lt_t, sI_lt_f, sI_eq_t, sI_eq_f, sI_rem, sI_div, sI_m1a, sI_m1b, sI_m1c, sI_m1d, sI_m1e, sI_m1f, sI_m2a, sI_m2b, sI_sub, pk_mul, sI_dec, fk_u_s, fk_u_o, sI_dec0, sI_z, sI_md, Bool.false_eq_true, Nat.reduceAdd, Nat.reduceMul, Nat.reduceSub, Nat.reduceMod, Nat.reduceDiv]
    · have e : ¬ fk_cf (ab_ns A (y 255) H j) i (k + 1) = 0 := by
        show ¬ (if ab_ns A (y 255) H j i then 1 else 0) + fk_cf (ab_ns A (y 255) H j) (i + 1) k = 0
        rw [if_pos (by simp [ab_ns, c])]
        omega
      rw [fk_b_f e]
      simp (disch := first | assumption | omega) only [rX11_wasSeen, sh, ww, sp, c, Option.bind_some, Option.toList_some, Option.toList_none, List.cons_append, List.nil_append, fk_b_0, nI_add, Nat.add_zero, Nat.zero_add, not_true_eq_false, not_false_eq_true, if_true, if_false, sI_le_t, sI_le_f, sI_lt_t, sI_lt_f, sI_eq_t, sI_eq_f, sI_rem, sI_div, sI_m1a, sI_m1b, sI_m1c, sI_m1d, sI_m1e, sI_m1f, sI_m2a, sI_m2b, sI_sub, pk_mul, sI_dec, fk_u_s, fk_u_o, sI_dec0, sI_z, sI_md, Bool.false_eq_true, Nat.reduceAdd, Nat.reduceMul, Nat.reduceSub, Nat.reduceMod, Nat.reduceDiv]
theorem mX12_wasThere (ho : ab_ok v n H A) (hw : ab_wp n H A) (hA : y 247 = A) {j : Nat} (hj : j < n) (hm : 3 * m ≤ 260) (hF : ∀ i, i < m → ab_fq (y 255) H i) : ∀ k i, i + k = m → fk_ev (d + 4) qX12_wasThere 2 [.ref 246, .int (nI j), .int (nI m), .int (nI i)] [] (fk_E N y l) = some (some (.int (fk_b (fk_cf (ab_ns A (y 255) H j) i k = 0))), fk_E N y l) := by
  intro k
  induction k with
  | zero =>
    intro i hi
    have hi : i = m := hi
    subst hi
    rw [hX12_wasThere_2, fk_b_t (show fk_cf (ab_ns A (y 255) H j) i 0 = 0 from rfl)]
    simp (disch := first | assumption | omega) only [rX12_wasThere, Option.bind_some, Option.toList_some, Option.toList_none, List.cons_append, List.nil_append, fk_b_0, nI_add, Nat.add_zero, Nat.zero_add, not_true_eq_false, not_false_eq_true, if_true, if_false, sI_le_t, sI_le_f, sI_lt_t, sI_lt_f, sI_eq_t, sI_eq_f, sI_rem, sI_div, sI_m1a, sI_m1b, sI_m1c, sI_m1d, sI_m1e, sI_m1f, sI_m2a, sI_m2b, sI_sub, pk_mul, sI_dec, fk_u_s, fk_u_o, sI_dec0, sI_z, sI_md, Bool.false_eq_true, Nat.reduceAdd, Nat.reduceMul, Nat.reduceSub, Nat.reduceMod, Nat.reduceDiv]
  | succ k ih =>
    intro i hi
    have sh := mX12_hourAt (N := N) (l := l) (d := d + 3) (y := y) (k := i) (by omega)
    obtain ⟨f1, f2, f3⟩ := hF i (by omega)
    have ww := mX12_wasAt (N := N) (l := l) (d := d) ho hw hA hj f2 f3
    have ep : y 255 (3 * i + 2) &&& nI 255 = nI (ab_pl (y 255) i) := fk_bn_e
    rw [hX12_wasThere_2]
    by_cases c : ab_was A H (ab_hq (y 255) i) j = nI (ab_pl (y 255) i)
    · have e : fk_cf (ab_ns A (y 255) H j) i (k + 1) = fk_cf (ab_ns A (y 255) H j) (i + 1) k := by
        show (if ab_ns A (y 255) H j i then 1 else 0) + fk_cf (ab_ns A (y 255) H j) (i + 1) k = _
        rw [if_neg (by simp [ab_ns, c]), Nat.zero_add]
      rw [e, ← ih (i + 1) (by omega)]
      simp (disch := first | assumption | omega) only [rX12_wasThere, sh, ww, ep, c, Option.bind_some, Option.toList_some, Option.toList_none, List.cons_append, List.nil_append, fk_b_0, nI_add, Nat.add_zero, Nat.zero_add, not_true_eq_false, not_false_eq_true, if_true, if_false, sI_le_t, sI_le_f, sI_lt_t, sI_lt_f, sI_eq_t, sI_eq_f, sI_rem, sI_div, sI_m1a, sI_m1b, sI_m1c, sI_m1d, sI_m1e, sI_m1f, sI_m2a, sI_m2b, sI_sub, pk_mul, sI_dec, fk_u_s, fk_u_o, sI_dec0, sI_z, sI_md, Bool.false_eq_true, Nat.reduceAdd, Nat.reduceMul, Nat.reduceSub, Nat.reduceMod, Nat.reduceDiv]
    · have e : ¬ fk_cf (ab_ns A (y 255) H j) i (k + 1) = 0 := by
        show ¬ (if ab_ns A (y 255) H j i then 1 else 0) + fk_cf (ab_ns A (y 255) H j) (i + 1) k = 0
        rw [if_pos (by simp [ab_ns, c])]
        omega
      rw [fk_b_f e]
      simp (disch := first | assumption | omega) only [rX12_wasThere, sh, ww, ep, c, Option.bind_some, Option.toList_some, Option.toList_none, List.cons_append, List.nil_append, fk_b_0, nI_add, Nat.add_zero, Nat.zero_add, not_true_eq_false, not_false_eq_true, if_true, if_false, sI_le_t, sI_le_f, sI_lt_t, sI_lt_f, sI_eq_t, sI_eq_f, sI_rem, sI_div, sI_m1a, sI_m1b, sI_m1c, sI_m1d, sI_m1e, sI_m1f, sI_m2a, sI_m2b, sI_sub, pk_mul, sI_dec, fk_u_s, fk_u_o, sI_dec0, sI_z, sI_md, Bool.false_eq_true, Nat.reduceAdd, Nat.reduceMul, Nat.reduceSub, Nat.reduceMod, Nat.reduceDiv]
/-- how many, and the first -/
def ab_ww (A B : Nat → Int32) (H m : Nat) (n : Nat) : Nat × Int32 := fk_it (fun j s => if fk_cf (ab_ns A B H j) 0 m = 0 then (s.1 + 1, if s.1 = 0 then nI j else s.2) else s) 0 n (0, (-2))
theorem ab_ww_s {B : Nat → Int32} : ab_ww A B H m (k + 1) = if fk_cf (ab_ns A B H k) 0 m = 0 then ((ab_ww A B H m k).1 + 1, if (ab_ww A B H m k).1 = 0 then nI k else (ab_ww A B H m k).2) else ab_ww A B H m k := by
  unfold ab_ww
  rw [fk_it_succ, Nat.zero_add]
theorem ab_ww_le {B : Nat → Int32} : (ab_ww A B H m k).1 ≤ k := by
  induction k with
  | zero => exact Nat.le_refl _
  | succ k ih =>
    rw [ab_ww_s]
    split
    · show _ + 1 ≤ k + 1
      omega
    · omega
theorem cl_whoWas (hR : cR S y) {u w : Int32} : ∃ a y1 y2, fk_ev (d + 8) qX11_whoWas 0 [.ref 1, .int u, .int w, .null, .null, .null, .null] [] (fk_E N y l) = some (some (.int a), fk_E N y1 l) ∧ fk_ev (d + 8) qX12_whoWas 0 [.ref 246, .int u, .int w, .null, .null, .null] [] (fk_E N y1 l) = some (some (.int a), fk_E N y2 l) ∧ cR S y2 := by
  obtain ⟨r0, r1, r2, ⟨n, H, p1, p2, p3, p4⟩, r4, ⟨t, t1, t2, t3, t4⟩, r6, r7, r8, r9⟩ := id hR
  have hn := p1.1
  have hm := p1.2.1
  have hH := p1.2.2.2.1
  have h8 := n8
  have h234 : fk_at 234 7 := ⟨by decide, by decide, by decide +kernel⟩
  have e3 : y 33 3 = nI H := p3.1.2.1.trans p1.2.2.1
  have eb : y 33 2 = nI n := p3.1.1.trans hm
  by_cases hu : nI 1 ≤ u ∧ u ≤ nI 8
  · obtain ⟨m, hm8, rfl⟩ := fk_ixn2 (Int32.le_trans (by decide) hu.1) hu.2 (by omega)
    have hm1 : 1 ≤ m := (nI_leI (by omega) (by omega)).mp hu.1
    by_cases hw : nI 0 ≤ w ∧ w < nI 2
    · obtain ⟨w, hw2, rfl⟩ := fk_ixn hw.1 hw.2 (by omega)
      by_cases hmt : 3 * m ≤ t
      · generalize ez : fk_u (fk_u y 26 1 (nI 0)) 246 10 (nI 0) = z
        have zo : ∀ k, k ≠ 26 → k ≠ 246 → z k = y k := fun k k1 k2 => by rw [← ez, fk_u_rowo k2, fk_u_rowo k1]
        have zi : ∀ i, i ≠ 10 → z 246 i = y 246 i := fun i hi => by rw [← ez, fk_u_o (by omega), fk_u_o (by omega)]
        have z247 := zo 247 (by omega) (by omega)
        have z255 := zo 255 (by omega) (by omega)
        have hcz : cR S z := cR_clr hR (fun k hk => zo k (by omega) (by omega)) (fun i hi => zi i (by omega)) (by rw [← ez, fk_u_o (by omega), fk_u_s]) (by rw [← ez, fk_u_s])
        have f1 := fk_loopr (σ := Int32) (fun k f => fk_ev (d + 8) qX11_whoWas 39 [.ref 1, .int (nI m), .int (nI w), .int f, .int (nI k), .null, .null] [] (fk_E N y l)) (fun k f => f = fk_b (∀ i, i < k → ab_fq (y 255) H i)) m (by
          intro k f hk i1
          try dsimp only at i1 ⊢
          have sh := mX11_seenHour (N := N) (l := l) (d := d + 5) (k := k) t2 t1 (by omega) t4
          have sp := mX11_seenPlace (N := N) (l := l) (d := d + 5) (k := k) t2 t1 (by omega) t4
          have hr := mX7_isRemembered (N := N) (l := l) (d := d + 7) (t := nI (ab_hq (y 255) k)) e3 hH
          rw [hX11_whoWas_39]
          by_cases c0 : ∀ i, i < k → ab_fq (y 255) H i
          · rw [fk_b_t c0] at i1
            subst i1
            by_cases c1 : ab_pl (y 255) k < 16
            · by_cases c2 : ab_hq (y 255) k ≤ H ∧ H < ab_hq (y 255) k + 48
              · rw [fk_b_t ((ab_rb_n ab_hq_lt).mpr c2)] at hr
                refine ⟨nI 1, ?_, (fk_b_t fun i hi => ?_).symm⟩
                · simp (disch := first | assumption | omega) only [rX11_whoWas, sp, mX11_within, and_self, sh, hr, Option.bind_some, Option.toList_some, Option.toList_none, List.cons_append, List.nil_append, fk_b_0, nI_add, Nat.add_zero, Nat.zero_add, not_true_eq_false, not_false_eq_true, if_true, if_false, sI_le_t, sI_le_f, sI_lt_t, sI_lt_f, sI_eq_t, sI_eq_f, sI_rem, sI_div, sI_m1a, sI_m1b, sI_m1c, sI_m1d, sI_m1e, sI_m1f, sI_m2a, sI_m2b, sI_sub, pk_mul, sI_dec, fk_u_s, fk_u_o, sI_dec0, sI_z, sI_md, Bool.false_eq_true, Nat.reduceAdd, Nat.reduceMul, Nat.reduceSub, Nat.reduceMod, Nat.reduceDiv]
                · by_cases e : i = k
                  · subst e; exact ⟨c1, c2⟩
                  · exact c0 i (by omega)
              · rw [fk_b_f fun z => c2 ((ab_rb_n ab_hq_lt).mp z)] at hr
                refine ⟨nI 0, ?_, (fk_b_f fun z => c2 (z k (by omega)).2).symm⟩
                simp (disch := first | assumption | omega) only [rX11_whoWas, sp, mX11_within, and_self, sh, hr, Option.bind_some, Option.toList_some, Option.toList_none, List.cons_append, List.nil_append, fk_b_0, nI_add, Nat.add_zero, Nat.zero_add, not_true_eq_false, not_false_eq_true, if_true, if_false, sI_le_t, sI_le_f, sI_lt_t, sI_lt_f, sI_eq_t, sI_eq_f, sI_rem, sI_div, sI_m1a, sI_m1b, sI_m1c, sI_m1d, sI_m1e, sI_m1f, sI_m2a, sI_m2b, sI_sub, pk_mul, sI_dec, fk_u_s, fk_u_o, sI_dec0, sI_z, sI_md, Bool.false_eq_true, Nat.reduceAdd, Nat.reduceMul, Nat.reduceSub, Nat.reduceMod, Nat.reduceDiv]
            · have lt := fk_bn_lt (z := y 255 (3 * k + 2))
              have lt2 : ab_pl (y 255) k < 256 := lt
              refine ⟨nI 0, ?_, (fk_b_f fun z => c1 (z k (by omega)).1).symm⟩
              simp (disch := first | assumption | omega) only [rX11_whoWas, sp, mX11_within, and_false, Option.bind_some, Option.toList_some, Option.toList_none, List.cons_append, List.nil_append, fk_b_0, nI_add, Nat.add_zero, Nat.zero_add, not_true_eq_false, not_false_eq_true, if_true, if_false, sI_le_t, sI_le_f, sI_lt_t, sI_lt_f, sI_eq_t, sI_eq_f, sI_rem, sI_div, sI_m1a, sI_m1b, sI_m1c, sI_m1d, sI_m1e, sI_m1f, sI_m2a, sI_m2b, sI_sub, pk_mul, sI_dec, fk_u_s, fk_u_o, sI_dec0, sI_z, sI_md, Bool.false_eq_true, Nat.reduceAdd, Nat.reduceMul, Nat.reduceSub, Nat.reduceMod, Nat.reduceDiv]
          · rw [fk_b_f c0] at i1
            subst i1
            refine ⟨nI 0, ?_, (fk_b_f fun z => c0 fun i hi => z i (by omega)).symm⟩
            simp (disch := first | assumption | omega) only [rX11_whoWas, Option.bind_some, Option.toList_some, Option.toList_none, List.cons_append, List.nil_append, fk_b_0, nI_add, Nat.add_zero, Nat.zero_add, not_true_eq_false, not_false_eq_true, if_true, if_false, sI_le_t, sI_le_f, sI_lt_t, sI_lt_f, sI_eq_t, sI_eq_f, sI_rem, sI_div, sI_m1a, sI_m1b, sI_m1c, sI_m1d, sI_m1e, sI_m1f, sI_m2a, sI_m2b, sI_sub, pk_mul, sI_dec, fk_u_s, fk_u_o, sI_dec0, sI_z, sI_md, Bool.false_eq_true, Nat.reduceAdd, Nat.reduceMul, Nat.reduceSub, Nat.reduceMod, Nat.reduceDiv]) m 0 (nI 1) (Nat.zero_add m) (fk_b_t fun i hi => by omega).symm
        obtain ⟨f, ef, i1⟩ := f1
        try dsimp only at ef i1
        by_cases hF : ∀ i, i < m → ab_fq (y 255) H i
        · rw [fk_b_t hF] at i1
          subst i1
          have g1 := fk_loopr (σ := Nat × Int32) (fun k s => fk_ev (d + 8) qX11_whoWas 105 [.ref 1, .int (nI m), .int (nI w), .int (nI 1), .int (nI s.1), .int s.2, .int (nI k)] [] (fk_E N y l)) (fun k s => s = ab_ww (y 247) (y 255) H m k) n (by
            intro k s hk i1
            try dsimp only at i1 ⊢
            have ws := mX11_wasSeen (N := N) (l := l) (d := d + 3) p1 p3 p4 hk t2 t1 hmt t4 hF m 0 (Nat.zero_add m)
            have ws0 : fk_ev (d + 7) qX11_wasSeen 0 [.ref 1, .int ((nI k)), .int ((nI m)), .null] [] (fk_E N y l) = some (some (.int ((fk_b (fk_cf (ab_ns (y 247) (y 255) H k) 0 m = 0)))), fk_E N y l) := by
              simp (disch := first | assumption | omega) only [rX11_wasSeen, Option.bind_some, Option.toList_some, Option.toList_none, List.cons_append, List.nil_append, fk_b_0, nI_add, Nat.add_zero, Nat.zero_add, not_true_eq_false, not_false_eq_true, if_true, if_false, sI_le_t, sI_le_f, sI_lt_t, sI_lt_f, sI_eq_t, sI_eq_f, sI_rem, sI_div, sI_m1a, sI_m1b, sI_m1c, sI_m1d, sI_m1e, sI_m1f, sI_m2a, sI_m2b, sI_sub, pk_mul, sI_dec, fk_u_s, fk_u_o, sI_dec0, sI_z, sI_md, Bool.false_eq_true, Nat.reduceAdd, Nat.reduceMul, Nat.reduceSub, Nat.reduceMod, Nat.reduceDiv]
              exact ws
            have le := ab_ww_le (A := y 247) (B := y 255) (H := H) (m := m) (k := k)
            rw [← i1] at le
            refine ⟨ab_ww (y 247) (y 255) H m (k + 1), ?_, rfl⟩
            rw [ab_ww_s, ← i1, hX11_whoWas_105]
            by_cases c : fk_cf (ab_ns (y 247) (y 255) H k) 0 m = 0
            · rw [fk_b_t c] at ws0
              rw [if_pos c]
              try dsimp only
              by_cases c2 : s.1 = 0
              · rw [if_pos c2, c2]
                simp (disch := first | assumption | omega) only [rX11_whoWas, eb, ws0, Option.bind_some, Option.toList_some, Option.toList_none, List.cons_append, List.nil_append, fk_b_0, nI_add, Nat.add_zero, Nat.zero_add, not_true_eq_false, not_false_eq_true, if_true, if_false, sI_le_t, sI_le_f, sI_lt_t, sI_lt_f, sI_eq_t, sI_eq_f, sI_rem, sI_div, sI_m1a, sI_m1b, sI_m1c, sI_m1d, sI_m1e, sI_m1f, sI_m2a, sI_m2b, sI_sub, pk_mul, sI_dec, fk_u_s, fk_u_o, sI_dec0, sI_z, sI_md, Bool.false_eq_true, Nat.reduceAdd, Nat.reduceMul, Nat.reduceSub, Nat.reduceMod, Nat.reduceDiv]
              · rw [if_neg c2]
                simp (disch := first | assumption | omega) only [rX11_whoWas, eb, ws0, Option.bind_some, Option.toList_some, Option.toList_none, List.cons_append, List.nil_append, fk_b_0, nI_add, Nat.add_zero, Nat.zero_add, not_true_eq_false, not_false_eq_true, if_true, if_false, sI_le_t, sI_le_f, sI_lt_t, sI_lt_f, sI_eq_t, sI_eq_f, sI_rem, sI_div, sI_m1a, sI_m1b, sI_m1c, sI_m1d, sI_m1e, sI_m1f, sI_m2a, sI_m2b, sI_sub, pk_mul, sI_dec, fk_u_s, fk_u_o, sI_dec0, sI_z, sI_md, Bool.false_eq_true, Nat.reduceAdd, Nat.reduceMul, Nat.reduceSub, Nat.reduceMod, Nat.reduceDiv]
            · rw [fk_b_f c] at ws0
              rw [if_neg c]
              simp (disch := first | assumption | omega) only [rX11_whoWas, eb, ws0, Option.bind_some, Option.toList_some, Option.toList_none, List.cons_append, List.nil_append, fk_b_0, nI_add, Nat.add_zero, Nat.zero_add, not_true_eq_false, not_false_eq_true, if_true, if_false, sI_le_t, sI_le_f, sI_lt_t, sI_lt_f, sI_eq_t, sI_eq_f, sI_rem, sI_div, sI_m1a, sI_m1b, sI_m1c, sI_m1d, sI_m1e, sI_m1f, sI_m2a, sI_m2b, sI_sub, pk_mul, sI_dec, fk_u_s, fk_u_o, sI_dec0, sI_z, sI_md, Bool.false_eq_true, Nat.reduceAdd, Nat.reduceMul, Nat.reduceSub, Nat.reduceMod, Nat.reduceDiv]) n 0 (0, (-2)) (Nat.zero_add n) rfl
          have g2 := fk_loopr (σ := Nat) (fun k (_ : Nat) => fk_ev (d + 8) qX12_whoWas 38 [.ref 246, .int (nI m), .int (nI w), .int (nI k), .null, .null] [] (fk_E N z l)) (fun k s => True) m (by
            intro k s hk i1
            try dsimp only at i1 ⊢
            obtain ⟨c1, c2⟩ := hF k hk
            have sh := mX12_hourAt (N := N) (l := l) (d := d + 7) (y := z) (k := k) (by omega)
            have hr := mX12_isRemembered (N := N) (l := l) (d := d + 6) (y := z) (t := nI (ab_hq (y 255) k)) (H := H) (by rw [z247]; exact p1.2.2.1) hH
            rw [fk_b_t ((ab_rb_n ab_hq_lt).mpr c2)] at hr
            rw [z255] at sh
            have ep : z 255 (3 * k + 2) &&& nI 255 = nI (ab_pl (y 255) k) := by rw [z255]; exact fk_bn_e
            rw [hX12_whoWas_38]
            refine ⟨0, ?_, trivial⟩
            simp (disch := first | assumption | omega) only [rX12_whoWas, ep, mX12_isPlace, and_self, sh, hr, Option.bind_some, Option.toList_some, Option.toList_none, List.cons_append, List.nil_append, fk_b_0, nI_add, Nat.add_zero, Nat.zero_add, not_true_eq_false, not_false_eq_true, if_true, if_false, sI_le_t, sI_le_f, sI_lt_t, sI_lt_f, sI_eq_t, sI_eq_f, sI_rem, sI_div, sI_m1a, sI_m1b, sI_m1c, sI_m1d, sI_m1e, sI_m1f, sI_m2a, sI_m2b, sI_sub, pk_mul, sI_dec, fk_u_s, fk_u_o, sI_dec0, sI_z, sI_md, Bool.false_eq_true, Nat.reduceAdd, Nat.reduceMul, Nat.reduceSub, Nat.reduceMod, Nat.reduceDiv]) m 0 0 (Nat.zero_add m) trivial
          have g3 := fk_loopr (σ := Nat × Int32) (fun k s => fk_ev (d + 8) qX12_whoWas 93 [.ref 246, .int (nI m), .int (nI w), .int (nI s.1), .int s.2, .int (nI k)] [] (fk_E N z l)) (fun k s => s = ab_ww (y 247) (y 255) H m k) n (by
            intro k s hk i1
            try dsimp only at i1 ⊢
            have ws := mX12_wasThere (N := N) (l := l) (d := d + 3) (m := m) (y := z) p1 p2 z247 hk (by omega) (by rw [z255]; exact hF) m 0 (Nat.zero_add m)
            rw [z255] at ws
            have ws0 : fk_ev (d + 7) qX12_wasThere 0 [.ref 246, .int ((nI k)), .int ((nI m)), .null] [] (fk_E N z l) = some (some (.int ((fk_b (fk_cf (ab_ns (y 247) (y 255) H k) 0 m = 0)))), fk_E N z l) := by
              simp (disch := first | assumption | omega) only [rX12_wasThere, Option.bind_some, Option.toList_some, Option.toList_none, List.cons_append, List.nil_append, fk_b_0, nI_add, Nat.add_zero, Nat.zero_add, not_true_eq_false, not_false_eq_true, if_true, if_false, sI_le_t, sI_le_f, sI_lt_t, sI_lt_f, sI_eq_t, sI_eq_f, sI_rem, sI_div, sI_m1a, sI_m1b, sI_m1c, sI_m1d, sI_m1e, sI_m1f, sI_m2a, sI_m2b, sI_sub, pk_mul, sI_dec, fk_u_s, fk_u_o, sI_dec0, sI_z, sI_md, Bool.false_eq_true, Nat.reduceAdd, Nat.reduceMul, Nat.reduceSub, Nat.reduceMod, Nat.reduceDiv]
              exact ws
            have le := ab_ww_le (A := y 247) (B := y 255) (H := H) (m := m) (k := k)
            rw [← i1] at le
            refine ⟨ab_ww (y 247) (y 255) H m (k + 1), ?_, rfl⟩
            rw [ab_ww_s, ← i1, hX12_whoWas_93]
            have eb2 : z 247 833 = nI n := by rw [z247]; exact hm
            by_cases c : fk_cf (ab_ns (y 247) (y 255) H k) 0 m = 0
            · rw [fk_b_t c] at ws0
              rw [if_pos c]
              try dsimp only
              by_cases c2 : s.1 = 0
              · rw [if_pos c2, c2]
                simp (disch := first | assumption | omega) only [rX12_whoWas, eb2, ws0, Option.bind_some, Option.toList_some, Option.toList_none, List.cons_append, List.nil_append, fk_b_0, nI_add, Nat.add_zero, Nat.zero_add, not_true_eq_false, not_false_eq_true, if_true, if_false, sI_le_t, sI_le_f, sI_lt_t, sI_lt_f, sI_eq_t, sI_eq_f, sI_rem, sI_div, sI_m1a, sI_m1b, sI_m1c, sI_m1d, sI_m1e, sI_m1f, sI_m2a, sI_m2b, sI_sub, pk_mul, sI_dec, fk_u_s, fk_u_o, sI_dec0, sI_z, sI_md, Bool.false_eq_true, Nat.reduceAdd, Nat.reduceMul, Nat.reduceSub, Nat.reduceMod, Nat.reduceDiv]
              · rw [if_neg c2]
                simp (disch := first | assumption | omega) only [rX12_whoWas, eb2, ws0, Option.bind_some, Option.toList_some, Option.toList_none, List.cons_append, List.nil_append, fk_b_0, nI_add, Nat.add_zero, Nat.zero_add, not_true_eq_false, not_false_eq_true, if_true, if_false, sI_le_t, sI_le_f, sI_lt_t, sI_lt_f, sI_eq_t, sI_eq_f, sI_rem, sI_div, sI_m1a, sI_m1b, sI_m1c, sI_m1d, sI_m1e, sI_m1f, sI_m2a, sI_m2b, sI_sub, pk_mul, sI_dec, fk_u_s, fk_u_o, sI_dec0, sI_z, sI_md, Bool.false_eq_true, Nat.reduceAdd, Nat.reduceMul, Nat.reduceSub, Nat.reduceMod, Nat.reduceDiv]
            · rw [fk_b_f c] at ws0
              rw [if_neg c]
              simp (disch := first | assumption | omega) only [rX12_whoWas, eb2, ws0, Option.bind_some, Option.toList_some, Option.toList_none, List.cons_append, List.nil_append, fk_b_0, nI_add, Nat.add_zero, Nat.zero_add, not_true_eq_false, not_false_eq_true, if_true, if_false, sI_le_t, sI_le_f, sI_lt_t, sI_lt_f, sI_eq_t, sI_eq_f, sI_rem, sI_div, sI_m1a, sI_m1b, sI_m1c, sI_m1d, sI_m1e, sI_m1f, sI_m2a, sI_m2b, sI_sub, pk_mul, sI_dec, fk_u_s, fk_u_o, sI_dec0, sI_z, sI_md, Bool.false_eq_true, Nat.reduceAdd, Nat.reduceMul, Nat.reduceSub, Nat.reduceMod, Nat.reduceDiv]) n 0 (0, (-2)) (Nat.zero_add n) rfl
          obtain ⟨⟨s1, s2⟩, eg1, j1⟩ := g1
          obtain ⟨_, eg2, _⟩ := g2
          obtain ⟨⟨s3, s4⟩, eg3, j3⟩ := g3
          rw [← j1] at j3
          obtain ⟨rfl, rfl⟩ := Prod.mk.inj j3
          try dsimp only at eg1 eg2 eg3
          have le := ab_ww_le (A := y 247) (B := y 255) (H := H) (m := m) (k := n)
          rw [← j1] at le
          try dsimp only at le
          have eb2 : z 247 833 = nI n := by rw [z247]; exact hm
          have ww : w = 0 ∨ w = 1 := by omega
          refine ⟨if w = 0 then nI s3 else s4, fk_u y 26 1 (nI 0), z, ?_, ?_, hcz⟩
          · simp (disch := first | assumption | omega) only [rX11_whoWas, mX11_within, and_self, t2, Option.bind_some, Option.toList_some, Option.toList_none, List.cons_append, List.nil_append, fk_b_0, nI_add, Nat.add_zero, Nat.zero_add, not_true_eq_false, not_false_eq_true, if_true, if_false, sI_le_t, sI_le_f, sI_lt_t, sI_lt_f, sI_eq_t, sI_eq_f, sI_rem, sI_div, sI_m1a, sI_m1b, sI_m1c, sI_m1d, sI_m1e, sI_m1f, sI_m2a, sI_m2b, sI_sub, pk_mul, sI_dec, fk_u_s, fk_u_o, sI_dec0, sI_z, sI_md, Bool.false_eq_true, Nat.reduceAdd, Nat.reduceMul, Nat.reduceSub, Nat.reduceMod, Nat.reduceDiv]
            rw [ef, hX11_whoWas_39]
            simp (disch := first | assumption | omega) only [rX11_whoWas, Option.bind_some, Option.toList_some, Option.toList_none, List.cons_append, List.nil_append, fk_b_0, nI_add, Nat.add_zero, Nat.zero_add, not_true_eq_false, not_false_eq_true, if_true, if_false, sI_le_t, sI_le_f, sI_lt_t, sI_lt_f, sI_eq_t, sI_eq_f, sI_rem, sI_div, sI_m1a, sI_m1b, sI_m1c, sI_m1d, sI_m1e, sI_m1f, sI_m2a, sI_m2b, sI_sub, pk_mul, sI_dec, fk_u_s, fk_u_o, sI_dec0, sI_z, sI_md, Bool.false_eq_true, Nat.reduceAdd, Nat.reduceMul, Nat.reduceSub, Nat.reduceMod, Nat.reduceDiv]
            rw [eg1, hX11_whoWas_105]
            rcases ww with rfl | rfl
            · simp (disch := first | assumption | omega) only [rX11_whoWas, eb, mX10_clear, eq_self, Option.bind_some, Option.toList_some, Option.toList_none, List.cons_append, List.nil_append, fk_b_0, nI_add, Nat.add_zero, Nat.zero_add, not_true_eq_false, not_false_eq_true, if_true, if_false, sI_le_t, sI_le_f, sI_lt_t, sI_lt_f, sI_eq_t, sI_eq_f, sI_rem, sI_div, sI_m1a, sI_m1b, sI_m1c, sI_m1d, sI_m1e, sI_m1f, sI_m2a, sI_m2b, sI_sub, pk_mul, sI_dec, fk_u_s, fk_u_o, sI_dec0, sI_z, sI_md, Bool.false_eq_true, Nat.reduceAdd, Nat.reduceMul, Nat.reduceSub, Nat.reduceMod, Nat.reduceDiv]
            · simp (disch := first | assumption | omega) only [rX11_whoWas, eb, mX10_clear, show ((1 : Nat) = 0) = False from eq_false (by decide), Option.bind_some, Option.toList_some, Option.toList_none, List.cons_append, List.nil_append, fk_b_0, nI_add, Nat.add_zero, Nat.zero_add, not_true_eq_false, not_false_eq_true, if_true, if_false, sI_le_t, sI_le_f, sI_lt_t, sI_lt_f, sI_eq_t, sI_eq_f, sI_rem, sI_div, sI_m1a, sI_m1b, sI_m1c, sI_m1d, sI_m1e, sI_m1f, sI_m2a, sI_m2b, sI_sub, pk_mul, sI_dec, fk_u_s, fk_u_o, sI_dec0, sI_z, sI_md, Bool.false_eq_true, Nat.reduceAdd, Nat.reduceMul, Nat.reduceSub, Nat.reduceMod, Nat.reduceDiv]
          · have wle : nI 0 ≤ nI w ∧ nI w ≤ nI 1 := ⟨nI_le (by omega) (by omega), nI_le (by omega) (by omega)⟩
            simp (disch := first | assumption | omega) only [rX12_whoWas, mX12_in, and_self, t3, ez, Option.bind_some, Option.toList_some, Option.toList_none, List.cons_append, List.nil_append, fk_b_0, nI_add, Nat.add_zero, Nat.zero_add, not_true_eq_false, not_false_eq_true, if_true, if_false, sI_le_t, sI_le_f, sI_lt_t, sI_lt_f, sI_eq_t, sI_eq_f, sI_rem, sI_div, sI_m1a, sI_m1b, sI_m1c, sI_m1d, sI_m1e, sI_m1f, sI_m2a, sI_m2b, sI_sub, pk_mul, sI_dec, fk_u_s, fk_u_o, sI_dec0, sI_z, sI_md, Bool.false_eq_true, Nat.reduceAdd, Nat.reduceMul, Nat.reduceSub, Nat.reduceMod, Nat.reduceDiv]
            rw [eg2, hX12_whoWas_38]
            simp (disch := first | assumption | omega) only [rX12_whoWas, Option.bind_some, Option.toList_some, Option.toList_none, List.cons_append, List.nil_append, fk_b_0, nI_add, Nat.add_zero, Nat.zero_add, not_true_eq_false, not_false_eq_true, if_true, if_false, sI_le_t, sI_le_f, sI_lt_t, sI_lt_f, sI_eq_t, sI_eq_f, sI_rem, sI_div, sI_m1a, sI_m1b, sI_m1c, sI_m1d, sI_m1e, sI_m1f, sI_m2a, sI_m2b, sI_sub, pk_mul, sI_dec, fk_u_s, fk_u_o, sI_dec0, sI_z, sI_md, Bool.false_eq_true, Nat.reduceAdd, Nat.reduceMul, Nat.reduceSub, Nat.reduceMod, Nat.reduceDiv]
            rw [eg3, hX12_whoWas_93]
            rcases ww with rfl | rfl
            · simp (disch := first | assumption | omega) only [rX12_whoWas, eb2, eq_self, Option.bind_some, Option.toList_some, Option.toList_none, List.cons_append, List.nil_append, fk_b_0, nI_add, Nat.add_zero, Nat.zero_add, not_true_eq_false, not_false_eq_true, if_true, if_false, sI_le_t, sI_le_f, sI_lt_t, sI_lt_f, sI_eq_t, sI_eq_f, sI_rem, sI_div, sI_m1a, sI_m1b, sI_m1c, sI_m1d, sI_m1e, sI_m1f, sI_m2a, sI_m2b, sI_sub, pk_mul, sI_dec, fk_u_s, fk_u_o, sI_dec0, sI_z, sI_md, Bool.false_eq_true, Nat.reduceAdd, Nat.reduceMul, Nat.reduceSub, Nat.reduceMod, Nat.reduceDiv]
            · simp (disch := first | assumption | omega) only [rX12_whoWas, eb2, show ((1 : Nat) = 0) = False from eq_false (by decide), Option.bind_some, Option.toList_some, Option.toList_none, List.cons_append, List.nil_append, fk_b_0, nI_add, Nat.add_zero, Nat.zero_add, not_true_eq_false, not_false_eq_true, if_true, if_false, sI_le_t, sI_le_f, sI_lt_t, sI_lt_f, sI_eq_t, sI_eq_f, sI_rem, sI_div, sI_m1a, sI_m1b, sI_m1c, sI_m1d, sI_m1e, sI_m1f, sI_m2a, sI_m2b, sI_sub, pk_mul, sI_dec, fk_u_s, fk_u_o, sI_dec0, sI_z, sI_md, Bool.false_eq_true, Nat.reduceAdd, Nat.reduceMul, Nat.reduceSub, Nat.reduceMod, Nat.reduceDiv]
        · rw [fk_b_f hF] at i1
          subst i1
          refine ⟨(-2), fk_u y 26 1 (nI 0), z, ?_, ?_, hcz⟩
          · simp (disch := first | assumption | omega) only [rX11_whoWas, mX11_within, and_self, t2, Option.bind_some, Option.toList_some, Option.toList_none, List.cons_append, List.nil_append, fk_b_0, nI_add, Nat.add_zero, Nat.zero_add, not_true_eq_false, not_false_eq_true, if_true, if_false, sI_le_t, sI_le_f, sI_lt_t, sI_lt_f, sI_eq_t, sI_eq_f, sI_rem, sI_div, sI_m1a, sI_m1b, sI_m1c, sI_m1d, sI_m1e, sI_m1f, sI_m2a, sI_m2b, sI_sub, pk_mul, sI_dec, fk_u_s, fk_u_o, sI_dec0, sI_z, sI_md, Bool.false_eq_true, Nat.reduceAdd, Nat.reduceMul, Nat.reduceSub, Nat.reduceMod, Nat.reduceDiv]
            rw [ef, hX11_whoWas_39]
            simp (disch := first | assumption | omega) only [rX11_whoWas, Option.bind_some, Option.toList_some, Option.toList_none, List.cons_append, List.nil_append, fk_b_0, nI_add, Nat.add_zero, Nat.zero_add, not_true_eq_false, not_false_eq_true, if_true, if_false, sI_le_t, sI_le_f, sI_lt_t, sI_lt_f, sI_eq_t, sI_eq_f, sI_rem, sI_div, sI_m1a, sI_m1b, sI_m1c, sI_m1d, sI_m1e, sI_m1f, sI_m2a, sI_m2b, sI_sub, pk_mul, sI_dec, fk_u_s, fk_u_o, sI_dec0, sI_z, sI_md, Bool.false_eq_true, Nat.reduceAdd, Nat.reduceMul, Nat.reduceSub, Nat.reduceMod, Nat.reduceDiv]
            rw [hX11_whoWas_105]
            simp (disch := first | assumption | omega) only [rX11_whoWas, mX10_clear, Option.bind_some, Option.toList_some, Option.toList_none, List.cons_append, List.nil_append, fk_b_0, nI_add, Nat.add_zero, Nat.zero_add, not_true_eq_false, not_false_eq_true, if_true, if_false, sI_le_t, sI_le_f, sI_lt_t, sI_lt_f, sI_eq_t, sI_eq_f, sI_rem, sI_div, sI_m1a, sI_m1b, sI_m1c, sI_m1d, sI_m1e, sI_m1f, sI_m2a, sI_m2b, sI_sub, pk_mul, sI_dec, fk_u_s, fk_u_o, sI_dec0, sI_z, sI_md, Bool.false_eq_true, Nat.reduceAdd, Nat.reduceMul, Nat.reduceSub, Nat.reduceMod, Nat.reduceDiv]
          · have key : ∀ k i, i + k = m → (∀ i', i' < i → ab_fq (y 255) H i') → fk_ev (d + 8) qX12_whoWas 38 [.ref 246, .int (nI m), .int (nI w), .int (nI i), .null, .null] [] (fk_E N z l) = some (some (.int (-2)), fk_E N z l) := by
              intro k
              induction k with
              | zero =>
                intro i hi h
                have hi : i = m := hi
                subst hi
                exact absurd h hF
              | succ k ih =>
                intro i hi h
                have sh := mX12_hourAt (N := N) (l := l) (d := d + 7) (y := z) (k := i) (by omega)
                have hr := mX12_isRemembered (N := N) (l := l) (d := d + 6) (y := z) (t := nI (ab_hq (y 255) i)) (H := H) (by rw [z247]; exact p1.2.2.1) hH
                rw [z255] at sh
                have ep : z 255 (3 * i + 2) &&& nI 255 = nI (ab_pl (y 255) i) := by rw [z255]; exact fk_bn_e
                rw [hX12_whoWas_38]
                by_cases c1 : ab_pl (y 255) i < 16
                · by_cases c2 : ab_hq (y 255) i ≤ H ∧ H < ab_hq (y 255) i + 48
                  · rw [fk_b_t ((ab_rb_n ab_hq_lt).mpr c2)] at hr
                    rw [← ih (i + 1) (by omega) fun i' hi' => by
                      by_cases e : i' = i
                      · subst e; exact ⟨c1, c2⟩
                      · exact h i' (by omega)]
                    simp (disch := first | assumption | omega) only [rX12_whoWas, ep, mX12_isPlace, and_self, sh, hr, Option.bind_some, Option.toList_some, Option.toList_none, List.cons_append, List.nil_append, fk_b_0, nI_add, Nat.add_zero, Nat.zero_add, not_true_eq_false, not_false_eq_true, if_true, if_false, sI_le_t, sI_le_f, sI_lt_t, sI_lt_f, sI_eq_t, sI_eq_f, sI_rem, sI_div, sI_m1a, sI_m1b, sI_m1c, sI_m1d, sI_m1e, sI_m1f, sI_m2a, sI_m2b, sI_sub, pk_mul, sI_dec, fk_u_s, fk_u_o, sI_dec0, sI_z, sI_md, Bool.false_eq_true, Nat.reduceAdd, Nat.reduceMul, Nat.reduceSub, Nat.reduceMod, Nat.reduceDiv]
                  · rw [fk_b_f fun z => c2 ((ab_rb_n ab_hq_lt).mp z)] at hr
                    simp (disch := first | assumption | omega) only [rX12_whoWas, ep, mX12_isPlace, and_self, sh, hr, Option.bind_some, Option.toList_some, Option.toList_none, List.cons_append, List.nil_append, fk_b_0, nI_add, Nat.add_zero, Nat.zero_add, not_true_eq_false, not_false_eq_true, if_true, if_false, sI_le_t, sI_le_f, sI_lt_t, sI_lt_f, sI_eq_t, sI_eq_f, sI_rem, sI_div, sI_m1a, sI_m1b, sI_m1c, sI_m1d, sI_m1e, sI_m1f, sI_m2a, sI_m2b, sI_sub, pk_mul, sI_dec, fk_u_s, fk_u_o, sI_dec0, sI_z, sI_md, Bool.false_eq_true, Nat.reduceAdd, Nat.reduceMul, Nat.reduceSub, Nat.reduceMod, Nat.reduceDiv]
                · have lt2 : ab_pl (y 255) i < 256 := fk_bn_lt
                  simp (disch := first | assumption | omega) only [rX12_whoWas, ep, mX12_isPlace, and_false, Option.bind_some, Option.toList_some, Option.toList_none, List.cons_append, List.nil_append, fk_b_0, nI_add, Nat.add_zero, Nat.zero_add, not_true_eq_false, not_false_eq_true, if_true, if_false, sI_le_t, sI_le_f, sI_lt_t, sI_lt_f, sI_eq_t, sI_eq_f, sI_rem, sI_div, sI_m1a, sI_m1b, sI_m1c, sI_m1d, sI_m1e, sI_m1f, sI_m2a, sI_m2b, sI_sub, pk_mul, sI_dec, fk_u_s, fk_u_o, sI_dec0, sI_z, sI_md, Bool.false_eq_true, Nat.reduceAdd, Nat.reduceMul, Nat.reduceSub, Nat.reduceMod, Nat.reduceDiv]
            simp (disch := first | assumption | omega) only [rX12_whoWas, mX12_in, and_self, t3, ez, Option.bind_some, Option.toList_some, Option.toList_none, List.cons_append, List.nil_append, fk_b_0, nI_add, Nat.add_zero, Nat.zero_add, not_true_eq_false, not_false_eq_true, if_true, if_false, sI_le_t, sI_le_f, sI_lt_t, sI_lt_f, sI_eq_t, sI_eq_f, sI_rem, sI_div, sI_m1a, sI_m1b, sI_m1c, sI_m1d, sI_m1e, sI_m1f, sI_m2a, sI_m2b, sI_sub, pk_mul, sI_dec, fk_u_s, fk_u_o, sI_dec0, sI_z, sI_md, Bool.false_eq_true, Nat.reduceAdd, Nat.reduceMul, Nat.reduceSub, Nat.reduceMod, Nat.reduceDiv]
            exact key m 0 (Nat.zero_add m) fun i' hi' => by omega
      · refine ⟨(-1), y, y, ?_, ?_, hR⟩
        · simp (disch := first | assumption | omega) only [rX11_whoWas, mX11_within, and_self, t2, Option.bind_some, Option.toList_some, Option.toList_none, List.cons_append, List.nil_append, fk_b_0, nI_add, Nat.add_zero, Nat.zero_add, not_true_eq_false, not_false_eq_true, if_true, if_false, sI_le_t, sI_le_f, sI_lt_t, sI_lt_f, sI_eq_t, sI_eq_f, sI_rem, sI_div, sI_m1a, sI_m1b, sI_m1c, sI_m1d, sI_m1e, sI_m1f, sI_m2a, sI_m2b, sI_sub, pk_mul, sI_dec, fk_u_s, fk_u_o, sI_dec0, sI_z, sI_md, Bool.false_eq_true, Nat.reduceAdd, Nat.reduceMul, Nat.reduceSub, Nat.reduceMod, Nat.reduceDiv]
        · have wle : nI 0 ≤ nI w ∧ nI w ≤ nI 1 := ⟨nI_le (by omega) (by omega), nI_le (by omega) (by omega)⟩
          simp (disch := first | assumption | omega) only [rX12_whoWas, mX12_in, and_self, t3, Option.bind_some, Option.toList_some, Option.toList_none, List.cons_append, List.nil_append, fk_b_0, nI_add, Nat.add_zero, Nat.zero_add, not_true_eq_false, not_false_eq_true, if_true, if_false, sI_le_t, sI_le_f, sI_lt_t, sI_lt_f, sI_eq_t, sI_eq_f, sI_rem, sI_div, sI_m1a, sI_m1b, sI_m1c, sI_m1d, sI_m1e, sI_m1f, sI_m2a, sI_m2b, sI_sub, pk_mul, sI_dec, fk_u_s, fk_u_o, sI_dec0, sI_z, sI_md, Bool.false_eq_true, Nat.reduceAdd, Nat.reduceMul, Nat.reduceSub, Nat.reduceMod, Nat.reduceDiv]
    · have hw' : ¬ (nI 0 ≤ w ∧ w ≤ nI 1) := fun z => hw ⟨z.1, Int32.lt_of_le_of_lt z.2 (by decide)⟩
      refine ⟨(-1), y, y, ?_, ?_, hR⟩
      · simp (disch := first | assumption | omega) only [rX11_whoWas, mX11_within, hw, Option.bind_some, Option.toList_some, Option.toList_none, List.cons_append, List.nil_append, fk_b_0, nI_add, Nat.add_zero, Nat.zero_add, not_true_eq_false, not_false_eq_true, if_true, if_false, sI_le_t, sI_le_f, sI_lt_t, sI_lt_f, sI_eq_t, sI_eq_f, sI_rem, sI_div, sI_m1a, sI_m1b, sI_m1c, sI_m1d, sI_m1e, sI_m1f, sI_m2a, sI_m2b, sI_sub, pk_mul, sI_dec, fk_u_s, fk_u_o, sI_dec0, sI_z, sI_md, Bool.false_eq_true, Nat.reduceAdd, Nat.reduceMul, Nat.reduceSub, Nat.reduceMod, Nat.reduceDiv]
      · simp (disch := first | assumption | omega) only [rX12_whoWas, mX12_in, and_self, hw', Option.bind_some, Option.toList_some, Option.toList_none, List.cons_append, List.nil_append, fk_b_0, nI_add, Nat.add_zero, Nat.zero_add, not_true_eq_false, not_false_eq_true, if_true, if_false, sI_le_t, sI_le_f, sI_lt_t, sI_lt_f, sI_eq_t, sI_eq_f, sI_rem, sI_div, sI_m1a, sI_m1b, sI_m1c, sI_m1d, sI_m1e, sI_m1f, sI_m2a, sI_m2b, sI_sub, pk_mul, sI_dec, fk_u_s, fk_u_o, sI_dec0, sI_z, sI_md, Bool.false_eq_true, Nat.reduceAdd, Nat.reduceMul, Nat.reduceSub, Nat.reduceMod, Nat.reduceDiv]
  · refine ⟨(-1), y, y, ?_, ?_, hR⟩
    · by_cases c1 : u < nI 1
      · simp (disch := first | assumption | omega) only [rX11_whoWas, c1, Option.bind_some, Option.toList_some, Option.toList_none, List.cons_append, List.nil_append, fk_b_0, nI_add, Nat.add_zero, Nat.zero_add, not_true_eq_false, not_false_eq_true, if_true, if_false, sI_le_t, sI_le_f, sI_lt_t, sI_lt_f, sI_eq_t, sI_eq_f, sI_rem, sI_div, sI_m1a, sI_m1b, sI_m1c, sI_m1d, sI_m1e, sI_m1f, sI_m2a, sI_m2b, sI_sub, pk_mul, sI_dec, fk_u_s, fk_u_o, sI_dec0, sI_z, sI_md, Bool.false_eq_true, Nat.reduceAdd, Nat.reduceMul, Nat.reduceSub, Nat.reduceMod, Nat.reduceDiv]
      · have c2 : nI 8 < u := Int32.not_le.mp fun z => hu ⟨Int32.not_lt.mp c1, z⟩
        simp (disch := first | assumption | omega) only [rX11_whoWas, c1, c2, Option.bind_some, Option.toList_some, Option.toList_none, List.cons_append, List.nil_append, fk_b_0, nI_add, Nat.add_zero, Nat.zero_add, not_true_eq_false, not_false_eq_true, if_true, if_false, sI_le_t, sI_le_f, sI_lt_t, sI_lt_f, sI_eq_t, sI_eq_f, sI_rem, sI_div, sI_m1a, sI_m1b, sI_m1c, sI_m1d, sI_m1e, sI_m1f, sI_m2a, sI_m2b, sI_sub, pk_mul, sI_dec, fk_u_s, fk_u_o, sI_dec0, sI_z, sI_md, Bool.false_eq_true, Nat.reduceAdd, Nat.reduceMul, Nat.reduceSub, Nat.reduceMod, Nat.reduceDiv]
    · simp (disch := first | assumption | omega) only [rX12_whoWas, mX12_in, hu, Option.bind_some, Option.toList_some, Option.toList_none, List.cons_append, List.nil_append, fk_b_0, nI_add, Nat.add_zero, Nat.zero_add, not_true_eq_false, not_false_eq_true, if_true, if_false, sI_le_t, sI_le_f, sI_lt_t, sI_lt_f, sI_eq_t, sI_eq_f, sI_rem, sI_div, sI_m1a, sI_m1b, sI_m1c, sI_m1d, sI_m1e, sI_m1f, sI_m2a, sI_m2b, sI_sub, pk_mul, sI_dec, fk_u_s, fk_u_o, sI_dec0, sI_z, sI_md, Bool.false_eq_true, Nat.reduceAdd, Nat.reduceMul, Nat.reduceSub, Nat.reduceMod, Nat.reduceDiv]
end WHO
