section PL8
variable {v : Nat → Nat → Int32} {n F x : Nat} {W : Int32 → (Nat → Int32) → Int32} {P po : Int32} {s : ab_S}
theorem fk_su_no {a b q : Nat} (h : fk_su a b) (hq : ¬ b.testBit q = true) : a.testBit q = false := Bool.eq_false_iff.mpr fun z => hq (h q z)
/-- sets up to the one that the class goes to change nothing -/
theorem ab_skip {as : Int32} {st' : Nat × Nat × Nat} (hF : F < 65536) (hx : fk_su x F) (h0 : ab_fd v W P po s n F (x + 1) = st') (same : ∀ z, (∀ q, q < 16 → fk_tb as q = true → fk_tb (nI x) q = fk_tb (nI z) q) → ab_up v W P po s n st' z = st') : ∃ B, B < 65536 ∧ fk_su B F ∧ x ≤ B ∧ (nI x ||| (if as &&& nI F = nI 0 then nI F else nI F &&& ((as &&& nI F &&& -(as &&& nI F)) - nI 1))) = nI B ∧ ∀ y, (∀ z, fk_su z F → z < y → z ≤ B) → x < y → y ≤ F + 1 → ab_fd v W P po s n F y = st' := by
  have xl := fk_su_le hx
  have ta : ∀ q, fk_tb (as &&& nI F) q = (fk_tb as q && F.testBit q) := fun q => by rw [fk_tb_and, fk_tbn hF]
  by_cases c0 : as &&& nI F = nI 0
  · refine ⟨F, hF, fun _ h => h, xl, ?_, fun y _ h1 h2 => ab_fd_skip (x := x + 1) (by omega) h0 fun z z1 z2 z3 => same z fun q hq hb => ?_⟩
    · rw [if_pos c0]
      apply fk_tb_ext
      intro k hk
      rw [fk_tb_or, fk_tbn hF, fk_tbn (by omega)]
      by_cases c : x.testBit k = true
      · rw [hx k c, c]; rfl
      · rw [Bool.eq_false_iff.mpr c, Bool.false_or]
    · have hz : fk_su z F := (ab_sF_su hF (by omega)).mp z3
      have nf : ¬ F.testBit q = true := fun f => by
        have := ta q
        rw [c0, fk_tb_0, hb, f] at this
        exact absurd this (by decide)
      rw [fk_tbn (by omega), fk_tbn (by omega), fk_su_no hx nf, fk_su_no hz nf]
  · have a16 : ∀ q, fk_tb (as &&& nI F) q = true → q < 16 := fun q h => by
      rw [ta, Bool.and_eq_true] at h
      refine Decidable.byContradiction fun z => ?_
      have := Nat.testBit_lt_two_pow (x := F) (i := q) (Nat.lt_of_lt_of_le hF (Nat.pow_le_pow_right (n := 2) (by omega) (show 16 ≤ q by omega)))
      rw [h.2] at this
      exact absurd this (by decide)
    obtain ⟨L, l1, l2, l3, l4⟩ := fk_low a16 c0
    generalize as &&& nI F = a at c0 ta a16 l2 l3 l4 ⊢
    rw [if_neg c0]
    have tB : ∀ q, fk_tb (nI x ||| (nI F &&& ((a &&& -a) - nI 1))) q = (x.testBit q || (F.testBit q && decide (q < L))) := fun q => by
      have e : fk_tb ((a &&& -a) - nI 1) q = decide (q < L) := by
        by_cases c : q < L
        · rw [decide_eq_true c]; exact (l4 q).mpr c
        · rw [decide_eq_false c]; exact Bool.eq_false_iff.mpr fun z => c ((l4 q).mp z)
      rw [fk_tb_or, fk_tb_and, fk_tbn hF, fk_tbn (by omega), e]
    obtain ⟨B, hB, eB⟩ := fk_num (s := nI x ||| (nI F &&& ((a &&& -a) - nI 1))) fun q h => by
      rw [tB, Bool.or_eq_true, Bool.and_eq_true] at h
      have hf : F.testBit q = true := h.elim (hx q) fun h => h.1
      refine Decidable.byContradiction fun z => ?_
      have := Nat.testBit_lt_two_pow (x := F) (i := q) (Nat.lt_of_lt_of_le hF (Nat.pow_le_pow_right (n := 2) (by omega) (show 16 ≤ q by omega)))
      rw [hf] at this
      exact absurd this (by decide)
    rw [eB] at tB ⊢
    have tB2 : ∀ q, B.testBit q = (x.testBit q || (F.testBit q && decide (q < L))) := fun q => by rw [← tB q, fk_tbn hB]
    have sB : fk_su B F := fun q h => by
      rw [tB2, Bool.or_eq_true, Bool.and_eq_true] at h
      exact h.elim (hx q) fun h => h.1
    have xB : x ≤ B := fk_su_le fun q h => by rw [tB2, h]; rfl
    have bh : ∀ q, L ≤ q → B.testBit q = x.testBit q := fun q hq => by rw [tB2, decide_eq_false (by omega), Bool.and_false, Bool.or_false]
    refine ⟨B, hB, sB, xB, rfl, fun y hy h1 h2 => ab_fd_skip (x := x + 1) (by omega) h0 fun z z1 z2 z3 => same z fun q hq hb => ?_⟩
    have hz : fk_su z F := (ab_sF_su hF (by omega)).mp z3
    rw [fk_tbn (by omega), fk_tbn (by omega)]
    by_cases f : F.testBit q = true
    · have := l3 q (by rw [ta, hb, f]; rfl)
      exact (fk_btw bh (by omega) (hy z hz z2) q this).symm
    · rw [fk_su_no hx f, fk_su_no hz f]
theorem fk_fi_1 {p : Nat → Bool} {k : Nat} (h : ¬ p 0 = true) : fk_fi p 0 (k + 1) = fk_fi p 1 k := by
  have l1 := fk_fi_le (p := p) k 1
  have s1 := fk_fi_sp (p := p) k 1
  by_cases c : fk_fi p 1 k < 1 + k
  · refine fk_fi_at (by omega) (by omega) (s1.2 c) fun a a1 a2 => ?_
    by_cases e : a = 0
    · subst e; exact h
    · exact s1.1 a (by omega) a2
  · rw [fk_fi_no (p := p) (j := 0) (k := k + 1) fun i i1 i2 => ?_]
    · omega
    · by_cases e : i = 0
      · subst e; exact h
      · exact s1.1 i (by omega) (by omega)
end PL8
