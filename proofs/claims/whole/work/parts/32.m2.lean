section M2
variable {N : Nat} {y : Nat → Nat → Int32} {l : Nat → Nat → Int64} {d : Nat} {h : fk_H}
theorem fk_b_t {p : Prop} [Decidable p] (hp : p) : fk_b p = nI 1 := if_pos hp
theorem fk_b_f {p : Prop} [Decidable p] (hp : ¬ p) : fk_b p = nI 0 := if_neg hp
theorem mX12_living_4 {n : Nat} (hn : n ≤ 64) (hm : y 247 833 = nI n) : ∀ k j c, j + k = n → c ≤ j → fk_ev (d + 1) qX12_living 4 [.ref 246, .int (nI c), .int (nI j)] [] (fk_E N y l) = some (some (.int (nI (c + fk_cf (fun j => decide (y 247 (192 + j) = nI 1)) j k))), fk_E N y l) := by
  intro k
  induction k with
  | zero =>
    intro j c hj hc
    have h1 : nI n ≤ nI j := nI_le (by omega) (by omega)
    rw [hX12_living_4]
    simp (disch := omega) only [rX12_living, hm, h1, if_true]
    rfl
  | succ k ih =>
    intro j c hj hc
    have h1 : ¬ nI n ≤ nI j := nI_ge (by omega) (by omega)
    rw [hX12_living_4]
    simp (disch := omega) only [rX12_living, hm, h1, if_false, mX12_lives, Option.bind_some, Option.toList_some, List.cons_append, List.nil_append, fk_b_0, nI_add]
    by_cases h2 : y 247 (192 + j) = nI 1
    · simp (disch := omega) only [h2, not_true_eq_false, if_false, rX12_living, nI_add]
      rw [ih (j + 1) (c + 1) (by omega) (by omega)]
      simp [fk_cf, h2, Nat.add_assoc]
    · simp (disch := omega) only [h2, not_false_eq_true, if_true, rX12_living, nI_add, Nat.add_zero]
      rw [ih (j + 1) c (by omega) (by omega)]
      simp [fk_cf, h2]
theorem mX12_living {n : Nat} (hn : n ≤ 64) (hm : y 247 833 = nI n) : fk_ev (d + 1) qX12_living 0 [.ref 246, .null, .null] [] (fk_E N y l) = some (some (.int (nI (fk_cf (fun j => decide (y 247 (192 + j) = nI 1)) 0 n))), fk_E N y l) := by
  simp only [rX12_living]
  rw [mX12_living_4 hn hm n 0 0 (by omega) (by omega), Nat.zero_add]
theorem mX12_isLiving {j : Int32} {n : Nat} (hn : n ≤ 64) (hm : y 247 833 = nI n) : fk_ev (d + 1) qX12_isLiving 0 [.ref 246, .int j] [] (fk_E N y l) = some (some (.int (fk_b ((nI 0 ≤ j ∧ j < nI n) ∧ y 247 (192 + j.toNatClampNeg) = nI 1))), fk_E N y l) := by
  simp only [rX12_isLiving, mX12_isHalf, hm, Option.bind_some, Option.toList_some, List.cons_append, List.nil_append, fk_b_0]
  by_cases h1 : nI 0 ≤ j ∧ j < nI n
  · obtain ⟨k, hk, rfl⟩ : ∃ k : Nat, k < n ∧ j = nI k := by
      obtain ⟨k, hk, rfl⟩ := nI_of (x := j) (Int32.not_lt.mpr h1.1)
      exact ⟨k, (nI_ltI hk (by omega)).mp h1.2, rfl⟩
    rw [nI_clamp (by omega)]
    simp (disch := omega) only [h1, not_true_eq_false, if_false, rX12_isLiving, mX12_lives, Option.bind_some, Option.toList_some, List.cons_append, List.nil_append, fk_b_0]
    by_cases h2 : y 247 (192 + k) = nI 1
    · simp [h2, fk_b, rX12_isLiving, h1]
    · simp [h2, fk_b, rX12_isLiving]
  · simp [h1, fk_b, rX12_isLiving]
end M2
