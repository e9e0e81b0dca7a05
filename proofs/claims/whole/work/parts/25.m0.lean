def fk_b (p : Prop) [Decidable p] : Int32 := if p then nI 1 else nI 0
section M0
variable {N : Nat} {y : Nat → Nat → Int32} {l : Nat → Nat → Int64} {d : Nat}
theorem mX12_lives {j : Nat} (hj : j < 3000) : fk_ev d qX12_lives 0 [.ref 246, .int (nI j)] [] (fk_E N y l) = some (some (.int (fk_b (y 247 (192 + j) = nI 1))), fk_E N y l) := by
  simp (disch := omega) only [rX12_lives, nI_add]
  by_cases h : y 247 (192 + j) = nI 1
  · simp [h, fk_b, rX12_lives]
  · simp [h, fk_b, rX12_lives]
end M0
