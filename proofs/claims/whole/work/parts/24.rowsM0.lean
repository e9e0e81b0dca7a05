theorem dX12_in_0 : decode cX12_in 0 = .ok (.iload_n 0, 1) := by decide +kernel
theorem dX12_in_1 : decode cX12_in 1 = .ok (.iload_n 1, 1) := by decide +kernel
theorem dX12_in_2 : decode cX12_in 2 = .ok (.if_icmp .lt 12, 3) := by decide +kernel
theorem dX12_in_5 : decode cX12_in 5 = .ok (.iload_n 0, 1) := by decide +kernel
theorem dX12_in_6 : decode cX12_in 6 = .ok (.iload_n 2, 1) := by decide +kernel
theorem dX12_in_7 : decode cX12_in 7 = .ok (.if_icmp .gt 7, 3) := by decide +kernel
theorem dX12_in_10 : decode cX12_in 10 = .ok (.iconst 1, 1) := by decide +kernel
theorem dX12_in_11 : decode cX12_in 11 = .ok (.goto 4, 3) := by decide +kernel
theorem dX12_in_14 : decode cX12_in 14 = .ok (.iconst 0, 1) := by decide +kernel
theorem dX12_in_15 : decode cX12_in 15 = .ok (.ireturn, 1) := by decide +kernel
theorem rX12_in : (∀ (d : Nat) (a1 a2 : Value) (x : Int32) (st : List Value) (h : fk_H), fk_ev d qX12_in 0 [.int x, a1, a2] st h = fk_ev d qX12_in 1 [.int x, a1, a2] (.int x :: st) h) ∧
  (∀ (d : Nat) (a0 a2 : Value) (x : Int32) (st : List Value) (h : fk_H), fk_ev d qX12_in 1 [a0, .int x, a2] st h = fk_ev d qX12_in 2 [a0, .int x, a2] (.int x :: st) h) ∧
  (∀ (d : Nat) (L : List Value) (x y : Int32) (st : List Value) (h : fk_H), fk_ev d qX12_in 2 L (.int y :: .int x :: st) h = if x < y then fk_ev d qX12_in 14 L st h else fk_ev d qX12_in 5 L st h) ∧
  (∀ (d : Nat) (a1 a2 : Value) (x : Int32) (st : List Value) (h : fk_H), fk_ev d qX12_in 5 [.int x, a1, a2] st h = fk_ev d qX12_in 6 [.int x, a1, a2] (.int x :: st) h) ∧
  (∀ (d : Nat) (a0 a1 : Value) (x : Int32) (st : List Value) (h : fk_H), fk_ev d qX12_in 6 [a0, a1, .int x] st h = fk_ev d qX12_in 7 [a0, a1, .int x] (.int x :: st) h) ∧
  (∀ (d : Nat) (L : List Value) (x y : Int32) (st : List Value) (h : fk_H), fk_ev d qX12_in 7 L (.int y :: .int x :: st) h = if y < x then fk_ev d qX12_in 14 L st h else fk_ev d qX12_in 10 L st h) ∧
  (∀ (d : Nat) (L st : List Value) (h : fk_H), fk_ev d qX12_in 10 L st h = fk_ev d qX12_in 11 L (.int (nI 1) :: st) h) ∧
  (∀ (d : Nat) (L st : List Value) (h : fk_H), fk_ev d qX12_in 11 L st h = fk_ev d qX12_in 15 L st h) ∧
  (∀ (d : Nat) (L st : List Value) (h : fk_H), fk_ev d qX12_in 14 L st h = fk_ev d qX12_in 15 L (.int (nI 0) :: st) h) ∧
  (∀ (d : Nat) (L : List Value) (h : fk_H), fk_ev d qX12_in 15 L [.int (nI 0)] h = some (some (.int (nI 0)), h)) ∧
  (∀ (d : Nat) (L : List Value) (h : fk_H), fk_ev d qX12_in 15 L [.int (nI 1)] h = some (some (.int (nI 1)), h)) ∧
  (∀ (d : Nat) (L : List Value) (p : Prop) [Decidable p] (h : fk_H), fk_ev d qX12_in 15 L [.int (fk_b p)] h = some (some (.int (fk_b p)), h)) ∧
  (∀ (d : Nat) (L : List Value) (x : Int32) (h : fk_H), (x = nI 0 ∨ x = nI 1) → fk_ev d qX12_in 15 L [.int x] h = some (some (.int x), h)) := ⟨fun d a1 a2 x st h => fk_w_iloadn 0 [.int x, a1, a2] dX12_in_0 rfl,
  fun d a0 a2 x st h => fk_w_iloadn 1 [a0, .int x, a2] dX12_in_1 rfl,
  fun d L x y st h => fk_r_icmp_lt dX12_in_2 (by decide),
  fun d a1 a2 x st h => fk_w_iloadn 0 [.int x, a1, a2] dX12_in_5 rfl,
  fun d a0 a1 x st h => fk_w_iloadn 2 [a0, a1, .int x] dX12_in_6 rfl,
  fun d L x y st h => fk_r_icmp_gt dX12_in_7 (by decide),
  fun d L st h => fk_w_iconst dX12_in_10 (by decide),
  fun d L st h => fk_r_goto dX12_in_11 (by decide),
  fun d L st h => fk_w_iconst dX12_in_14 (by decide),
  fun d L h => fk_r_ret dX12_in_15 (Or.inr (Or.inl ⟨rfl, by decide⟩)),
  fun d L h => fk_r_ret dX12_in_15 (Or.inr (Or.inl ⟨rfl, by decide⟩)),
  fun d L p _ h => fk_r_ret dX12_in_15 (Or.inr (Or.inl ⟨rfl, fk_b_01⟩)),
  fun d L x h hx => fk_r_ret dX12_in_15 (Or.inr (Or.inl ⟨rfl, hx⟩))⟩
theorem dX12_min_0 : decode cX12_min 0 = .ok (.iload_n 0, 1) := by decide +kernel
theorem dX12_min_1 : decode cX12_min 1 = .ok (.iload_n 1, 1) := by decide +kernel
theorem dX12_min_2 : decode cX12_min 2 = .ok (.if_icmp .ge 7, 3) := by decide +kernel
theorem dX12_min_5 : decode cX12_min 5 = .ok (.iload_n 0, 1) := by decide +kernel
theorem dX12_min_6 : decode cX12_min 6 = .ok (.goto 4, 3) := by decide +kernel
theorem dX12_min_9 : decode cX12_min 9 = .ok (.iload_n 1, 1) := by decide +kernel
theorem dX12_min_10 : decode cX12_min 10 = .ok (.ireturn, 1) := by decide +kernel
theorem rX12_min : (∀ (d : Nat) (a1 : Value) (x : Int32) (st : List Value) (h : fk_H), fk_ev d qX12_min 0 [.int x, a1] st h = fk_ev d qX12_min 1 [.int x, a1] (.int x :: st) h) ∧
  (∀ (d : Nat) (a0 : Value) (x : Int32) (st : List Value) (h : fk_H), fk_ev d qX12_min 1 [a0, .int x] st h = fk_ev d qX12_min 2 [a0, .int x] (.int x :: st) h) ∧
  (∀ (d : Nat) (L : List Value) (x y : Int32) (st : List Value) (h : fk_H), fk_ev d qX12_min 2 L (.int y :: .int x :: st) h = if y ≤ x then fk_ev d qX12_min 9 L st h else fk_ev d qX12_min 5 L st h) ∧
  (∀ (d : Nat) (a1 : Value) (x : Int32) (st : List Value) (h : fk_H), fk_ev d qX12_min 5 [.int x, a1] st h = fk_ev d qX12_min 6 [.int x, a1] (.int x :: st) h) ∧
  (∀ (d : Nat) (L st : List Value) (h : fk_H), fk_ev d qX12_min 6 L st h = fk_ev d qX12_min 10 L st h) ∧
  (∀ (d : Nat) (a0 : Value) (x : Int32) (st : List Value) (h : fk_H), fk_ev d qX12_min 9 [a0, .int x] st h = fk_ev d qX12_min 10 [a0, .int x] (.int x :: st) h) ∧
  (∀ (d : Nat) (L : List Value) (x : Int32) (h : fk_H), fk_ev d qX12_min 10 L [.int x] h = some (some (.int x), h)) := ⟨fun d a1 x st h => fk_w_iloadn 0 [.int x, a1] dX12_min_0 rfl,
  fun d a0 x st h => fk_w_iloadn 1 [a0, .int x] dX12_min_1 rfl,
  fun d L x y st h => fk_r_icmp_ge dX12_min_2 (by decide),
  fun d a1 x st h => fk_w_iloadn 0 [.int x, a1] dX12_min_5 rfl,
  fun d L st h => fk_r_goto dX12_min_6 (by decide),
  fun d a0 x st h => fk_w_iloadn 1 [a0, .int x] dX12_min_9 rfl,
  fun d L x h => fk_r_ret dX12_min_10 (Or.inl rfl)⟩
theorem dX12_max_0 : decode cX12_max 0 = .ok (.iload_n 0, 1) := by decide +kernel
theorem dX12_max_1 : decode cX12_max 1 = .ok (.iload_n 1, 1) := by decide +kernel
theorem dX12_max_2 : decode cX12_max 2 = .ok (.if_icmp .le 7, 3) := by decide +kernel
theorem dX12_max_5 : decode cX12_max 5 = .ok (.iload_n 0, 1) := by decide +kernel
theorem dX12_max_6 : decode cX12_max 6 = .ok (.goto 4, 3) := by decide +kernel
theorem dX12_max_9 : decode cX12_max 9 = .ok (.iload_n 1, 1) := by decide +kernel
theorem dX12_max_10 : decode cX12_max 10 = .ok (.ireturn, 1) := by decide +kernel
theorem rX12_max : (∀ (d : Nat) (a1 : Value) (x : Int32) (st : List Value) (h : fk_H), fk_ev d qX12_max 0 [.int x, a1] st h = fk_ev d qX12_max 1 [.int x, a1] (.int x :: st) h) ∧
  (∀ (d : Nat) (a0 : Value) (x : Int32) (st : List Value) (h : fk_H), fk_ev d qX12_max 1 [a0, .int x] st h = fk_ev d qX12_max 2 [a0, .int x] (.int x :: st) h) ∧
  (∀ (d : Nat) (L : List Value) (x y : Int32) (st : List Value) (h : fk_H), fk_ev d qX12_max 2 L (.int y :: .int x :: st) h = if x ≤ y then fk_ev d qX12_max 9 L st h else fk_ev d qX12_max 5 L st h) ∧
  (∀ (d : Nat) (a1 : Value) (x : Int32) (st : List Value) (h : fk_H), fk_ev d qX12_max 5 [.int x, a1] st h = fk_ev d qX12_max 6 [.int x, a1] (.int x :: st) h) ∧
  (∀ (d : Nat) (L st : List Value) (h : fk_H), fk_ev d qX12_max 6 L st h = fk_ev d qX12_max 10 L st h) ∧
  (∀ (d : Nat) (a0 : Value) (x : Int32) (st : List Value) (h : fk_H), fk_ev d qX12_max 9 [a0, .int x] st h = fk_ev d qX12_max 10 [a0, .int x] (.int x :: st) h) ∧
  (∀ (d : Nat) (L : List Value) (x : Int32) (h : fk_H), fk_ev d qX12_max 10 L [.int x] h = some (some (.int x), h)) := ⟨fun d a1 x st h => fk_w_iloadn 0 [.int x, a1] dX12_max_0 rfl,
  fun d a0 x st h => fk_w_iloadn 1 [a0, .int x] dX12_max_1 rfl,
  fun d L x y st h => fk_r_icmp_le dX12_max_2 (by decide),
  fun d a1 x st h => fk_w_iloadn 0 [.int x, a1] dX12_max_5 rfl,
  fun d L st h => fk_r_goto dX12_max_6 (by decide),
  fun d a0 x st h => fk_w_iloadn 1 [a0, .int x] dX12_max_9 rfl,
  fun d L x h => fk_r_ret dX12_max_10 (Or.inl rfl)⟩
theorem dX12_has_0 : decode cX12_has 0 = .ok (.iload_n 0, 1) := by decide +kernel
theorem dX12_has_1 : decode cX12_has 1 = .ok (.iload_n 1, 1) := by decide +kernel
theorem dX12_has_2 : decode cX12_has 2 = .ok (.ishr, 1) := by decide +kernel
theorem dX12_has_3 : decode cX12_has 3 = .ok (.iconst 1, 1) := by decide +kernel
theorem dX12_has_4 : decode cX12_has 4 = .ok (.iand, 1) := by decide +kernel
theorem dX12_has_5 : decode cX12_has 5 = .ok (.iconst 1, 1) := by decide +kernel
theorem dX12_has_6 : decode cX12_has 6 = .ok (.if_icmp .ne 7, 3) := by decide +kernel
theorem dX12_has_9 : decode cX12_has 9 = .ok (.iconst 1, 1) := by decide +kernel
theorem dX12_has_10 : decode cX12_has 10 = .ok (.goto 4, 3) := by decide +kernel
theorem dX12_has_13 : decode cX12_has 13 = .ok (.iconst 0, 1) := by decide +kernel
theorem dX12_has_14 : decode cX12_has 14 = .ok (.ireturn, 1) := by decide +kernel
theorem rX12_has : (∀ (d : Nat) (a1 : Value) (x : Int32) (st : List Value) (h : fk_H), fk_ev d qX12_has 0 [.int x, a1] st h = fk_ev d qX12_has 1 [.int x, a1] (.int x :: st) h) ∧
  (∀ (d : Nat) (a0 : Value) (x : Int32) (st : List Value) (h : fk_H), fk_ev d qX12_has 1 [a0, .int x] st h = fk_ev d qX12_has 2 [a0, .int x] (.int x :: st) h) ∧
  (∀ (d : Nat) (L : List Value) (x y : Int32) (st : List Value) (h : fk_H), fk_ev d qX12_has 2 L (.int y :: .int x :: st) h = fk_ev d qX12_has 3 L (.int (x >>> (y &&& 31)) :: st) h) ∧
  (∀ (d : Nat) (L st : List Value) (h : fk_H), fk_ev d qX12_has 3 L st h = fk_ev d qX12_has 4 L (.int (nI 1) :: st) h) ∧
  (∀ (d : Nat) (L : List Value) (x y : Int32) (st : List Value) (h : fk_H), fk_ev d qX12_has 4 L (.int y :: .int x :: st) h = fk_ev d qX12_has 5 L (.int (x &&& y) :: st) h) ∧
  (∀ (d : Nat) (L st : List Value) (h : fk_H), fk_ev d qX12_has 5 L st h = fk_ev d qX12_has 6 L (.int (nI 1) :: st) h) ∧
  (∀ (d : Nat) (L : List Value) (x y : Int32) (st : List Value) (h : fk_H), fk_ev d qX12_has 6 L (.int y :: .int x :: st) h = if ¬ x = y then fk_ev d qX12_has 13 L st h else fk_ev d qX12_has 9 L st h) ∧
  (∀ (d : Nat) (L st : List Value) (h : fk_H), fk_ev d qX12_has 9 L st h = fk_ev d qX12_has 10 L (.int (nI 1) :: st) h) ∧
  (∀ (d : Nat) (L st : List Value) (h : fk_H), fk_ev d qX12_has 10 L st h = fk_ev d qX12_has 14 L st h) ∧
  (∀ (d : Nat) (L st : List Value) (h : fk_H), fk_ev d qX12_has 13 L st h = fk_ev d qX12_has 14 L (.int (nI 0) :: st) h) ∧
  (∀ (d : Nat) (L : List Value) (h : fk_H), fk_ev d qX12_has 14 L [.int (nI 0)] h = some (some (.int (nI 0)), h)) ∧
  (∀ (d : Nat) (L : List Value) (h : fk_H), fk_ev d qX12_has 14 L [.int (nI 1)] h = some (some (.int (nI 1)), h)) ∧
  (∀ (d : Nat) (L : List Value) (p : Prop) [Decidable p] (h : fk_H), fk_ev d qX12_has 14 L [.int (fk_b p)] h = some (some (.int (fk_b p)), h)) ∧
  (∀ (d : Nat) (L : List Value) (x : Int32) (h : fk_H), (x = nI 0 ∨ x = nI 1) → fk_ev d qX12_has 14 L [.int x] h = some (some (.int x), h)) := ⟨fun d a1 x st h => fk_w_iloadn 0 [.int x, a1] dX12_has_0 rfl,
  fun d a0 x st h => fk_w_iloadn 1 [a0, .int x] dX12_has_1 rfl,
  fun d L x y st h => fk_r_ishr dX12_has_2,
  fun d L st h => fk_w_iconst dX12_has_3 (by decide),
  fun d L x y st h => fk_r_iand dX12_has_4,
  fun d L st h => fk_w_iconst dX12_has_5 (by decide),
  fun d L x y st h => fk_r_icmp_ne dX12_has_6 (by decide),
  fun d L st h => fk_w_iconst dX12_has_9 (by decide),
  fun d L st h => fk_r_goto dX12_has_10 (by decide),
  fun d L st h => fk_w_iconst dX12_has_13 (by decide),
  fun d L h => fk_r_ret dX12_has_14 (Or.inr (Or.inl ⟨rfl, by decide⟩)),
  fun d L h => fk_r_ret dX12_has_14 (Or.inr (Or.inl ⟨rfl, by decide⟩)),
  fun d L p _ h => fk_r_ret dX12_has_14 (Or.inr (Or.inl ⟨rfl, fk_b_01⟩)),
  fun d L x h hx => fk_r_ret dX12_has_14 (Or.inr (Or.inl ⟨rfl, hx⟩))⟩
theorem dX12_bits_0 : decode cX12_bits 0 = .ok (.iconst 0, 1) := by decide +kernel
theorem dX12_bits_1 : decode cX12_bits 1 = .ok (.istore_n 1, 1) := by decide +kernel
theorem dX12_bits_2 : decode cX12_bits 2 = .ok (.iconst 0, 1) := by decide +kernel
theorem dX12_bits_3 : decode cX12_bits 3 = .ok (.istore_n 2, 1) := by decide +kernel
theorem dX12_bits_4 : decode cX12_bits 4 = .ok (.iload_n 2, 1) := by decide +kernel
theorem dX12_bits_5 : decode cX12_bits 5 = .ok (.bipush 16, 2) := by decide +kernel
theorem dX12_bits_7 : decode cX12_bits 7 = .ok (.if_icmp .ge 17, 3) := by decide +kernel
theorem dX12_bits_10 : decode cX12_bits 10 = .ok (.iload_n 1, 1) := by decide +kernel
theorem dX12_bits_11 : decode cX12_bits 11 = .ok (.iload_n 0, 1) := by decide +kernel
theorem dX12_bits_12 : decode cX12_bits 12 = .ok (.iload_n 2, 1) := by decide +kernel
theorem dX12_bits_13 : decode cX12_bits 13 = .ok (.ishr, 1) := by decide +kernel
theorem dX12_bits_14 : decode cX12_bits 14 = .ok (.iconst 1, 1) := by decide +kernel
theorem dX12_bits_15 : decode cX12_bits 15 = .ok (.iand, 1) := by decide +kernel
theorem dX12_bits_16 : decode cX12_bits 16 = .ok (.iadd, 1) := by decide +kernel
theorem dX12_bits_17 : decode cX12_bits 17 = .ok (.istore_n 1, 1) := by decide +kernel
theorem dX12_bits_18 : decode cX12_bits 18 = .ok (.iinc 2 1, 3) := by decide +kernel
theorem dX12_bits_21 : decode cX12_bits 21 = .ok (.goto (-17), 3) := by decide +kernel
theorem dX12_bits_24 : decode cX12_bits 24 = .ok (.iload_n 1, 1) := by decide +kernel
theorem dX12_bits_25 : decode cX12_bits 25 = .ok (.ireturn, 1) := by decide +kernel
theorem rX12_bits : (∀ (d : Nat) (L st : List Value) (h : fk_H), fk_ev d qX12_bits 0 L st h = fk_ev d qX12_bits 1 L (.int (nI 0) :: st) h) ∧
  (∀ (d : Nat) (a0 a1 a2 : Value) (x : Int32) (st : List Value) (h : fk_H), fk_ev d qX12_bits 1 [a0, a1, a2] (.int x :: st) h = fk_ev d qX12_bits 2 [a0, .int x, a2] st h) ∧
  (∀ (d : Nat) (L st : List Value) (h : fk_H), fk_ev d qX12_bits 2 L st h = fk_ev d qX12_bits 3 L (.int (nI 0) :: st) h) ∧
  (∀ (d : Nat) (a0 a1 a2 : Value) (x : Int32) (st : List Value) (h : fk_H), fk_ev d qX12_bits 3 [a0, a1, a2] (.int x :: st) h = fk_ev d qX12_bits 4 [a0, a1, .int x] st h) ∧
  (∀ (d : Nat) (L st : List Value) (h : fk_H), fk_ev d qX12_bits 5 L st h = fk_ev d qX12_bits 7 L (.int (nI 16) :: st) h) ∧
  (∀ (d : Nat) (L : List Value) (x y : Int32) (st : List Value) (h : fk_H), fk_ev d qX12_bits 7 L (.int y :: .int x :: st) h = if y ≤ x then fk_ev d qX12_bits 24 L st h else fk_ev d qX12_bits 10 L st h) ∧
  (∀ (d : Nat) (a0 a2 : Value) (x : Int32) (st : List Value) (h : fk_H), fk_ev d qX12_bits 10 [a0, .int x, a2] st h = fk_ev d qX12_bits 11 [a0, .int x, a2] (.int x :: st) h) ∧
  (∀ (d : Nat) (a1 a2 : Value) (x : Int32) (st : List Value) (h : fk_H), fk_ev d qX12_bits 11 [.int x, a1, a2] st h = fk_ev d qX12_bits 12 [.int x, a1, a2] (.int x :: st) h) ∧
  (∀ (d : Nat) (a0 a1 : Value) (x : Int32) (st : List Value) (h : fk_H), fk_ev d qX12_bits 12 [a0, a1, .int x] st h = fk_ev d qX12_bits 13 [a0, a1, .int x] (.int x :: st) h) ∧
  (∀ (d : Nat) (L : List Value) (x y : Int32) (st : List Value) (h : fk_H), fk_ev d qX12_bits 13 L (.int y :: .int x :: st) h = fk_ev d qX12_bits 14 L (.int (x >>> (y &&& 31)) :: st) h) ∧
  (∀ (d : Nat) (L st : List Value) (h : fk_H), fk_ev d qX12_bits 14 L st h = fk_ev d qX12_bits 15 L (.int (nI 1) :: st) h) ∧
  (∀ (d : Nat) (L : List Value) (x y : Int32) (st : List Value) (h : fk_H), fk_ev d qX12_bits 15 L (.int y :: .int x :: st) h = fk_ev d qX12_bits 16 L (.int (x &&& y) :: st) h) ∧
  (∀ (d : Nat) (L : List Value) (x y : Int32) (st : List Value) (h : fk_H), fk_ev d qX12_bits 16 L (.int y :: .int x :: st) h = fk_ev d qX12_bits 17 L (.int (x + y) :: st) h) ∧
  (∀ (d : Nat) (a0 a1 a2 : Value) (x : Int32) (st : List Value) (h : fk_H), fk_ev d qX12_bits 17 [a0, a1, a2] (.int x :: st) h = fk_ev d qX12_bits 18 [a0, .int x, a2] st h) ∧
  (∀ (d : Nat) (a0 a1 : Value) (x : Int32) (st : List Value) (h : fk_H), fk_ev d qX12_bits 18 [a0, a1, .int x] st h = fk_ev d qX12_bits 21 [a0, a1, .int (x + nI 1)] st h) ∧
  (∀ (d : Nat) (L st : List Value) (h : fk_H), fk_ev d qX12_bits 21 L st h = fk_ev d qX12_bits 4 L st h) ∧
  (∀ (d : Nat) (a0 a2 : Value) (x : Int32) (st : List Value) (h : fk_H), fk_ev d qX12_bits 24 [a0, .int x, a2] st h = fk_ev d qX12_bits 25 [a0, .int x, a2] (.int x :: st) h) ∧
  (∀ (d : Nat) (L : List Value) (x : Int32) (h : fk_H), fk_ev d qX12_bits 25 L [.int x] h = some (some (.int x), h)) := ⟨fun d L st h => fk_w_iconst dX12_bits_0 (by decide),
  fun d a0 a1 a2 x st h => fk_w_istoren 1 3 [] [a0, a1, a2] [a0, .int x, a2] dX12_bits_1 rfl rfl (by decide) rfl,
  fun d L st h => fk_w_iconst dX12_bits_2 (by decide),
  fun d a0 a1 a2 x st h => fk_w_istoren 2 3 [] [a0, a1, a2] [a0, a1, .int x] dX12_bits_3 rfl rfl (by decide) rfl,
  fun d L st h => fk_w_bipush dX12_bits_5 (by decide),
  fun d L x y st h => fk_r_icmp_ge dX12_bits_7 (by decide),
  fun d a0 a2 x st h => fk_w_iloadn 1 [a0, .int x, a2] dX12_bits_10 rfl,
  fun d a1 a2 x st h => fk_w_iloadn 0 [.int x, a1, a2] dX12_bits_11 rfl,
  fun d a0 a1 x st h => fk_w_iloadn 2 [a0, a1, .int x] dX12_bits_12 rfl,
  fun d L x y st h => fk_r_ishr dX12_bits_13,
  fun d L st h => fk_w_iconst dX12_bits_14 (by decide),
  fun d L x y st h => fk_r_iand dX12_bits_15,
  fun d L x y st h => fk_r_iadd dX12_bits_16,
  fun d a0 a1 a2 x st h => fk_w_istoren 1 3 [] [a0, a1, a2] [a0, .int x, a2] dX12_bits_17 rfl rfl (by decide) rfl,
  fun d a0 a1 x st h => fk_w_iinc 2 3 (1) [] [a0, a1, .int x] [a0, a1, .int (x + nI 1)] dX12_bits_18 rfl rfl rfl (by decide) rfl,
  fun d L st h => fk_r_goto dX12_bits_21 (by decide),
  fun d a0 a2 x st h => fk_w_iloadn 1 [a0, .int x, a2] dX12_bits_24 rfl,
  fun d L x h => fk_r_ret dX12_bits_25 (Or.inl rfl)⟩
theorem hX12_bits_4 : ∀ (d : Nat) (a0 a1 : Value) (x : Int32) (st : List Value) (h : fk_H), fk_ev d qX12_bits 4 [a0, a1, .int x] st h = fk_ev d qX12_bits 5 [a0, a1, .int x] (.int x :: st) h := fun d a0 a1 x st h => fk_w_iloadn 2 [a0, a1, .int x] dX12_bits_4 rfl
theorem dX12_copies_0 : decode cX12_copies 0 = .ok (.iconst 0, 1) := by decide +kernel
theorem dX12_copies_1 : decode cX12_copies 1 = .ok (.istore_n 2, 1) := by decide +kernel
theorem dX12_copies_2 : decode cX12_copies 2 = .ok (.iload_n 2, 1) := by decide +kernel
theorem dX12_copies_3 : decode cX12_copies 3 = .ok (.sipush 3912, 3) := by decide +kernel
theorem dX12_copies_6 : decode cX12_copies 6 = .ok (.if_icmp .ge 15, 3) := by decide +kernel
theorem dX12_copies_9 : decode cX12_copies 9 = .ok (.aload_n 1, 1) := by decide +kernel
theorem dX12_copies_10 : decode cX12_copies 10 = .ok (.iload_n 2, 1) := by decide +kernel
theorem dX12_copies_11 : decode cX12_copies 11 = .ok (.aload_n 0, 1) := by decide +kernel
theorem dX12_copies_12 : decode cX12_copies 12 = .ok (.iload_n 2, 1) := by decide +kernel
theorem dX12_copies_13 : decode cX12_copies 13 = .ok (.iaload, 1) := by decide +kernel
theorem dX12_copies_14 : decode cX12_copies 14 = .ok (.iastore, 1) := by decide +kernel
theorem dX12_copies_15 : decode cX12_copies 15 = .ok (.iinc 2 1, 3) := by decide +kernel
theorem dX12_copies_18 : decode cX12_copies 18 = .ok (.goto (-16), 3) := by decide +kernel
theorem dX12_copies_21 : decode cX12_copies 21 = .ok (.return_, 1) := by decide +kernel
theorem rX12_copies : (∀ (d : Nat) (L st : List Value) (h : fk_H), fk_ev d qX12_copies 0 L st h = fk_ev d qX12_copies 1 L (.int (nI 0) :: st) h) ∧
  (∀ (d : Nat) (a0 a1 a2 : Value) (x : Int32) (st : List Value) (h : fk_H), fk_ev d qX12_copies 1 [a0, a1, a2] (.int x :: st) h = fk_ev d qX12_copies 2 [a0, a1, .int x] st h) ∧
  (∀ (d : Nat) (L st : List Value) (h : fk_H), fk_ev d qX12_copies 3 L st h = fk_ev d qX12_copies 6 L (.int (nI 3912) :: st) h) ∧
  (∀ (d : Nat) (L : List Value) (x y : Int32) (st : List Value) (h : fk_H), fk_ev d qX12_copies 6 L (.int y :: .int x :: st) h = if y ≤ x then fk_ev d qX12_copies 21 L st h else fk_ev d qX12_copies 9 L st h) ∧
  (∀ (d : Nat) (a0 a2 : Value) (x : Nat) (st : List Value) (h : fk_H), fk_ev d qX12_copies 9 [a0, .ref x, a2] st h = fk_ev d qX12_copies 10 [a0, .ref x, a2] (.ref x :: st) h) ∧
  (∀ (d : Nat) (a0 a1 : Value) (x : Int32) (st : List Value) (h : fk_H), fk_ev d qX12_copies 10 [a0, a1, .int x] st h = fk_ev d qX12_copies 11 [a0, a1, .int x] (.int x :: st) h) ∧
  (∀ (d : Nat) (a1 a2 : Value) (x : Nat) (st : List Value) (h : fk_H), fk_ev d qX12_copies 11 [.ref x, a1, a2] st h = fk_ev d qX12_copies 12 [.ref x, a1, a2] (.ref x :: st) h) ∧
  (∀ (d : Nat) (a0 a1 : Value) (x : Int32) (st : List Value) (h : fk_H), fk_ev d qX12_copies 12 [a0, a1, .int x] st h = fk_ev d qX12_copies 13 [a0, a1, .int x] (.int x :: st) h) ∧
  (∀ (d : Nat) (L st : List Value) (N : Nat) (y : Nat → Nat → Int32) (l : Nat → Nat → Int64) (c i : Nat), fk_at c 20 → i < (fk_shp c).2 → (fk_shp c).2 < 2 ^ 31 → fk_ev d qX12_copies 13 L (.int (nI i) :: .ref c :: st) (fk_E N y l) = fk_ev d qX12_copies 14 L (.int (y c i) :: st) (fk_E N y l)) ∧
  (∀ (d : Nat) (L st : List Value) (N : Nat) (y : Nat → Nat → Int32) (l : Nat → Nat → Int64) (c i : Nat) (v : Int32), fk_at c 20 → i < (fk_shp c).2 → (fk_shp c).2 < 2 ^ 31 → fk_ev d qX12_copies 14 L (.int v :: .int (nI i) :: .ref c :: st) (fk_E N y l) = fk_ev d qX12_copies 15 L st (fk_E N (fk_u y c i v) l)) ∧
  (∀ (d : Nat) (a0 a1 : Value) (x : Int32) (st : List Value) (h : fk_H), fk_ev d qX12_copies 15 [a0, a1, .int x] st h = fk_ev d qX12_copies 18 [a0, a1, .int (x + nI 1)] st h) ∧
  (∀ (d : Nat) (L st : List Value) (h : fk_H), fk_ev d qX12_copies 18 L st h = fk_ev d qX12_copies 2 L st h) ∧
  (∀ (d : Nat) (L : List Value) (h : fk_H), fk_ev d qX12_copies 21 L [] h = some (none, h)) := ⟨fun d L st h => fk_w_iconst dX12_copies_0 (by decide),
  fun d a0 a1 a2 x st h => fk_w_istoren 2 3 [] [a0, a1, a2] [a0, a1, .int x] dX12_copies_1 rfl rfl (by decide) rfl,
  fun d L st h => fk_w_sipush dX12_copies_3 (by decide),
  fun d L x y st h => fk_r_icmp_ge dX12_copies_6 (by decide),
  fun d a0 a2 x st h => fk_w_aloadn 1 [a0, .ref x, a2] dX12_copies_9 rfl,
  fun d a0 a1 x st h => fk_w_iloadn 2 [a0, a1, .int x] dX12_copies_10 rfl,
  fun d a1 a2 x st h => fk_w_aloadn 0 [.ref x, a1, a2] dX12_copies_11 rfl,
  fun d a0 a1 x st h => fk_w_iloadn 2 [a0, a1, .int x] dX12_copies_12 rfl,
  fun d L st N y l c i hc hi hl => fk_h_iald dX12_copies_13 hc hi hl,
  fun d L st N y l c i v hc hi hl => fk_h_iast dX12_copies_14 hc hi hl,
  fun d a0 a1 x st h => fk_w_iinc 2 3 (1) [] [a0, a1, .int x] [a0, a1, .int (x + nI 1)] dX12_copies_15 rfl rfl rfl (by decide) rfl,
  fun d L st h => fk_r_goto dX12_copies_18 (by decide),
  fun d L h => fk_r_vret dX12_copies_21 rfl⟩
theorem hX12_copies_2 : ∀ (d : Nat) (a0 a1 : Value) (x : Int32) (st : List Value) (h : fk_H), fk_ev d qX12_copies 2 [a0, a1, .int x] st h = fk_ev d qX12_copies 3 [a0, a1, .int x] (.int x :: st) h := fun d a0 a1 x st h => fk_w_iloadn 2 [a0, a1, .int x] dX12_copies_2 rfl
theorem dX12_begins_0 : decode cX12_begins 0 = .ok (.aload_n 0, 1) := by decide +kernel
theorem dX12_begins_1 : decode cX12_begins 1 = .ok (.getfield 7, 3) := by decide +kernel
theorem dX12_begins_4 : decode cX12_begins 4 = .ok (.aload_n 0, 1) := by decide +kernel
theorem dX12_begins_5 : decode cX12_begins 5 = .ok (.getfield 13, 3) := by decide +kernel
theorem dX12_begins_8 : decode cX12_begins 8 = .ok (.invokestatic 101, 3) := by decide +kernel
theorem dX12_begins_11 : decode cX12_begins 11 = .ok (.return_, 1) := by decide +kernel
theorem rX12_begins : (∀ (d : Nat) (x : Nat) (st : List Value) (h : fk_H), fk_ev d qX12_begins 0 [.ref x] st h = fk_ev d qX12_begins 1 [.ref x] (.ref x :: st) h) ∧
  (∀ (d : Nat) (L st : List Value) (N : Nat) (y : Nat → Nat → Int32) (l : Nat → Nat → Int64), fk_ev d qX12_begins 1 L (.ref 246 :: st) (fk_E N y l) = fk_ev d qX12_begins 4 L (.ref 247 :: st) (fk_E N y l)) ∧
  (∀ (d : Nat) (x : Nat) (st : List Value) (h : fk_H), fk_ev d qX12_begins 4 [.ref x] st h = fk_ev d qX12_begins 5 [.ref x] (.ref x :: st) h) ∧
  (∀ (d : Nat) (L st : List Value) (N : Nat) (y : Nat → Nat → Int32) (l : Nat → Nat → Int64), fk_ev d qX12_begins 5 L (.ref 246 :: st) (fk_E N y l) = fk_ev d qX12_begins 8 L (.ref 248 :: st) (fk_E N y l)) ∧
  (∀ (d : Nat) (L : List Value) (x0 : Nat) (x1 : Nat)  (h : fk_H), fk_ev (d + 1) qX12_begins 8 L (.ref x1 :: .ref x0 :: []) h = (fk_ev d qX12_copies 0 [.ref x0, .ref x1, .null] [] h).bind fun o => fk_ev (d + 1) qX12_begins 11 L (o.1.toList ++ []) o.2) ∧
  (∀ (d : Nat) (L : List Value) (h : fk_H), fk_ev d qX12_begins 11 L [] h = some (none, h)) := ⟨fun d  x st h => fk_w_aloadn 0 [.ref x] dX12_begins_0 rfl,
  fun d L st N y l => fk_g_getC rfl lf_12_7 (by decide) rfl dX12_begins_1 fk_at_246,
  fun d  x st h => fk_w_aloadn 0 [.ref x] dX12_begins_4 rfl,
  fun d L st N y l => fk_g_getC rfl lf_12_13 (by decide) rfl dX12_begins_5 fk_at_246,
  fun d L x0 x1 h => fk_g_calls [.ref x0, .ref x1] [] rfl lm_12_101 dX12_begins_8 rfl ⟨rfl, by decide⟩ (by simp),
  fun d L h => fk_r_vret dX12_begins_11 rfl⟩
theorem dX12_again_0 : decode cX12_again 0 = .ok (.aload_n 0, 1) := by decide +kernel
theorem dX12_again_1 : decode cX12_again 1 = .ok (.getfield 13, 3) := by decide +kernel
theorem dX12_again_4 : decode cX12_again 4 = .ok (.aload_n 0, 1) := by decide +kernel
theorem dX12_again_5 : decode cX12_again 5 = .ok (.getfield 7, 3) := by decide +kernel
theorem dX12_again_8 : decode cX12_again 8 = .ok (.invokestatic 101, 3) := by decide +kernel
theorem dX12_again_11 : decode cX12_again 11 = .ok (.return_, 1) := by decide +kernel
theorem rX12_again : (∀ (d : Nat) (x : Nat) (st : List Value) (h : fk_H), fk_ev d qX12_again 0 [.ref x] st h = fk_ev d qX12_again 1 [.ref x] (.ref x :: st) h) ∧
  (∀ (d : Nat) (L st : List Value) (N : Nat) (y : Nat → Nat → Int32) (l : Nat → Nat → Int64), fk_ev d qX12_again 1 L (.ref 246 :: st) (fk_E N y l) = fk_ev d qX12_again 4 L (.ref 248 :: st) (fk_E N y l)) ∧
  (∀ (d : Nat) (x : Nat) (st : List Value) (h : fk_H), fk_ev d qX12_again 4 [.ref x] st h = fk_ev d qX12_again 5 [.ref x] (.ref x :: st) h) ∧
  (∀ (d : Nat) (L st : List Value) (N : Nat) (y : Nat → Nat → Int32) (l : Nat → Nat → Int64), fk_ev d qX12_again 5 L (.ref 246 :: st) (fk_E N y l) = fk_ev d qX12_again 8 L (.ref 247 :: st) (fk_E N y l)) ∧
  (∀ (d : Nat) (L : List Value) (x0 : Nat) (x1 : Nat)  (h : fk_H), fk_ev (d + 1) qX12_again 8 L (.ref x1 :: .ref x0 :: []) h = (fk_ev d qX12_copies 0 [.ref x0, .ref x1, .null] [] h).bind fun o => fk_ev (d + 1) qX12_again 11 L (o.1.toList ++ []) o.2) ∧
  (∀ (d : Nat) (L : List Value) (h : fk_H), fk_ev d qX12_again 11 L [] h = some (none, h)) := ⟨fun d  x st h => fk_w_aloadn 0 [.ref x] dX12_again_0 rfl,
  fun d L st N y l => fk_g_getC rfl lf_12_13 (by decide) rfl dX12_again_1 fk_at_246,
  fun d  x st h => fk_w_aloadn 0 [.ref x] dX12_again_4 rfl,
  fun d L st N y l => fk_g_getC rfl lf_12_7 (by decide) rfl dX12_again_5 fk_at_246,
  fun d L x0 x1 h => fk_g_calls [.ref x0, .ref x1] [] rfl lm_12_101 dX12_again_8 rfl ⟨rfl, by decide⟩ (by simp),
  fun d L h => fk_r_vret dX12_again_11 rfl⟩
theorem dX12_isPlace_0 : decode cX12_isPlace 0 = .ok (.iload_n 0, 1) := by decide +kernel
theorem dX12_isPlace_1 : decode cX12_isPlace 1 = .ok (.ifCond .lt 13, 3) := by decide +kernel
theorem dX12_isPlace_4 : decode cX12_isPlace 4 = .ok (.iload_n 0, 1) := by decide +kernel
theorem dX12_isPlace_5 : decode cX12_isPlace 5 = .ok (.bipush 16, 2) := by decide +kernel
theorem dX12_isPlace_7 : decode cX12_isPlace 7 = .ok (.if_icmp .ge 7, 3) := by decide +kernel
theorem dX12_isPlace_10 : decode cX12_isPlace 10 = .ok (.iconst 1, 1) := by decide +kernel
theorem dX12_isPlace_11 : decode cX12_isPlace 11 = .ok (.goto 4, 3) := by decide +kernel
theorem dX12_isPlace_14 : decode cX12_isPlace 14 = .ok (.iconst 0, 1) := by decide +kernel
theorem dX12_isPlace_15 : decode cX12_isPlace 15 = .ok (.ireturn, 1) := by decide +kernel
theorem rX12_isPlace : (∀ (d : Nat) (x : Int32) (st : List Value) (h : fk_H), fk_ev d qX12_isPlace 0 [.int x] st h = fk_ev d qX12_isPlace 1 [.int x] (.int x :: st) h) ∧
  (∀ (d : Nat) (L : List Value) (x : Int32) (st : List Value) (h : fk_H), fk_ev d qX12_isPlace 1 L (.int x :: st) h = if x < nI 0 then fk_ev d qX12_isPlace 14 L st h else fk_ev d qX12_isPlace 4 L st h) ∧
  (∀ (d : Nat) (x : Int32) (st : List Value) (h : fk_H), fk_ev d qX12_isPlace 4 [.int x] st h = fk_ev d qX12_isPlace 5 [.int x] (.int x :: st) h) ∧
  (∀ (d : Nat) (L st : List Value) (h : fk_H), fk_ev d qX12_isPlace 5 L st h = fk_ev d qX12_isPlace 7 L (.int (nI 16) :: st) h) ∧
  (∀ (d : Nat) (L : List Value) (x y : Int32) (st : List Value) (h : fk_H), fk_ev d qX12_isPlace 7 L (.int y :: .int x :: st) h = if y ≤ x then fk_ev d qX12_isPlace 14 L st h else fk_ev d qX12_isPlace 10 L st h) ∧
  (∀ (d : Nat) (L st : List Value) (h : fk_H), fk_ev d qX12_isPlace 10 L st h = fk_ev d qX12_isPlace 11 L (.int (nI 1) :: st) h) ∧
  (∀ (d : Nat) (L st : List Value) (h : fk_H), fk_ev d qX12_isPlace 11 L st h = fk_ev d qX12_isPlace 15 L st h) ∧
  (∀ (d : Nat) (L st : List Value) (h : fk_H), fk_ev d qX12_isPlace 14 L st h = fk_ev d qX12_isPlace 15 L (.int (nI 0) :: st) h) ∧
  (∀ (d : Nat) (L : List Value) (h : fk_H), fk_ev d qX12_isPlace 15 L [.int (nI 0)] h = some (some (.int (nI 0)), h)) ∧
  (∀ (d : Nat) (L : List Value) (h : fk_H), fk_ev d qX12_isPlace 15 L [.int (nI 1)] h = some (some (.int (nI 1)), h)) ∧
  (∀ (d : Nat) (L : List Value) (p : Prop) [Decidable p] (h : fk_H), fk_ev d qX12_isPlace 15 L [.int (fk_b p)] h = some (some (.int (fk_b p)), h)) ∧
  (∀ (d : Nat) (L : List Value) (x : Int32) (h : fk_H), (x = nI 0 ∨ x = nI 1) → fk_ev d qX12_isPlace 15 L [.int x] h = some (some (.int x), h)) := ⟨fun d  x st h => fk_w_iloadn 0 [.int x] dX12_isPlace_0 rfl,
  fun d L x st h => fk_r_if_lt dX12_isPlace_1 (by decide),
  fun d  x st h => fk_w_iloadn 0 [.int x] dX12_isPlace_4 rfl,
  fun d L st h => fk_w_bipush dX12_isPlace_5 (by decide),
  fun d L x y st h => fk_r_icmp_ge dX12_isPlace_7 (by decide),
  fun d L st h => fk_w_iconst dX12_isPlace_10 (by decide),
  fun d L st h => fk_r_goto dX12_isPlace_11 (by decide),
  fun d L st h => fk_w_iconst dX12_isPlace_14 (by decide),
  fun d L h => fk_r_ret dX12_isPlace_15 (Or.inr (Or.inl ⟨rfl, by decide⟩)),
  fun d L h => fk_r_ret dX12_isPlace_15 (Or.inr (Or.inl ⟨rfl, by decide⟩)),
  fun d L p _ h => fk_r_ret dX12_isPlace_15 (Or.inr (Or.inl ⟨rfl, fk_b_01⟩)),
  fun d L x h hx => fk_r_ret dX12_isPlace_15 (Or.inr (Or.inl ⟨rfl, hx⟩))⟩
theorem dX12_isRoad_0 : decode cX12_isRoad 0 = .ok (.iload_n 1, 1) := by decide +kernel
theorem dX12_isRoad_1 : decode cX12_isRoad 1 = .ok (.ifCond .lt 24, 3) := by decide +kernel
theorem dX12_isRoad_4 : decode cX12_isRoad 4 = .ok (.iload_n 1, 1) := by decide +kernel
theorem dX12_isRoad_5 : decode cX12_isRoad 5 = .ok (.bipush 32, 2) := by decide +kernel
theorem dX12_isRoad_7 : decode cX12_isRoad 7 = .ok (.if_icmp .ge 18, 3) := by decide +kernel
theorem dX12_isRoad_10 : decode cX12_isRoad 10 = .ok (.aload_n 0, 1) := by decide +kernel
theorem dX12_isRoad_11 : decode cX12_isRoad 11 = .ok (.getfield 105, 3) := by decide +kernel
theorem dX12_isRoad_14 : decode cX12_isRoad 14 = .ok (.iload_n 1, 1) := by decide +kernel
theorem dX12_isRoad_15 : decode cX12_isRoad 15 = .ok (.invokestatic 108, 3) := by decide +kernel
theorem dX12_isRoad_18 : decode cX12_isRoad 18 = .ok (.ifCond .eq 7, 3) := by decide +kernel
theorem dX12_isRoad_21 : decode cX12_isRoad 21 = .ok (.iconst 1, 1) := by decide +kernel
theorem dX12_isRoad_22 : decode cX12_isRoad 22 = .ok (.goto 4, 3) := by decide +kernel
theorem dX12_isRoad_25 : decode cX12_isRoad 25 = .ok (.iconst 0, 1) := by decide +kernel
theorem dX12_isRoad_26 : decode cX12_isRoad 26 = .ok (.ireturn, 1) := by decide +kernel
theorem rX12_isRoad : (∀ (d : Nat) (a0 : Value) (x : Int32) (st : List Value) (h : fk_H), fk_ev d qX12_isRoad 0 [a0, .int x] st h = fk_ev d qX12_isRoad 1 [a0, .int x] (.int x :: st) h) ∧
  (∀ (d : Nat) (L : List Value) (x : Int32) (st : List Value) (h : fk_H), fk_ev d qX12_isRoad 1 L (.int x :: st) h = if x < nI 0 then fk_ev d qX12_isRoad 25 L st h else fk_ev d qX12_isRoad 4 L st h) ∧
  (∀ (d : Nat) (a0 : Value) (x : Int32) (st : List Value) (h : fk_H), fk_ev d qX12_isRoad 4 [a0, .int x] st h = fk_ev d qX12_isRoad 5 [a0, .int x] (.int x :: st) h) ∧
  (∀ (d : Nat) (L st : List Value) (h : fk_H), fk_ev d qX12_isRoad 5 L st h = fk_ev d qX12_isRoad 7 L (.int (nI 32) :: st) h) ∧
  (∀ (d : Nat) (L : List Value) (x y : Int32) (st : List Value) (h : fk_H), fk_ev d qX12_isRoad 7 L (.int y :: .int x :: st) h = if y ≤ x then fk_ev d qX12_isRoad 25 L st h else fk_ev d qX12_isRoad 10 L st h) ∧
  (∀ (d : Nat) (a1 : Value) (x : Nat) (st : List Value) (h : fk_H), fk_ev d qX12_isRoad 10 [.ref x, a1] st h = fk_ev d qX12_isRoad 11 [.ref x, a1] (.ref x :: st) h) ∧
  (∀ (d : Nat) (L st : List Value) (N : Nat) (y : Nat → Nat → Int32) (l : Nat → Nat → Int64), fk_ev d qX12_isRoad 11 L (.ref 246 :: st) (fk_E N y l) = fk_ev d qX12_isRoad 14 L (.int (y 246 3) :: st) (fk_E N y l)) ∧
  (∀ (d : Nat) (a0 : Value) (x : Int32) (st : List Value) (h : fk_H), fk_ev d qX12_isRoad 14 [a0, .int x] st h = fk_ev d qX12_isRoad 15 [a0, .int x] (.int x :: st) h) ∧
  (∀ (d : Nat) (L : List Value) (x0 : Int32) (x1 : Int32)  (h : fk_H), fk_ev (d + 1) qX12_isRoad 15 L (.int x1 :: .int x0 :: []) h = (fk_ev d qX12_has 0 [.int x0, .int x1] [] h).bind fun o => fk_ev (d + 1) qX12_isRoad 18 L (o.1.toList ++ []) o.2) ∧
  (∀ (d : Nat) (L : List Value) (x : Int32) (st : List Value) (h : fk_H), fk_ev d qX12_isRoad 18 L (.int x :: st) h = if x = nI 0 then fk_ev d qX12_isRoad 25 L st h else fk_ev d qX12_isRoad 21 L st h) ∧
  (∀ (d : Nat) (L st : List Value) (h : fk_H), fk_ev d qX12_isRoad 21 L st h = fk_ev d qX12_isRoad 22 L (.int (nI 1) :: st) h) ∧
  (∀ (d : Nat) (L st : List Value) (h : fk_H), fk_ev d qX12_isRoad 22 L st h = fk_ev d qX12_isRoad 26 L st h) ∧
  (∀ (d : Nat) (L st : List Value) (h : fk_H), fk_ev d qX12_isRoad 25 L st h = fk_ev d qX12_isRoad 26 L (.int (nI 0) :: st) h) ∧
  (∀ (d : Nat) (L : List Value) (h : fk_H), fk_ev d qX12_isRoad 26 L [.int (nI 0)] h = some (some (.int (nI 0)), h)) ∧
  (∀ (d : Nat) (L : List Value) (h : fk_H), fk_ev d qX12_isRoad 26 L [.int (nI 1)] h = some (some (.int (nI 1)), h)) ∧
  (∀ (d : Nat) (L : List Value) (p : Prop) [Decidable p] (h : fk_H), fk_ev d qX12_isRoad 26 L [.int (fk_b p)] h = some (some (.int (fk_b p)), h)) ∧
  (∀ (d : Nat) (L : List Value) (x : Int32) (h : fk_H), (x = nI 0 ∨ x = nI 1) → fk_ev d qX12_isRoad 26 L [.int x] h = some (some (.int x), h)) := ⟨fun d a0 x st h => fk_w_iloadn 1 [a0, .int x] dX12_isRoad_0 rfl,
  fun d L x st h => fk_r_if_lt dX12_isRoad_1 (by decide),
  fun d a0 x st h => fk_w_iloadn 1 [a0, .int x] dX12_isRoad_4 rfl,
  fun d L st h => fk_w_bipush dX12_isRoad_5 (by decide),
  fun d L x y st h => fk_r_icmp_ge dX12_isRoad_7 (by decide),
  fun d a1 x st h => fk_w_aloadn 0 [.ref x, a1] dX12_isRoad_10 rfl,
  fun d L st N y l => fk_g_getI rfl lf_12_105 (by decide) dX12_isRoad_11 fk_at_246,
  fun d a0 x st h => fk_w_iloadn 1 [a0, .int x] dX12_isRoad_14 rfl,
  fun d L x0 x1 h => fk_g_calls [.int x0, .int x1] [] rfl lm_12_108 dX12_isRoad_15 rfl ⟨rfl, by decide⟩ (by simp),
  fun d L x st h => fk_r_if_eq dX12_isRoad_18 (by decide),
  fun d L st h => fk_w_iconst dX12_isRoad_21 (by decide),
  fun d L st h => fk_r_goto dX12_isRoad_22 (by decide),
  fun d L st h => fk_w_iconst dX12_isRoad_25 (by decide),
  fun d L h => fk_r_ret dX12_isRoad_26 (Or.inr (Or.inl ⟨rfl, by decide⟩)),
  fun d L h => fk_r_ret dX12_isRoad_26 (Or.inr (Or.inl ⟨rfl, by decide⟩)),
  fun d L p _ h => fk_r_ret dX12_isRoad_26 (Or.inr (Or.inl ⟨rfl, fk_b_01⟩)),
  fun d L x h hx => fk_r_ret dX12_isRoad_26 (Or.inr (Or.inl ⟨rfl, hx⟩))⟩
theorem dX12_isOne_0 : decode cX12_isOne 0 = .ok (.iload_n 0, 1) := by decide +kernel
theorem dX12_isOne_1 : decode cX12_isOne 1 = .ok (.ifCond .lt 12, 3) := by decide +kernel
theorem dX12_isOne_4 : decode cX12_isOne 4 = .ok (.iload_n 0, 1) := by decide +kernel
theorem dX12_isOne_5 : decode cX12_isOne 5 = .ok (.iconst 4, 1) := by decide +kernel
theorem dX12_isOne_6 : decode cX12_isOne 6 = .ok (.if_icmp .ge 7, 3) := by decide +kernel
theorem dX12_isOne_9 : decode cX12_isOne 9 = .ok (.iconst 1, 1) := by decide +kernel
theorem dX12_isOne_10 : decode cX12_isOne 10 = .ok (.goto 4, 3) := by decide +kernel
theorem dX12_isOne_13 : decode cX12_isOne 13 = .ok (.iconst 0, 1) := by decide +kernel
theorem dX12_isOne_14 : decode cX12_isOne 14 = .ok (.ireturn, 1) := by decide +kernel
theorem rX12_isOne : (∀ (d : Nat) (x : Int32) (st : List Value) (h : fk_H), fk_ev d qX12_isOne 0 [.int x] st h = fk_ev d qX12_isOne 1 [.int x] (.int x :: st) h) ∧
  (∀ (d : Nat) (L : List Value) (x : Int32) (st : List Value) (h : fk_H), fk_ev d qX12_isOne 1 L (.int x :: st) h = if x < nI 0 then fk_ev d qX12_isOne 13 L st h else fk_ev d qX12_isOne 4 L st h) ∧
  (∀ (d : Nat) (x : Int32) (st : List Value) (h : fk_H), fk_ev d qX12_isOne 4 [.int x] st h = fk_ev d qX12_isOne 5 [.int x] (.int x :: st) h) ∧
  (∀ (d : Nat) (L st : List Value) (h : fk_H), fk_ev d qX12_isOne 5 L st h = fk_ev d qX12_isOne 6 L (.int (nI 4) :: st) h) ∧
  (∀ (d : Nat) (L : List Value) (x y : Int32) (st : List Value) (h : fk_H), fk_ev d qX12_isOne 6 L (.int y :: .int x :: st) h = if y ≤ x then fk_ev d qX12_isOne 13 L st h else fk_ev d qX12_isOne 9 L st h) ∧
  (∀ (d : Nat) (L st : List Value) (h : fk_H), fk_ev d qX12_isOne 9 L st h = fk_ev d qX12_isOne 10 L (.int (nI 1) :: st) h) ∧
  (∀ (d : Nat) (L st : List Value) (h : fk_H), fk_ev d qX12_isOne 10 L st h = fk_ev d qX12_isOne 14 L st h) ∧
  (∀ (d : Nat) (L st : List Value) (h : fk_H), fk_ev d qX12_isOne 13 L st h = fk_ev d qX12_isOne 14 L (.int (nI 0) :: st) h) ∧
  (∀ (d : Nat) (L : List Value) (h : fk_H), fk_ev d qX12_isOne 14 L [.int (nI 0)] h = some (some (.int (nI 0)), h)) ∧
  (∀ (d : Nat) (L : List Value) (h : fk_H), fk_ev d qX12_isOne 14 L [.int (nI 1)] h = some (some (.int (nI 1)), h)) ∧
  (∀ (d : Nat) (L : List Value) (p : Prop) [Decidable p] (h : fk_H), fk_ev d qX12_isOne 14 L [.int (fk_b p)] h = some (some (.int (fk_b p)), h)) ∧
  (∀ (d : Nat) (L : List Value) (x : Int32) (h : fk_H), (x = nI 0 ∨ x = nI 1) → fk_ev d qX12_isOne 14 L [.int x] h = some (some (.int x), h)) := ⟨fun d  x st h => fk_w_iloadn 0 [.int x] dX12_isOne_0 rfl,
  fun d L x st h => fk_r_if_lt dX12_isOne_1 (by decide),
  fun d  x st h => fk_w_iloadn 0 [.int x] dX12_isOne_4 rfl,
  fun d L st h => fk_w_iconst dX12_isOne_5 (by decide),
  fun d L x y st h => fk_r_icmp_ge dX12_isOne_6 (by decide),
  fun d L st h => fk_w_iconst dX12_isOne_9 (by decide),
  fun d L st h => fk_r_goto dX12_isOne_10 (by decide),
  fun d L st h => fk_w_iconst dX12_isOne_13 (by decide),
  fun d L h => fk_r_ret dX12_isOne_14 (Or.inr (Or.inl ⟨rfl, by decide⟩)),
  fun d L h => fk_r_ret dX12_isOne_14 (Or.inr (Or.inl ⟨rfl, by decide⟩)),
  fun d L p _ h => fk_r_ret dX12_isOne_14 (Or.inr (Or.inl ⟨rfl, fk_b_01⟩)),
  fun d L x h hx => fk_r_ret dX12_isOne_14 (Or.inr (Or.inl ⟨rfl, hx⟩))⟩
theorem dX12_isFact_0 : decode cX12_isFact 0 = .ok (.iload_n 0, 1) := by decide +kernel
theorem dX12_isFact_1 : decode cX12_isFact 1 = .ok (.ifCond .lt 13, 3) := by decide +kernel
theorem dX12_isFact_4 : decode cX12_isFact 4 = .ok (.iload_n 0, 1) := by decide +kernel
theorem dX12_isFact_5 : decode cX12_isFact 5 = .ok (.bipush 16, 2) := by decide +kernel
theorem dX12_isFact_7 : decode cX12_isFact 7 = .ok (.if_icmp .ge 7, 3) := by decide +kernel
theorem dX12_isFact_10 : decode cX12_isFact 10 = .ok (.iconst 1, 1) := by decide +kernel
theorem dX12_isFact_11 : decode cX12_isFact 11 = .ok (.goto 4, 3) := by decide +kernel
theorem dX12_isFact_14 : decode cX12_isFact 14 = .ok (.iconst 0, 1) := by decide +kernel
theorem dX12_isFact_15 : decode cX12_isFact 15 = .ok (.ireturn, 1) := by decide +kernel
theorem rX12_isFact : (∀ (d : Nat) (x : Int32) (st : List Value) (h : fk_H), fk_ev d qX12_isFact 0 [.int x] st h = fk_ev d qX12_isFact 1 [.int x] (.int x :: st) h) ∧
  (∀ (d : Nat) (L : List Value) (x : Int32) (st : List Value) (h : fk_H), fk_ev d qX12_isFact 1 L (.int x :: st) h = if x < nI 0 then fk_ev d qX12_isFact 14 L st h else fk_ev d qX12_isFact 4 L st h) ∧
  (∀ (d : Nat) (x : Int32) (st : List Value) (h : fk_H), fk_ev d qX12_isFact 4 [.int x] st h = fk_ev d qX12_isFact 5 [.int x] (.int x :: st) h) ∧
  (∀ (d : Nat) (L st : List Value) (h : fk_H), fk_ev d qX12_isFact 5 L st h = fk_ev d qX12_isFact 7 L (.int (nI 16) :: st) h) ∧
  (∀ (d : Nat) (L : List Value) (x y : Int32) (st : List Value) (h : fk_H), fk_ev d qX12_isFact 7 L (.int y :: .int x :: st) h = if y ≤ x then fk_ev d qX12_isFact 14 L st h else fk_ev d qX12_isFact 10 L st h) ∧
  (∀ (d : Nat) (L st : List Value) (h : fk_H), fk_ev d qX12_isFact 10 L st h = fk_ev d qX12_isFact 11 L (.int (nI 1) :: st) h) ∧
  (∀ (d : Nat) (L st : List Value) (h : fk_H), fk_ev d qX12_isFact 11 L st h = fk_ev d qX12_isFact 15 L st h) ∧
  (∀ (d : Nat) (L st : List Value) (h : fk_H), fk_ev d qX12_isFact 14 L st h = fk_ev d qX12_isFact 15 L (.int (nI 0) :: st) h) ∧
  (∀ (d : Nat) (L : List Value) (h : fk_H), fk_ev d qX12_isFact 15 L [.int (nI 0)] h = some (some (.int (nI 0)), h)) ∧
  (∀ (d : Nat) (L : List Value) (h : fk_H), fk_ev d qX12_isFact 15 L [.int (nI 1)] h = some (some (.int (nI 1)), h)) ∧
  (∀ (d : Nat) (L : List Value) (p : Prop) [Decidable p] (h : fk_H), fk_ev d qX12_isFact 15 L [.int (fk_b p)] h = some (some (.int (fk_b p)), h)) ∧
  (∀ (d : Nat) (L : List Value) (x : Int32) (h : fk_H), (x = nI 0 ∨ x = nI 1) → fk_ev d qX12_isFact 15 L [.int x] h = some (some (.int x), h)) := ⟨fun d  x st h => fk_w_iloadn 0 [.int x] dX12_isFact_0 rfl,
  fun d L x st h => fk_r_if_lt dX12_isFact_1 (by decide),
  fun d  x st h => fk_w_iloadn 0 [.int x] dX12_isFact_4 rfl,
  fun d L st h => fk_w_bipush dX12_isFact_5 (by decide),
  fun d L x y st h => fk_r_icmp_ge dX12_isFact_7 (by decide),
  fun d L st h => fk_w_iconst dX12_isFact_10 (by decide),
  fun d L st h => fk_r_goto dX12_isFact_11 (by decide),
  fun d L st h => fk_w_iconst dX12_isFact_14 (by decide),
  fun d L h => fk_r_ret dX12_isFact_15 (Or.inr (Or.inl ⟨rfl, by decide⟩)),
  fun d L h => fk_r_ret dX12_isFact_15 (Or.inr (Or.inl ⟨rfl, by decide⟩)),
  fun d L p _ h => fk_r_ret dX12_isFact_15 (Or.inr (Or.inl ⟨rfl, fk_b_01⟩)),
  fun d L x h hx => fk_r_ret dX12_isFact_15 (Or.inr (Or.inl ⟨rfl, hx⟩))⟩
theorem dX12_road_0 : decode cX12_road 0 = .ok (.iload_n 1, 1) := by decide +kernel
theorem dX12_road_1 : decode cX12_road 1 = .ok (.iconst 0, 1) := by decide +kernel
theorem dX12_road_2 : decode cX12_road 2 = .ok (.bipush 31, 2) := by decide +kernel
theorem dX12_road_4 : decode cX12_road 4 = .ok (.invokestatic 112, 3) := by decide +kernel
theorem dX12_road_7 : decode cX12_road 7 = .ok (.ifCond .eq 33, 3) := by decide +kernel
theorem dX12_road_10 : decode cX12_road 10 = .ok (.iload_n 2, 1) := by decide +kernel
theorem dX12_road_11 : decode cX12_road 11 = .ok (.invokestatic 116, 3) := by decide +kernel
theorem dX12_road_14 : decode cX12_road 14 = .ok (.ifCond .eq 26, 3) := by decide +kernel
theorem dX12_road_17 : decode cX12_road 17 = .ok (.iload_n 3, 1) := by decide +kernel
theorem dX12_road_18 : decode cX12_road 18 = .ok (.invokestatic 116, 3) := by decide +kernel
theorem dX12_road_21 : decode cX12_road 21 = .ok (.ifCond .eq 19, 3) := by decide +kernel
theorem dX12_road_24 : decode cX12_road 24 = .ok (.iload_n 2, 1) := by decide +kernel
theorem dX12_road_25 : decode cX12_road 25 = .ok (.iload_n 3, 1) := by decide +kernel
theorem dX12_road_26 : decode cX12_road 26 = .ok (.if_icmp .eq 14, 3) := by decide +kernel
theorem dX12_road_29 : decode cX12_road 29 = .ok (.iload 4, 2) := by decide +kernel
theorem dX12_road_31 : decode cX12_road 31 = .ok (.iconst 1, 1) := by decide +kernel
theorem dX12_road_32 : decode cX12_road 32 = .ok (.bipush 9, 2) := by decide +kernel
theorem dX12_road_34 : decode cX12_road 34 = .ok (.invokestatic 112, 3) := by decide +kernel
theorem dX12_road_37 : decode cX12_road 37 = .ok (.ifCond .ne 5, 3) := by decide +kernel
theorem dX12_road_40 : decode cX12_road 40 = .ok (.iconst 0, 1) := by decide +kernel
theorem dX12_road_41 : decode cX12_road 41 = .ok (.ireturn, 1) := by decide +kernel
theorem dX12_road_42 : decode cX12_road 42 = .ok (.aload_n 0, 1) := by decide +kernel
theorem dX12_road_43 : decode cX12_road 43 = .ok (.aload_n 0, 1) := by decide +kernel
theorem dX12_road_44 : decode cX12_road 44 = .ok (.getfield 105, 3) := by decide +kernel
theorem dX12_road_47 : decode cX12_road 47 = .ok (.iconst 1, 1) := by decide +kernel
theorem dX12_road_48 : decode cX12_road 48 = .ok (.iload_n 1, 1) := by decide +kernel
theorem dX12_road_49 : decode cX12_road 49 = .ok (.ishl, 1) := by decide +kernel
theorem dX12_road_50 : decode cX12_road 50 = .ok (.ior, 1) := by decide +kernel
theorem dX12_road_51 : decode cX12_road 51 = .ok (.putfield 105, 3) := by decide +kernel
theorem dX12_road_54 : decode cX12_road 54 = .ok (.aload_n 0, 1) := by decide +kernel
theorem dX12_road_55 : decode cX12_road 55 = .ok (.getfield 19, 3) := by decide +kernel
theorem dX12_road_58 : decode cX12_road 58 = .ok (.iload_n 1, 1) := by decide +kernel
theorem dX12_road_59 : decode cX12_road 59 = .ok (.iload_n 2, 1) := by decide +kernel
theorem dX12_road_60 : decode cX12_road 60 = .ok (.iastore, 1) := by decide +kernel
theorem dX12_road_61 : decode cX12_road 61 = .ok (.aload_n 0, 1) := by decide +kernel
theorem dX12_road_62 : decode cX12_road 62 = .ok (.getfield 22, 3) := by decide +kernel
theorem dX12_road_65 : decode cX12_road 65 = .ok (.iload_n 1, 1) := by decide +kernel
theorem dX12_road_66 : decode cX12_road 66 = .ok (.iload_n 3, 1) := by decide +kernel
theorem dX12_road_67 : decode cX12_road 67 = .ok (.iastore, 1) := by decide +kernel
theorem dX12_road_68 : decode cX12_road 68 = .ok (.aload_n 0, 1) := by decide +kernel
theorem dX12_road_69 : decode cX12_road 69 = .ok (.getfield 25, 3) := by decide +kernel
theorem dX12_road_72 : decode cX12_road 72 = .ok (.iload_n 1, 1) := by decide +kernel
theorem dX12_road_73 : decode cX12_road 73 = .ok (.iload 4, 2) := by decide +kernel
theorem dX12_road_75 : decode cX12_road 75 = .ok (.iastore, 1) := by decide +kernel
theorem dX12_road_76 : decode cX12_road 76 = .ok (.iconst 1, 1) := by decide +kernel
theorem dX12_road_77 : decode cX12_road 77 = .ok (.ireturn, 1) := by decide +kernel
theorem rX12_road : (∀ (d : Nat) (a0 a2 a3 a4 : Value) (x : Int32) (st : List Value) (h : fk_H), fk_ev d qX12_road 0 [a0, .int x, a2, a3, a4] st h = fk_ev d qX12_road 1 [a0, .int x, a2, a3, a4] (.int x :: st) h) ∧
  (∀ (d : Nat) (L st : List Value) (h : fk_H), fk_ev d qX12_road 1 L st h = fk_ev d qX12_road 2 L (.int (nI 0) :: st) h) ∧
  (∀ (d : Nat) (L st : List Value) (h : fk_H), fk_ev d qX12_road 2 L st h = fk_ev d qX12_road 4 L (.int (nI 31) :: st) h) ∧
  (∀ (d : Nat) (L : List Value) (x0 : Int32) (x1 : Int32) (x2 : Int32)  (h : fk_H), fk_ev (d + 1) qX12_road 4 L (.int x2 :: .int x1 :: .int x0 :: []) h = (fk_ev d qX12_in 0 [.int x0, .int x1, .int x2] [] h).bind fun o => fk_ev (d + 1) qX12_road 7 L (o.1.toList ++ []) o.2) ∧
  (∀ (d : Nat) (L : List Value) (x : Int32) (st : List Value) (h : fk_H), fk_ev d qX12_road 7 L (.int x :: st) h = if x = nI 0 then fk_ev d qX12_road 40 L st h else fk_ev d qX12_road 10 L st h) ∧
  (∀ (d : Nat) (a0 a1 a3 a4 : Value) (x : Int32) (st : List Value) (h : fk_H), fk_ev d qX12_road 10 [a0, a1, .int x, a3, a4] st h = fk_ev d qX12_road 11 [a0, a1, .int x, a3, a4] (.int x :: st) h) ∧
  (∀ (d : Nat) (L : List Value) (x0 : Int32)  (h : fk_H), fk_ev (d + 1) qX12_road 11 L (.int x0 :: []) h = (fk_ev d qX12_isPlace 0 [.int x0] [] h).bind fun o => fk_ev (d + 1) qX12_road 14 L (o.1.toList ++ []) o.2) ∧
  (∀ (d : Nat) (L : List Value) (x : Int32) (st : List Value) (h : fk_H), fk_ev d qX12_road 14 L (.int x :: st) h = if x = nI 0 then fk_ev d qX12_road 40 L st h else fk_ev d qX12_road 17 L st h) ∧
  (∀ (d : Nat) (a0 a1 a2 a4 : Value) (x : Int32) (st : List Value) (h : fk_H), fk_ev d qX12_road 17 [a0, a1, a2, .int x, a4] st h = fk_ev d qX12_road 18 [a0, a1, a2, .int x, a4] (.int x :: st) h) ∧
  (∀ (d : Nat) (L : List Value) (x0 : Int32)  (h : fk_H), fk_ev (d + 1) qX12_road 18 L (.int x0 :: []) h = (fk_ev d qX12_isPlace 0 [.int x0] [] h).bind fun o => fk_ev (d + 1) qX12_road 21 L (o.1.toList ++ []) o.2) ∧
  (∀ (d : Nat) (L : List Value) (x : Int32) (st : List Value) (h : fk_H), fk_ev d qX12_road 21 L (.int x :: st) h = if x = nI 0 then fk_ev d qX12_road 40 L st h else fk_ev d qX12_road 24 L st h) ∧
  (∀ (d : Nat) (a0 a1 a3 a4 : Value) (x : Int32) (st : List Value) (h : fk_H), fk_ev d qX12_road 24 [a0, a1, .int x, a3, a4] st h = fk_ev d qX12_road 25 [a0, a1, .int x, a3, a4] (.int x :: st) h) ∧
  (∀ (d : Nat) (a0 a1 a2 a4 : Value) (x : Int32) (st : List Value) (h : fk_H), fk_ev d qX12_road 25 [a0, a1, a2, .int x, a4] st h = fk_ev d qX12_road 26 [a0, a1, a2, .int x, a4] (.int x :: st) h) ∧
  (∀ (d : Nat) (L : List Value) (x y : Int32) (st : List Value) (h : fk_H), fk_ev d qX12_road 26 L (.int y :: .int x :: st) h = if x = y then fk_ev d qX12_road 40 L st h else fk_ev d qX12_road 29 L st h) ∧
  (∀ (d : Nat) (a0 a1 a2 a3 : Value) (x : Int32) (st : List Value) (h : fk_H), fk_ev d qX12_road 29 [a0, a1, a2, a3, .int x] st h = fk_ev d qX12_road 31 [a0, a1, a2, a3, .int x] (.int x :: st) h) ∧
  (∀ (d : Nat) (L st : List Value) (h : fk_H), fk_ev d qX12_road 31 L st h = fk_ev d qX12_road 32 L (.int (nI 1) :: st) h) ∧
  (∀ (d : Nat) (L st : List Value) (h : fk_H), fk_ev d qX12_road 32 L st h = fk_ev d qX12_road 34 L (.int (nI 9) :: st) h) ∧
  (∀ (d : Nat) (L : List Value) (x0 : Int32) (x1 : Int32) (x2 : Int32)  (h : fk_H), fk_ev (d + 1) qX12_road 34 L (.int x2 :: .int x1 :: .int x0 :: []) h = (fk_ev d qX12_in 0 [.int x0, .int x1, .int x2] [] h).bind fun o => fk_ev (d + 1) qX12_road 37 L (o.1.toList ++ []) o.2) ∧
  (∀ (d : Nat) (L : List Value) (x : Int32) (st : List Value) (h : fk_H), fk_ev d qX12_road 37 L (.int x :: st) h = if ¬ x = nI 0 then fk_ev d qX12_road 42 L st h else fk_ev d qX12_road 40 L st h) ∧
  (∀ (d : Nat) (L st : List Value) (h : fk_H), fk_ev d qX12_road 40 L st h = fk_ev d qX12_road 41 L (.int (nI 0) :: st) h) ∧
  (∀ (d : Nat) (L : List Value) (h : fk_H), fk_ev d qX12_road 41 L [.int (nI 0)] h = some (some (.int (nI 0)), h)) ∧
  (∀ (d : Nat) (L : List Value) (h : fk_H), fk_ev d qX12_road 41 L [.int (nI 1)] h = some (some (.int (nI 1)), h)) ∧
  (∀ (d : Nat) (L : List Value) (p : Prop) [Decidable p] (h : fk_H), fk_ev d qX12_road 41 L [.int (fk_b p)] h = some (some (.int (fk_b p)), h)) ∧
  (∀ (d : Nat) (L : List Value) (x : Int32) (h : fk_H), (x = nI 0 ∨ x = nI 1) → fk_ev d qX12_road 41 L [.int x] h = some (some (.int x), h)) ∧
  (∀ (d : Nat) (a1 a2 a3 a4 : Value) (x : Nat) (st : List Value) (h : fk_H), fk_ev d qX12_road 42 [.ref x, a1, a2, a3, a4] st h = fk_ev d qX12_road 43 [.ref x, a1, a2, a3, a4] (.ref x :: st) h) ∧
  (∀ (d : Nat) (a1 a2 a3 a4 : Value) (x : Nat) (st : List Value) (h : fk_H), fk_ev d qX12_road 43 [.ref x, a1, a2, a3, a4] st h = fk_ev d qX12_road 44 [.ref x, a1, a2, a3, a4] (.ref x :: st) h) ∧
  (∀ (d : Nat) (L st : List Value) (N : Nat) (y : Nat → Nat → Int32) (l : Nat → Nat → Int64), fk_ev d qX12_road 44 L (.ref 246 :: st) (fk_E N y l) = fk_ev d qX12_road 47 L (.int (y 246 3) :: st) (fk_E N y l)) ∧
  (∀ (d : Nat) (L st : List Value) (h : fk_H), fk_ev d qX12_road 47 L st h = fk_ev d qX12_road 48 L (.int (nI 1) :: st) h) ∧
  (∀ (d : Nat) (a0 a2 a3 a4 : Value) (x : Int32) (st : List Value) (h : fk_H), fk_ev d qX12_road 48 [a0, .int x, a2, a3, a4] st h = fk_ev d qX12_road 49 [a0, .int x, a2, a3, a4] (.int x :: st) h) ∧
  (∀ (d : Nat) (L : List Value) (x y : Int32) (st : List Value) (h : fk_H), fk_ev d qX12_road 49 L (.int y :: .int x :: st) h = fk_ev d qX12_road 50 L (.int (x <<< (y &&& 31)) :: st) h) ∧
  (∀ (d : Nat) (L : List Value) (x y : Int32) (st : List Value) (h : fk_H), fk_ev d qX12_road 50 L (.int y :: .int x :: st) h = fk_ev d qX12_road 51 L (.int (x ||| y) :: st) h) ∧
  (∀ (d : Nat) (L st : List Value) (N : Nat) (y : Nat → Nat → Int32) (l : Nat → Nat → Int64) (v : Int32), fk_ev d qX12_road 51 L (.int v :: .ref 246 :: st) (fk_E N y l) = fk_ev d qX12_road 54 L st (fk_E N (fk_u y 246 3 v) l)) ∧
  (∀ (d : Nat) (a1 a2 a3 a4 : Value) (x : Nat) (st : List Value) (h : fk_H), fk_ev d qX12_road 54 [.ref x, a1, a2, a3, a4] st h = fk_ev d qX12_road 55 [.ref x, a1, a2, a3, a4] (.ref x :: st) h) ∧
  (∀ (d : Nat) (L st : List Value) (N : Nat) (y : Nat → Nat → Int32) (l : Nat → Nat → Int64), fk_ev d qX12_road 55 L (.ref 246 :: st) (fk_E N y l) = fk_ev d qX12_road 58 L (.ref 250 :: st) (fk_E N y l)) ∧
  (∀ (d : Nat) (a0 a2 a3 a4 : Value) (x : Int32) (st : List Value) (h : fk_H), fk_ev d qX12_road 58 [a0, .int x, a2, a3, a4] st h = fk_ev d qX12_road 59 [a0, .int x, a2, a3, a4] (.int x :: st) h) ∧
  (∀ (d : Nat) (a0 a1 a3 a4 : Value) (x : Int32) (st : List Value) (h : fk_H), fk_ev d qX12_road 59 [a0, a1, .int x, a3, a4] st h = fk_ev d qX12_road 60 [a0, a1, .int x, a3, a4] (.int x :: st) h) ∧
  (∀ (d : Nat) (L st : List Value) (N : Nat) (y : Nat → Nat → Int32) (l : Nat → Nat → Int64) (i : Nat) (v : Int32), i < 32 → fk_ev d qX12_road 60 L (.int v :: .int (nI i) :: .ref 250 :: st) (fk_E N y l) = fk_ev d qX12_road 61 L st (fk_E N (fk_u y 250 i v) l)) ∧
  (∀ (d : Nat) (a1 a2 a3 a4 : Value) (x : Nat) (st : List Value) (h : fk_H), fk_ev d qX12_road 61 [.ref x, a1, a2, a3, a4] st h = fk_ev d qX12_road 62 [.ref x, a1, a2, a3, a4] (.ref x :: st) h) ∧
  (∀ (d : Nat) (L st : List Value) (N : Nat) (y : Nat → Nat → Int32) (l : Nat → Nat → Int64), fk_ev d qX12_road 62 L (.ref 246 :: st) (fk_E N y l) = fk_ev d qX12_road 65 L (.ref 251 :: st) (fk_E N y l)) ∧
  (∀ (d : Nat) (a0 a2 a3 a4 : Value) (x : Int32) (st : List Value) (h : fk_H), fk_ev d qX12_road 65 [a0, .int x, a2, a3, a4] st h = fk_ev d qX12_road 66 [a0, .int x, a2, a3, a4] (.int x :: st) h) ∧
  (∀ (d : Nat) (a0 a1 a2 a4 : Value) (x : Int32) (st : List Value) (h : fk_H), fk_ev d qX12_road 66 [a0, a1, a2, .int x, a4] st h = fk_ev d qX12_road 67 [a0, a1, a2, .int x, a4] (.int x :: st) h) ∧
  (∀ (d : Nat) (L st : List Value) (N : Nat) (y : Nat → Nat → Int32) (l : Nat → Nat → Int64) (i : Nat) (v : Int32), i < 32 → fk_ev d qX12_road 67 L (.int v :: .int (nI i) :: .ref 251 :: st) (fk_E N y l) = fk_ev d qX12_road 68 L st (fk_E N (fk_u y 251 i v) l)) ∧
  (∀ (d : Nat) (a1 a2 a3 a4 : Value) (x : Nat) (st : List Value) (h : fk_H), fk_ev d qX12_road 68 [.ref x, a1, a2, a3, a4] st h = fk_ev d qX12_road 69 [.ref x, a1, a2, a3, a4] (.ref x :: st) h) ∧
  (∀ (d : Nat) (L st : List Value) (N : Nat) (y : Nat → Nat → Int32) (l : Nat → Nat → Int64), fk_ev d qX12_road 69 L (.ref 246 :: st) (fk_E N y l) = fk_ev d qX12_road 72 L (.ref 252 :: st) (fk_E N y l)) ∧
  (∀ (d : Nat) (a0 a2 a3 a4 : Value) (x : Int32) (st : List Value) (h : fk_H), fk_ev d qX12_road 72 [a0, .int x, a2, a3, a4] st h = fk_ev d qX12_road 73 [a0, .int x, a2, a3, a4] (.int x :: st) h) ∧
  (∀ (d : Nat) (a0 a1 a2 a3 : Value) (x : Int32) (st : List Value) (h : fk_H), fk_ev d qX12_road 73 [a0, a1, a2, a3, .int x] st h = fk_ev d qX12_road 75 [a0, a1, a2, a3, .int x] (.int x :: st) h) ∧
  (∀ (d : Nat) (L st : List Value) (N : Nat) (y : Nat → Nat → Int32) (l : Nat → Nat → Int64) (i : Nat) (v : Int32), i < 32 → fk_ev d qX12_road 75 L (.int v :: .int (nI i) :: .ref 252 :: st) (fk_E N y l) = fk_ev d qX12_road 76 L st (fk_E N (fk_u y 252 i v) l)) ∧
  (∀ (d : Nat) (L st : List Value) (h : fk_H), fk_ev d qX12_road 76 L st h = fk_ev d qX12_road 77 L (.int (nI 1) :: st) h) ∧
  (∀ (d : Nat) (L : List Value) (h : fk_H), fk_ev d qX12_road 77 L [.int (nI 0)] h = some (some (.int (nI 0)), h)) ∧
  (∀ (d : Nat) (L : List Value) (h : fk_H), fk_ev d qX12_road 77 L [.int (nI 1)] h = some (some (.int (nI 1)), h)) ∧
  (∀ (d : Nat) (L : List Value) (p : Prop) [Decidable p] (h : fk_H), fk_ev d qX12_road 77 L [.int (fk_b p)] h = some (some (.int (fk_b p)), h)) ∧
  (∀ (d : Nat) (L : List Value) (x : Int32) (h : fk_H), (x = nI 0 ∨ x = nI 1) → fk_ev d qX12_road 77 L [.int x] h = some (some (.int x), h)) := ⟨fun d a0 a2 a3 a4 x st h => fk_w_iloadn 1 [a0, .int x, a2, a3, a4] dX12_road_0 rfl,
  fun d L st h => fk_w_iconst dX12_road_1 (by decide),
  fun d L st h => fk_w_bipush dX12_road_2 (by decide),
  fun d L x0 x1 x2 h => fk_g_calls [.int x0, .int x1, .int x2] [] rfl lm_12_112 dX12_road_4 rfl ⟨rfl, by decide⟩ (by simp),
  fun d L x st h => fk_r_if_eq dX12_road_7 (by decide),
  fun d a0 a1 a3 a4 x st h => fk_w_iloadn 2 [a0, a1, .int x, a3, a4] dX12_road_10 rfl,
  fun d L x0 h => fk_g_calls [.int x0] [] rfl lm_12_116 dX12_road_11 rfl ⟨rfl, by decide⟩ (by simp),
  fun d L x st h => fk_r_if_eq dX12_road_14 (by decide),
  fun d a0 a1 a2 a4 x st h => fk_w_iloadn 3 [a0, a1, a2, .int x, a4] dX12_road_17 rfl,
  fun d L x0 h => fk_g_calls [.int x0] [] rfl lm_12_116 dX12_road_18 rfl ⟨rfl, by decide⟩ (by simp),
  fun d L x st h => fk_r_if_eq dX12_road_21 (by decide),
  fun d a0 a1 a3 a4 x st h => fk_w_iloadn 2 [a0, a1, .int x, a3, a4] dX12_road_24 rfl,
  fun d a0 a1 a2 a4 x st h => fk_w_iloadn 3 [a0, a1, a2, .int x, a4] dX12_road_25 rfl,
  fun d L x y st h => fk_r_icmp_eq dX12_road_26 (by decide),
  fun d a0 a1 a2 a3 x st h => fk_w_iload 4 [a0, a1, a2, a3, .int x] dX12_road_29 rfl,
  fun d L st h => fk_w_iconst dX12_road_31 (by decide),
  fun d L st h => fk_w_bipush dX12_road_32 (by decide),
  fun d L x0 x1 x2 h => fk_g_calls [.int x0, .int x1, .int x2] [] rfl lm_12_112 dX12_road_34 rfl ⟨rfl, by decide⟩ (by simp),
  fun d L x st h => fk_r_if_ne dX12_road_37 (by decide),
  fun d L st h => fk_w_iconst dX12_road_40 (by decide),
  fun d L h => fk_r_ret dX12_road_41 (Or.inr (Or.inl ⟨rfl, by decide⟩)),
  fun d L h => fk_r_ret dX12_road_41 (Or.inr (Or.inl ⟨rfl, by decide⟩)),
  fun d L p _ h => fk_r_ret dX12_road_41 (Or.inr (Or.inl ⟨rfl, fk_b_01⟩)),
  fun d L x h hx => fk_r_ret dX12_road_41 (Or.inr (Or.inl ⟨rfl, hx⟩)),
  fun d a1 a2 a3 a4 x st h => fk_w_aloadn 0 [.ref x, a1, a2, a3, a4] dX12_road_42 rfl,
  fun d a1 a2 a3 a4 x st h => fk_w_aloadn 0 [.ref x, a1, a2, a3, a4] dX12_road_43 rfl,
  fun d L st N y l => fk_g_getI rfl lf_12_105 (by decide) dX12_road_44 fk_at_246,
  fun d L st h => fk_w_iconst dX12_road_47 (by decide),
  fun d a0 a2 a3 a4 x st h => fk_w_iloadn 1 [a0, .int x, a2, a3, a4] dX12_road_48 rfl,
  fun d L x y st h => fk_r_ishl dX12_road_49,
  fun d L x y st h => fk_r_ior dX12_road_50,
  fun d L st N y l v => fk_g_putI rfl lf_12_105 (by decide) dX12_road_51 rfl fk_at_246,
  fun d a1 a2 a3 a4 x st h => fk_w_aloadn 0 [.ref x, a1, a2, a3, a4] dX12_road_54 rfl,
  fun d L st N y l => fk_g_getC rfl lf_12_19 (by decide) rfl dX12_road_55 fk_at_246,
  fun d a0 a2 a3 a4 x st h => fk_w_iloadn 1 [a0, .int x, a2, a3, a4] dX12_road_58 rfl,
  fun d a0 a1 a3 a4 x st h => fk_w_iloadn 2 [a0, a1, .int x, a3, a4] dX12_road_59 rfl,
  fun d L st N y l i v hi => fk_g_iast fk_at_250 fk_ln_250 (by decide) dX12_road_60 hi,
  fun d a1 a2 a3 a4 x st h => fk_w_aloadn 0 [.ref x, a1, a2, a3, a4] dX12_road_61 rfl,
  fun d L st N y l => fk_g_getC rfl lf_12_22 (by decide) rfl dX12_road_62 fk_at_246,
  fun d a0 a2 a3 a4 x st h => fk_w_iloadn 1 [a0, .int x, a2, a3, a4] dX12_road_65 rfl,
  fun d a0 a1 a2 a4 x st h => fk_w_iloadn 3 [a0, a1, a2, .int x, a4] dX12_road_66 rfl,
  fun d L st N y l i v hi => fk_g_iast fk_at_251 fk_ln_251 (by decide) dX12_road_67 hi,
  fun d a1 a2 a3 a4 x st h => fk_w_aloadn 0 [.ref x, a1, a2, a3, a4] dX12_road_68 rfl,
  fun d L st N y l => fk_g_getC rfl lf_12_25 (by decide) rfl dX12_road_69 fk_at_246,
  fun d a0 a2 a3 a4 x st h => fk_w_iloadn 1 [a0, .int x, a2, a3, a4] dX12_road_72 rfl,
  fun d a0 a1 a2 a3 x st h => fk_w_iload 4 [a0, a1, a2, a3, .int x] dX12_road_73 rfl,
  fun d L st N y l i v hi => fk_g_iast fk_at_252 fk_ln_252 (by decide) dX12_road_75 hi,
  fun d L st h => fk_w_iconst dX12_road_76 (by decide),
  fun d L h => fk_r_ret dX12_road_77 (Or.inr (Or.inl ⟨rfl, by decide⟩)),
  fun d L h => fk_r_ret dX12_road_77 (Or.inr (Or.inl ⟨rfl, by decide⟩)),
  fun d L p _ h => fk_r_ret dX12_road_77 (Or.inr (Or.inl ⟨rfl, fk_b_01⟩)),
  fun d L x h hx => fk_r_ret dX12_road_77 (Or.inr (Or.inl ⟨rfl, hx⟩))⟩
theorem dX12_notice_0 : decode cX12_notice 0 = .ok (.iload_n 1, 1) := by decide +kernel
theorem dX12_notice_1 : decode cX12_notice 1 = .ok (.invokestatic 116, 3) := by decide +kernel
theorem dX12_notice_4 : decode cX12_notice 4 = .ok (.ifCond .eq 15, 3) := by decide +kernel
theorem dX12_notice_7 : decode cX12_notice 7 = .ok (.iload_n 2, 1) := by decide +kernel
theorem dX12_notice_8 : decode cX12_notice 8 = .ok (.iconst (-1), 1) := by decide +kernel
theorem dX12_notice_9 : decode cX12_notice 9 = .ok (.if_icmp .eq 12, 3) := by decide +kernel
theorem dX12_notice_12 : decode cX12_notice 12 = .ok (.iload_n 2, 1) := by decide +kernel
theorem dX12_notice_13 : decode cX12_notice 13 = .ok (.invokestatic 120, 3) := by decide +kernel
theorem dX12_notice_16 : decode cX12_notice 16 = .ok (.ifCond .ne 5, 3) := by decide +kernel
theorem dX12_notice_19 : decode cX12_notice 19 = .ok (.iconst 0, 1) := by decide +kernel
theorem dX12_notice_20 : decode cX12_notice 20 = .ok (.ireturn, 1) := by decide +kernel
theorem dX12_notice_21 : decode cX12_notice 21 = .ok (.aload_n 0, 1) := by decide +kernel
theorem dX12_notice_22 : decode cX12_notice 22 = .ok (.getfield 28, 3) := by decide +kernel
theorem dX12_notice_25 : decode cX12_notice 25 = .ok (.iload_n 1, 1) := by decide +kernel
theorem dX12_notice_26 : decode cX12_notice 26 = .ok (.iload_n 2, 1) := by decide +kernel
theorem dX12_notice_27 : decode cX12_notice 27 = .ok (.iastore, 1) := by decide +kernel
theorem dX12_notice_28 : decode cX12_notice 28 = .ok (.aload_n 0, 1) := by decide +kernel
theorem dX12_notice_29 : decode cX12_notice 29 = .ok (.getfield 31, 3) := by decide +kernel
theorem dX12_notice_32 : decode cX12_notice 32 = .ok (.iload_n 1, 1) := by decide +kernel
theorem dX12_notice_33 : decode cX12_notice 33 = .ok (.iload_n 3, 1) := by decide +kernel
theorem dX12_notice_34 : decode cX12_notice 34 = .ok (.bastore, 1) := by decide +kernel
theorem dX12_notice_35 : decode cX12_notice 35 = .ok (.iconst 1, 1) := by decide +kernel
theorem dX12_notice_36 : decode cX12_notice 36 = .ok (.ireturn, 1) := by decide +kernel
theorem rX12_notice : (∀ (d : Nat) (a0 a2 a3 : Value) (x : Int32) (st : List Value) (h : fk_H), fk_ev d qX12_notice 0 [a0, .int x, a2, a3] st h = fk_ev d qX12_notice 1 [a0, .int x, a2, a3] (.int x :: st) h) ∧
  (∀ (d : Nat) (L : List Value) (x0 : Int32)  (h : fk_H), fk_ev (d + 1) qX12_notice 1 L (.int x0 :: []) h = (fk_ev d qX12_isPlace 0 [.int x0] [] h).bind fun o => fk_ev (d + 1) qX12_notice 4 L (o.1.toList ++ []) o.2) ∧
  (∀ (d : Nat) (L : List Value) (x : Int32) (st : List Value) (h : fk_H), fk_ev d qX12_notice 4 L (.int x :: st) h = if x = nI 0 then fk_ev d qX12_notice 19 L st h else fk_ev d qX12_notice 7 L st h) ∧
  (∀ (d : Nat) (a0 a1 a3 : Value) (x : Int32) (st : List Value) (h : fk_H), fk_ev d qX12_notice 7 [a0, a1, .int x, a3] st h = fk_ev d qX12_notice 8 [a0, a1, .int x, a3] (.int x :: st) h) ∧
  (∀ (d : Nat) (L st : List Value) (h : fk_H), fk_ev d qX12_notice 8 L st h = fk_ev d qX12_notice 9 L (.int ((-1 : Int32)) :: st) h) ∧
  (∀ (d : Nat) (L : List Value) (x y : Int32) (st : List Value) (h : fk_H), fk_ev d qX12_notice 9 L (.int y :: .int x :: st) h = if x = y then fk_ev d qX12_notice 21 L st h else fk_ev d qX12_notice 12 L st h) ∧
  (∀ (d : Nat) (a0 a1 a3 : Value) (x : Int32) (st : List Value) (h : fk_H), fk_ev d qX12_notice 12 [a0, a1, .int x, a3] st h = fk_ev d qX12_notice 13 [a0, a1, .int x, a3] (.int x :: st) h) ∧
  (∀ (d : Nat) (L : List Value) (x0 : Int32)  (h : fk_H), fk_ev (d + 1) qX12_notice 13 L (.int x0 :: []) h = (fk_ev d qX12_isFact 0 [.int x0] [] h).bind fun o => fk_ev (d + 1) qX12_notice 16 L (o.1.toList ++ []) o.2) ∧
  (∀ (d : Nat) (L : List Value) (x : Int32) (st : List Value) (h : fk_H), fk_ev d qX12_notice 16 L (.int x :: st) h = if ¬ x = nI 0 then fk_ev d qX12_notice 21 L st h else fk_ev d qX12_notice 19 L st h) ∧
  (∀ (d : Nat) (L st : List Value) (h : fk_H), fk_ev d qX12_notice 19 L st h = fk_ev d qX12_notice 20 L (.int (nI 0) :: st) h) ∧
  (∀ (d : Nat) (L : List Value) (h : fk_H), fk_ev d qX12_notice 20 L [.int (nI 0)] h = some (some (.int (nI 0)), h)) ∧
  (∀ (d : Nat) (L : List Value) (h : fk_H), fk_ev d qX12_notice 20 L [.int (nI 1)] h = some (some (.int (nI 1)), h)) ∧
  (∀ (d : Nat) (L : List Value) (p : Prop) [Decidable p] (h : fk_H), fk_ev d qX12_notice 20 L [.int (fk_b p)] h = some (some (.int (fk_b p)), h)) ∧
  (∀ (d : Nat) (L : List Value) (x : Int32) (h : fk_H), (x = nI 0 ∨ x = nI 1) → fk_ev d qX12_notice 20 L [.int x] h = some (some (.int x), h)) ∧
  (∀ (d : Nat) (a1 a2 a3 : Value) (x : Nat) (st : List Value) (h : fk_H), fk_ev d qX12_notice 21 [.ref x, a1, a2, a3] st h = fk_ev d qX12_notice 22 [.ref x, a1, a2, a3] (.ref x :: st) h) ∧
  (∀ (d : Nat) (L st : List Value) (N : Nat) (y : Nat → Nat → Int32) (l : Nat → Nat → Int64), fk_ev d qX12_notice 22 L (.ref 246 :: st) (fk_E N y l) = fk_ev d qX12_notice 25 L (.ref 253 :: st) (fk_E N y l)) ∧
  (∀ (d : Nat) (a0 a2 a3 : Value) (x : Int32) (st : List Value) (h : fk_H), fk_ev d qX12_notice 25 [a0, .int x, a2, a3] st h = fk_ev d qX12_notice 26 [a0, .int x, a2, a3] (.int x :: st) h) ∧
  (∀ (d : Nat) (a0 a1 a3 : Value) (x : Int32) (st : List Value) (h : fk_H), fk_ev d qX12_notice 26 [a0, a1, .int x, a3] st h = fk_ev d qX12_notice 27 [a0, a1, .int x, a3] (.int x :: st) h) ∧
  (∀ (d : Nat) (L st : List Value) (N : Nat) (y : Nat → Nat → Int32) (l : Nat → Nat → Int64) (i : Nat) (v : Int32), i < 16 → fk_ev d qX12_notice 27 L (.int v :: .int (nI i) :: .ref 253 :: st) (fk_E N y l) = fk_ev d qX12_notice 28 L st (fk_E N (fk_u y 253 i v) l)) ∧
  (∀ (d : Nat) (a1 a2 a3 : Value) (x : Nat) (st : List Value) (h : fk_H), fk_ev d qX12_notice 28 [.ref x, a1, a2, a3] st h = fk_ev d qX12_notice 29 [.ref x, a1, a2, a3] (.ref x :: st) h) ∧
  (∀ (d : Nat) (L st : List Value) (N : Nat) (y : Nat → Nat → Int32) (l : Nat → Nat → Int64), fk_ev d qX12_notice 29 L (.ref 246 :: st) (fk_E N y l) = fk_ev d qX12_notice 32 L (.ref 254 :: st) (fk_E N y l)) ∧
  (∀ (d : Nat) (a0 a2 a3 : Value) (x : Int32) (st : List Value) (h : fk_H), fk_ev d qX12_notice 32 [a0, .int x, a2, a3] st h = fk_ev d qX12_notice 33 [a0, .int x, a2, a3] (.int x :: st) h) ∧
  (∀ (d : Nat) (a0 a1 a2 : Value) (x : Int32) (st : List Value) (h : fk_H), fk_ev d qX12_notice 33 [a0, a1, a2, .int x] st h = fk_ev d qX12_notice 34 [a0, a1, a2, .int x] (.int x :: st) h) ∧
  (∀ (d : Nat) (L st : List Value) (N : Nat) (y : Nat → Nat → Int32) (l : Nat → Nat → Int64) (i : Nat) (v : Int32), i < 16 → fk_ev d qX12_notice 34 L (.int v :: .int (nI i) :: .ref 254 :: st) (fk_E N y l) = fk_ev d qX12_notice 35 L st (fk_E N (fk_u y 254 i (vp_nar .boolean v)) l)) ∧
  (∀ (d : Nat) (L st : List Value) (h : fk_H), fk_ev d qX12_notice 35 L st h = fk_ev d qX12_notice 36 L (.int (nI 1) :: st) h) ∧
  (∀ (d : Nat) (L : List Value) (h : fk_H), fk_ev d qX12_notice 36 L [.int (nI 0)] h = some (some (.int (nI 0)), h)) ∧
  (∀ (d : Nat) (L : List Value) (h : fk_H), fk_ev d qX12_notice 36 L [.int (nI 1)] h = some (some (.int (nI 1)), h)) ∧
  (∀ (d : Nat) (L : List Value) (p : Prop) [Decidable p] (h : fk_H), fk_ev d qX12_notice 36 L [.int (fk_b p)] h = some (some (.int (fk_b p)), h)) ∧
  (∀ (d : Nat) (L : List Value) (x : Int32) (h : fk_H), (x = nI 0 ∨ x = nI 1) → fk_ev d qX12_notice 36 L [.int x] h = some (some (.int x), h)) := ⟨fun d a0 a2 a3 x st h => fk_w_iloadn 1 [a0, .int x, a2, a3] dX12_notice_0 rfl,
  fun d L x0 h => fk_g_calls [.int x0] [] rfl lm_12_116 dX12_notice_1 rfl ⟨rfl, by decide⟩ (by simp),
  fun d L x st h => fk_r_if_eq dX12_notice_4 (by decide),
  fun d a0 a1 a3 x st h => fk_w_iloadn 2 [a0, a1, .int x, a3] dX12_notice_7 rfl,
  fun d L st h => fk_w_iconst dX12_notice_8 (by decide),
  fun d L x y st h => fk_r_icmp_eq dX12_notice_9 (by decide),
  fun d a0 a1 a3 x st h => fk_w_iloadn 2 [a0, a1, .int x, a3] dX12_notice_12 rfl,
  fun d L x0 h => fk_g_calls [.int x0] [] rfl lm_12_120 dX12_notice_13 rfl ⟨rfl, by decide⟩ (by simp),
  fun d L x st h => fk_r_if_ne dX12_notice_16 (by decide),
  fun d L st h => fk_w_iconst dX12_notice_19 (by decide),
  fun d L h => fk_r_ret dX12_notice_20 (Or.inr (Or.inl ⟨rfl, by decide⟩)),
  fun d L h => fk_r_ret dX12_notice_20 (Or.inr (Or.inl ⟨rfl, by decide⟩)),
  fun d L p _ h => fk_r_ret dX12_notice_20 (Or.inr (Or.inl ⟨rfl, fk_b_01⟩)),
  fun d L x h hx => fk_r_ret dX12_notice_20 (Or.inr (Or.inl ⟨rfl, hx⟩)),
  fun d a1 a2 a3 x st h => fk_w_aloadn 0 [.ref x, a1, a2, a3] dX12_notice_21 rfl,
  fun d L st N y l => fk_g_getC rfl lf_12_28 (by decide) rfl dX12_notice_22 fk_at_246,
  fun d a0 a2 a3 x st h => fk_w_iloadn 1 [a0, .int x, a2, a3] dX12_notice_25 rfl,
  fun d a0 a1 a3 x st h => fk_w_iloadn 2 [a0, a1, .int x, a3] dX12_notice_26 rfl,
  fun d L st N y l i v hi => fk_g_iast fk_at_253 fk_ln_253 (by decide) dX12_notice_27 hi,
  fun d a1 a2 a3 x st h => fk_w_aloadn 0 [.ref x, a1, a2, a3] dX12_notice_28 rfl,
  fun d L st N y l => fk_g_getC rfl lf_12_31 (by decide) rfl dX12_notice_29 fk_at_246,
  fun d a0 a2 a3 x st h => fk_w_iloadn 1 [a0, .int x, a2, a3] dX12_notice_32 rfl,
  fun d a0 a1 a2 x st h => fk_w_iloadn 3 [a0, a1, a2, .int x] dX12_notice_33 rfl,
  fun d L st N y l i v hi => fk_g_bast22 fk_at_254 fk_ln_254 (by decide) dX12_notice_34 hi,
  fun d L st h => fk_w_iconst dX12_notice_35 (by decide),
  fun d L h => fk_r_ret dX12_notice_36 (Or.inr (Or.inl ⟨rfl, by decide⟩)),
  fun d L h => fk_r_ret dX12_notice_36 (Or.inr (Or.inl ⟨rfl, by decide⟩)),
  fun d L p _ h => fk_r_ret dX12_notice_36 (Or.inr (Or.inl ⟨rfl, fk_b_01⟩)),
  fun d L x h hx => fk_r_ret dX12_notice_36 (Or.inr (Or.inl ⟨rfl, hx⟩))⟩
theorem dX12_lives_0 : decode cX12_lives 0 = .ok (.aload_n 0, 1) := by decide +kernel
theorem dX12_lives_1 : decode cX12_lives 1 = .ok (.getfield 7, 3) := by decide +kernel
theorem dX12_lives_4 : decode cX12_lives 4 = .ok (.sipush 192, 3) := by decide +kernel
theorem dX12_lives_7 : decode cX12_lives 7 = .ok (.iload_n 1, 1) := by decide +kernel
theorem dX12_lives_8 : decode cX12_lives 8 = .ok (.iadd, 1) := by decide +kernel
theorem dX12_lives_9 : decode cX12_lives 9 = .ok (.iaload, 1) := by decide +kernel
theorem dX12_lives_10 : decode cX12_lives 10 = .ok (.iconst 1, 1) := by decide +kernel
theorem dX12_lives_11 : decode cX12_lives 11 = .ok (.if_icmp .ne 7, 3) := by decide +kernel
theorem dX12_lives_14 : decode cX12_lives 14 = .ok (.iconst 1, 1) := by decide +kernel
theorem dX12_lives_15 : decode cX12_lives 15 = .ok (.goto 4, 3) := by decide +kernel
theorem dX12_lives_18 : decode cX12_lives 18 = .ok (.iconst 0, 1) := by decide +kernel
theorem dX12_lives_19 : decode cX12_lives 19 = .ok (.ireturn, 1) := by decide +kernel
theorem rX12_lives : (∀ (d : Nat) (a1 : Value) (x : Nat) (st : List Value) (h : fk_H), fk_ev d qX12_lives 0 [.ref x, a1] st h = fk_ev d qX12_lives 1 [.ref x, a1] (.ref x :: st) h) ∧
  (∀ (d : Nat) (L st : List Value) (N : Nat) (y : Nat → Nat → Int32) (l : Nat → Nat → Int64), fk_ev d qX12_lives 1 L (.ref 246 :: st) (fk_E N y l) = fk_ev d qX12_lives 4 L (.ref 247 :: st) (fk_E N y l)) ∧
  (∀ (d : Nat) (L st : List Value) (h : fk_H), fk_ev d qX12_lives 4 L st h = fk_ev d qX12_lives 7 L (.int (nI 192) :: st) h) ∧
  (∀ (d : Nat) (a0 : Value) (x : Int32) (st : List Value) (h : fk_H), fk_ev d qX12_lives 7 [a0, .int x] st h = fk_ev d qX12_lives 8 [a0, .int x] (.int x :: st) h) ∧
  (∀ (d : Nat) (L : List Value) (x y : Int32) (st : List Value) (h : fk_H), fk_ev d qX12_lives 8 L (.int y :: .int x :: st) h = fk_ev d qX12_lives 9 L (.int (x + y) :: st) h) ∧
  (∀ (d : Nat) (L st : List Value) (N : Nat) (y : Nat → Nat → Int32) (l : Nat → Nat → Int64) (i : Nat), i < 3912 → fk_ev d qX12_lives 9 L (.int (nI i) :: .ref 247 :: st) (fk_E N y l) = fk_ev d qX12_lives 10 L (.int (y 247 i) :: st) (fk_E N y l)) ∧
  (∀ (d : Nat) (L st : List Value) (h : fk_H), fk_ev d qX12_lives 10 L st h = fk_ev d qX12_lives 11 L (.int (nI 1) :: st) h) ∧
  (∀ (d : Nat) (L : List Value) (x y : Int32) (st : List Value) (h : fk_H), fk_ev d qX12_lives 11 L (.int y :: .int x :: st) h = if ¬ x = y then fk_ev d qX12_lives 18 L st h else fk_ev d qX12_lives 14 L st h) ∧
  (∀ (d : Nat) (L st : List Value) (h : fk_H), fk_ev d qX12_lives 14 L st h = fk_ev d qX12_lives 15 L (.int (nI 1) :: st) h) ∧
  (∀ (d : Nat) (L st : List Value) (h : fk_H), fk_ev d qX12_lives 15 L st h = fk_ev d qX12_lives 19 L st h) ∧
  (∀ (d : Nat) (L st : List Value) (h : fk_H), fk_ev d qX12_lives 18 L st h = fk_ev d qX12_lives 19 L (.int (nI 0) :: st) h) ∧
  (∀ (d : Nat) (L : List Value) (h : fk_H), fk_ev d qX12_lives 19 L [.int (nI 0)] h = some (some (.int (nI 0)), h)) ∧
  (∀ (d : Nat) (L : List Value) (h : fk_H), fk_ev d qX12_lives 19 L [.int (nI 1)] h = some (some (.int (nI 1)), h)) ∧
  (∀ (d : Nat) (L : List Value) (p : Prop) [Decidable p] (h : fk_H), fk_ev d qX12_lives 19 L [.int (fk_b p)] h = some (some (.int (fk_b p)), h)) ∧
  (∀ (d : Nat) (L : List Value) (x : Int32) (h : fk_H), (x = nI 0 ∨ x = nI 1) → fk_ev d qX12_lives 19 L [.int x] h = some (some (.int x), h)) := ⟨fun d a1 x st h => fk_w_aloadn 0 [.ref x, a1] dX12_lives_0 rfl,
  fun d L st N y l => fk_g_getC rfl lf_12_7 (by decide) rfl dX12_lives_1 fk_at_246,
  fun d L st h => fk_w_sipush dX12_lives_4 (by decide),
  fun d a0 x st h => fk_w_iloadn 1 [a0, .int x] dX12_lives_7 rfl,
  fun d L x y st h => fk_r_iadd dX12_lives_8,
  fun d L st N y l i hi => fk_g_iald fk_at_247 fk_ln_247 (by decide) dX12_lives_9 hi,
  fun d L st h => fk_w_iconst dX12_lives_10 (by decide),
  fun d L x y st h => fk_r_icmp_ne dX12_lives_11 (by decide),
  fun d L st h => fk_w_iconst dX12_lives_14 (by decide),
  fun d L st h => fk_r_goto dX12_lives_15 (by decide),
  fun d L st h => fk_w_iconst dX12_lives_18 (by decide),
  fun d L h => fk_r_ret dX12_lives_19 (Or.inr (Or.inl ⟨rfl, by decide⟩)),
  fun d L h => fk_r_ret dX12_lives_19 (Or.inr (Or.inl ⟨rfl, by decide⟩)),
  fun d L p _ h => fk_r_ret dX12_lives_19 (Or.inr (Or.inl ⟨rfl, fk_b_01⟩)),
  fun d L x h hx => fk_r_ret dX12_lives_19 (Or.inr (Or.inl ⟨rfl, hx⟩))⟩
theorem dX12_isHalf_0 : decode cX12_isHalf 0 = .ok (.iload_n 1, 1) := by decide +kernel
theorem dX12_isHalf_1 : decode cX12_isHalf 1 = .ok (.ifCond .lt 19, 3) := by decide +kernel
theorem dX12_isHalf_4 : decode cX12_isHalf 4 = .ok (.iload_n 1, 1) := by decide +kernel
theorem dX12_isHalf_5 : decode cX12_isHalf 5 = .ok (.aload_n 0, 1) := by decide +kernel
theorem dX12_isHalf_6 : decode cX12_isHalf 6 = .ok (.getfield 7, 3) := by decide +kernel
theorem dX12_isHalf_9 : decode cX12_isHalf 9 = .ok (.sipush 833, 3) := by decide +kernel
theorem dX12_isHalf_12 : decode cX12_isHalf 12 = .ok (.iaload, 1) := by decide +kernel
theorem dX12_isHalf_13 : decode cX12_isHalf 13 = .ok (.if_icmp .ge 7, 3) := by decide +kernel
theorem dX12_isHalf_16 : decode cX12_isHalf 16 = .ok (.iconst 1, 1) := by decide +kernel
theorem dX12_isHalf_17 : decode cX12_isHalf 17 = .ok (.goto 4, 3) := by decide +kernel
theorem dX12_isHalf_20 : decode cX12_isHalf 20 = .ok (.iconst 0, 1) := by decide +kernel
theorem dX12_isHalf_21 : decode cX12_isHalf 21 = .ok (.ireturn, 1) := by decide +kernel
theorem rX12_isHalf : (∀ (d : Nat) (a0 : Value) (x : Int32) (st : List Value) (h : fk_H), fk_ev d qX12_isHalf 0 [a0, .int x] st h = fk_ev d qX12_isHalf 1 [a0, .int x] (.int x :: st) h) ∧
  (∀ (d : Nat) (L : List Value) (x : Int32) (st : List Value) (h : fk_H), fk_ev d qX12_isHalf 1 L (.int x :: st) h = if x < nI 0 then fk_ev d qX12_isHalf 20 L st h else fk_ev d qX12_isHalf 4 L st h) ∧
  (∀ (d : Nat) (a0 : Value) (x : Int32) (st : List Value) (h : fk_H), fk_ev d qX12_isHalf 4 [a0, .int x] st h = fk_ev d qX12_isHalf 5 [a0, .int x] (.int x :: st) h) ∧
  (∀ (d : Nat) (a1 : Value) (x : Nat) (st : List Value) (h : fk_H), fk_ev d qX12_isHalf 5 [.ref x, a1] st h = fk_ev d qX12_isHalf 6 [.ref x, a1] (.ref x :: st) h) ∧
  (∀ (d : Nat) (L st : List Value) (N : Nat) (y : Nat → Nat → Int32) (l : Nat → Nat → Int64), fk_ev d qX12_isHalf 6 L (.ref 246 :: st) (fk_E N y l) = fk_ev d qX12_isHalf 9 L (.ref 247 :: st) (fk_E N y l)) ∧
  (∀ (d : Nat) (L st : List Value) (h : fk_H), fk_ev d qX12_isHalf 9 L st h = fk_ev d qX12_isHalf 12 L (.int (nI 833) :: st) h) ∧
  (∀ (d : Nat) (L st : List Value) (N : Nat) (y : Nat → Nat → Int32) (l : Nat → Nat → Int64) (i : Nat), i < 3912 → fk_ev d qX12_isHalf 12 L (.int (nI i) :: .ref 247 :: st) (fk_E N y l) = fk_ev d qX12_isHalf 13 L (.int (y 247 i) :: st) (fk_E N y l)) ∧
  (∀ (d : Nat) (L : List Value) (x y : Int32) (st : List Value) (h : fk_H), fk_ev d qX12_isHalf 13 L (.int y :: .int x :: st) h = if y ≤ x then fk_ev d qX12_isHalf 20 L st h else fk_ev d qX12_isHalf 16 L st h) ∧
  (∀ (d : Nat) (L st : List Value) (h : fk_H), fk_ev d qX12_isHalf 16 L st h = fk_ev d qX12_isHalf 17 L (.int (nI 1) :: st) h) ∧
  (∀ (d : Nat) (L st : List Value) (h : fk_H), fk_ev d qX12_isHalf 17 L st h = fk_ev d qX12_isHalf 21 L st h) ∧
  (∀ (d : Nat) (L st : List Value) (h : fk_H), fk_ev d qX12_isHalf 20 L st h = fk_ev d qX12_isHalf 21 L (.int (nI 0) :: st) h) ∧
  (∀ (d : Nat) (L : List Value) (h : fk_H), fk_ev d qX12_isHalf 21 L [.int (nI 0)] h = some (some (.int (nI 0)), h)) ∧
  (∀ (d : Nat) (L : List Value) (h : fk_H), fk_ev d qX12_isHalf 21 L [.int (nI 1)] h = some (some (.int (nI 1)), h)) ∧
  (∀ (d : Nat) (L : List Value) (p : Prop) [Decidable p] (h : fk_H), fk_ev d qX12_isHalf 21 L [.int (fk_b p)] h = some (some (.int (fk_b p)), h)) ∧
  (∀ (d : Nat) (L : List Value) (x : Int32) (h : fk_H), (x = nI 0 ∨ x = nI 1) → fk_ev d qX12_isHalf 21 L [.int x] h = some (some (.int x), h)) := ⟨fun d a0 x st h => fk_w_iloadn 1 [a0, .int x] dX12_isHalf_0 rfl,
  fun d L x st h => fk_r_if_lt dX12_isHalf_1 (by decide),
  fun d a0 x st h => fk_w_iloadn 1 [a0, .int x] dX12_isHalf_4 rfl,
  fun d a1 x st h => fk_w_aloadn 0 [.ref x, a1] dX12_isHalf_5 rfl,
  fun d L st N y l => fk_g_getC rfl lf_12_7 (by decide) rfl dX12_isHalf_6 fk_at_246,
  fun d L st h => fk_w_sipush dX12_isHalf_9 (by decide),
  fun d L st N y l i hi => fk_g_iald fk_at_247 fk_ln_247 (by decide) dX12_isHalf_12 hi,
  fun d L x y st h => fk_r_icmp_ge dX12_isHalf_13 (by decide),
  fun d L st h => fk_w_iconst dX12_isHalf_16 (by decide),
  fun d L st h => fk_r_goto dX12_isHalf_17 (by decide),
  fun d L st h => fk_w_iconst dX12_isHalf_20 (by decide),
  fun d L h => fk_r_ret dX12_isHalf_21 (Or.inr (Or.inl ⟨rfl, by decide⟩)),
  fun d L h => fk_r_ret dX12_isHalf_21 (Or.inr (Or.inl ⟨rfl, by decide⟩)),
  fun d L p _ h => fk_r_ret dX12_isHalf_21 (Or.inr (Or.inl ⟨rfl, fk_b_01⟩)),
  fun d L x h hx => fk_r_ret dX12_isHalf_21 (Or.inr (Or.inl ⟨rfl, hx⟩))⟩
theorem dX12_isLiving_0 : decode cX12_isLiving 0 = .ok (.aload_n 0, 1) := by decide +kernel
theorem dX12_isLiving_1 : decode cX12_isLiving 1 = .ok (.iload_n 1, 1) := by decide +kernel
theorem dX12_isLiving_2 : decode cX12_isLiving 2 = .ok (.invokevirtual 123, 3) := by decide +kernel
theorem dX12_isLiving_5 : decode cX12_isLiving 5 = .ok (.ifCond .eq 15, 3) := by decide +kernel
theorem dX12_isLiving_8 : decode cX12_isLiving 8 = .ok (.aload_n 0, 1) := by decide +kernel
theorem dX12_isLiving_9 : decode cX12_isLiving 9 = .ok (.iload_n 1, 1) := by decide +kernel
theorem dX12_isLiving_10 : decode cX12_isLiving 10 = .ok (.invokevirtual 126, 3) := by decide +kernel
theorem dX12_isLiving_13 : decode cX12_isLiving 13 = .ok (.ifCond .eq 7, 3) := by decide +kernel
theorem dX12_isLiving_16 : decode cX12_isLiving 16 = .ok (.iconst 1, 1) := by decide +kernel
theorem dX12_isLiving_17 : decode cX12_isLiving 17 = .ok (.goto 4, 3) := by decide +kernel
theorem dX12_isLiving_20 : decode cX12_isLiving 20 = .ok (.iconst 0, 1) := by decide +kernel
theorem dX12_isLiving_21 : decode cX12_isLiving 21 = .ok (.ireturn, 1) := by decide +kernel
theorem rX12_isLiving : (∀ (d : Nat) (a1 : Value) (x : Nat) (st : List Value) (h : fk_H), fk_ev d qX12_isLiving 0 [.ref x, a1] st h = fk_ev d qX12_isLiving 1 [.ref x, a1] (.ref x :: st) h) ∧
  (∀ (d : Nat) (a0 : Value) (x : Int32) (st : List Value) (h : fk_H), fk_ev d qX12_isLiving 1 [a0, .int x] st h = fk_ev d qX12_isLiving 2 [a0, .int x] (.int x :: st) h) ∧
  (∀ (d : Nat) (L : List Value) (x0 : Int32)  (N : Nat) (y : Nat → Nat → Int32) (l : Nat → Nat → Int64), fk_ev (d + 1) qX12_isLiving 2 L (.int x0 :: .ref 246 :: []) (fk_E N y l) = (fk_ev d qX12_isHalf 0 [.ref 246, .int x0] [] (fk_E N y l)).bind fun o => fk_ev (d + 1) qX12_isLiving 5 L (o.1.toList ++ []) o.2) ∧
  (∀ (d : Nat) (L : List Value) (x : Int32) (st : List Value) (h : fk_H), fk_ev d qX12_isLiving 5 L (.int x :: st) h = if x = nI 0 then fk_ev d qX12_isLiving 20 L st h else fk_ev d qX12_isLiving 8 L st h) ∧
  (∀ (d : Nat) (a1 : Value) (x : Nat) (st : List Value) (h : fk_H), fk_ev d qX12_isLiving 8 [.ref x, a1] st h = fk_ev d qX12_isLiving 9 [.ref x, a1] (.ref x :: st) h) ∧
  (∀ (d : Nat) (a0 : Value) (x : Int32) (st : List Value) (h : fk_H), fk_ev d qX12_isLiving 9 [a0, .int x] st h = fk_ev d qX12_isLiving 10 [a0, .int x] (.int x :: st) h) ∧
  (∀ (d : Nat) (L : List Value) (x0 : Int32)  (N : Nat) (y : Nat → Nat → Int32) (l : Nat → Nat → Int64), fk_ev (d + 1) qX12_isLiving 10 L (.int x0 :: .ref 246 :: []) (fk_E N y l) = (fk_ev d qX12_lives 0 [.ref 246, .int x0] [] (fk_E N y l)).bind fun o => fk_ev (d + 1) qX12_isLiving 13 L (o.1.toList ++ []) o.2) ∧
  (∀ (d : Nat) (L : List Value) (x : Int32) (st : List Value) (h : fk_H), fk_ev d qX12_isLiving 13 L (.int x :: st) h = if x = nI 0 then fk_ev d qX12_isLiving 20 L st h else fk_ev d qX12_isLiving 16 L st h) ∧
  (∀ (d : Nat) (L st : List Value) (h : fk_H), fk_ev d qX12_isLiving 16 L st h = fk_ev d qX12_isLiving 17 L (.int (nI 1) :: st) h) ∧
  (∀ (d : Nat) (L st : List Value) (h : fk_H), fk_ev d qX12_isLiving 17 L st h = fk_ev d qX12_isLiving 21 L st h) ∧
  (∀ (d : Nat) (L st : List Value) (h : fk_H), fk_ev d qX12_isLiving 20 L st h = fk_ev d qX12_isLiving 21 L (.int (nI 0) :: st) h) ∧
  (∀ (d : Nat) (L : List Value) (h : fk_H), fk_ev d qX12_isLiving 21 L [.int (nI 0)] h = some (some (.int (nI 0)), h)) ∧
  (∀ (d : Nat) (L : List Value) (h : fk_H), fk_ev d qX12_isLiving 21 L [.int (nI 1)] h = some (some (.int (nI 1)), h)) ∧
  (∀ (d : Nat) (L : List Value) (p : Prop) [Decidable p] (h : fk_H), fk_ev d qX12_isLiving 21 L [.int (fk_b p)] h = some (some (.int (fk_b p)), h)) ∧
  (∀ (d : Nat) (L : List Value) (x : Int32) (h : fk_H), (x = nI 0 ∨ x = nI 1) → fk_ev d qX12_isLiving 21 L [.int x] h = some (some (.int x), h)) := ⟨fun d a1 x st h => fk_w_aloadn 0 [.ref x, a1] dX12_isLiving_0 rfl,
  fun d a0 x st h => fk_w_iloadn 1 [a0, .int x] dX12_isLiving_1 rfl,
  fun d L x0 N y l  => fk_g_call [.int x0] [] rfl lm_12_123 dX12_isLiving_2 rfl ⟨rfl, by decide⟩ (by simp) fk_at_246,
  fun d L x st h => fk_r_if_eq dX12_isLiving_5 (by decide),
  fun d a1 x st h => fk_w_aloadn 0 [.ref x, a1] dX12_isLiving_8 rfl,
  fun d a0 x st h => fk_w_iloadn 1 [a0, .int x] dX12_isLiving_9 rfl,
  fun d L x0 N y l  => fk_g_call [.int x0] [] rfl lm_12_126 dX12_isLiving_10 rfl ⟨rfl, by decide⟩ (by simp) fk_at_246,
  fun d L x st h => fk_r_if_eq dX12_isLiving_13 (by decide),
  fun d L st h => fk_w_iconst dX12_isLiving_16 (by decide),
  fun d L st h => fk_r_goto dX12_isLiving_17 (by decide),
  fun d L st h => fk_w_iconst dX12_isLiving_20 (by decide),
  fun d L h => fk_r_ret dX12_isLiving_21 (Or.inr (Or.inl ⟨rfl, by decide⟩)),
  fun d L h => fk_r_ret dX12_isLiving_21 (Or.inr (Or.inl ⟨rfl, by decide⟩)),
  fun d L p _ h => fk_r_ret dX12_isLiving_21 (Or.inr (Or.inl ⟨rfl, fk_b_01⟩)),
  fun d L x h hx => fk_r_ret dX12_isLiving_21 (Or.inr (Or.inl ⟨rfl, hx⟩))⟩
theorem dX12_isAt_0 : decode cX12_isAt 0 = .ok (.aload_n 0, 1) := by decide +kernel
theorem dX12_isAt_1 : decode cX12_isAt 1 = .ok (.iload_n 1, 1) := by decide +kernel
theorem dX12_isAt_2 : decode cX12_isAt 2 = .ok (.invokevirtual 129, 3) := by decide +kernel
theorem dX12_isAt_5 : decode cX12_isAt 5 = .ok (.ifCond .eq 20, 3) := by decide +kernel
theorem dX12_isAt_8 : decode cX12_isAt 8 = .ok (.aload_n 0, 1) := by decide +kernel
theorem dX12_isAt_9 : decode cX12_isAt 9 = .ok (.getfield 7, 3) := by decide +kernel
theorem dX12_isAt_12 : decode cX12_isAt 12 = .ok (.sipush 320, 3) := by decide +kernel
theorem dX12_isAt_15 : decode cX12_isAt 15 = .ok (.iload_n 1, 1) := by decide +kernel
theorem dX12_isAt_16 : decode cX12_isAt 16 = .ok (.iadd, 1) := by decide +kernel
theorem dX12_isAt_17 : decode cX12_isAt 17 = .ok (.iaload, 1) := by decide +kernel
theorem dX12_isAt_18 : decode cX12_isAt 18 = .ok (.ifCond .lt 7, 3) := by decide +kernel
theorem dX12_isAt_21 : decode cX12_isAt 21 = .ok (.iconst 1, 1) := by decide +kernel
theorem dX12_isAt_22 : decode cX12_isAt 22 = .ok (.goto 4, 3) := by decide +kernel
theorem dX12_isAt_25 : decode cX12_isAt 25 = .ok (.iconst 0, 1) := by decide +kernel
theorem dX12_isAt_26 : decode cX12_isAt 26 = .ok (.ireturn, 1) := by decide +kernel
theorem rX12_isAt : (∀ (d : Nat) (a1 : Value) (x : Nat) (st : List Value) (h : fk_H), fk_ev d qX12_isAt 0 [.ref x, a1] st h = fk_ev d qX12_isAt 1 [.ref x, a1] (.ref x :: st) h) ∧
  (∀ (d : Nat) (a0 : Value) (x : Int32) (st : List Value) (h : fk_H), fk_ev d qX12_isAt 1 [a0, .int x] st h = fk_ev d qX12_isAt 2 [a0, .int x] (.int x :: st) h) ∧
  (∀ (d : Nat) (L : List Value) (x0 : Int32)  (N : Nat) (y : Nat → Nat → Int32) (l : Nat → Nat → Int64), fk_ev (d + 1) qX12_isAt 2 L (.int x0 :: .ref 246 :: []) (fk_E N y l) = (fk_ev d qX12_isLiving 0 [.ref 246, .int x0] [] (fk_E N y l)).bind fun o => fk_ev (d + 1) qX12_isAt 5 L (o.1.toList ++ []) o.2) ∧
  (∀ (d : Nat) (L : List Value) (x : Int32) (st : List Value) (h : fk_H), fk_ev d qX12_isAt 5 L (.int x :: st) h = if x = nI 0 then fk_ev d qX12_isAt 25 L st h else fk_ev d qX12_isAt 8 L st h) ∧
  (∀ (d : Nat) (a1 : Value) (x : Nat) (st : List Value) (h : fk_H), fk_ev d qX12_isAt 8 [.ref x, a1] st h = fk_ev d qX12_isAt 9 [.ref x, a1] (.ref x :: st) h) ∧
  (∀ (d : Nat) (L st : List Value) (N : Nat) (y : Nat → Nat → Int32) (l : Nat → Nat → Int64), fk_ev d qX12_isAt 9 L (.ref 246 :: st) (fk_E N y l) = fk_ev d qX12_isAt 12 L (.ref 247 :: st) (fk_E N y l)) ∧
  (∀ (d : Nat) (L st : List Value) (h : fk_H), fk_ev d qX12_isAt 12 L st h = fk_ev d qX12_isAt 15 L (.int (nI 320) :: st) h) ∧
  (∀ (d : Nat) (a0 : Value) (x : Int32) (st : List Value) (h : fk_H), fk_ev d qX12_isAt 15 [a0, .int x] st h = fk_ev d qX12_isAt 16 [a0, .int x] (.int x :: st) h) ∧
  (∀ (d : Nat) (L : List Value) (x y : Int32) (st : List Value) (h : fk_H), fk_ev d qX12_isAt 16 L (.int y :: .int x :: st) h = fk_ev d qX12_isAt 17 L (.int (x + y) :: st) h) ∧
  (∀ (d : Nat) (L st : List Value) (N : Nat) (y : Nat → Nat → Int32) (l : Nat → Nat → Int64) (i : Nat), i < 3912 → fk_ev d qX12_isAt 17 L (.int (nI i) :: .ref 247 :: st) (fk_E N y l) = fk_ev d qX12_isAt 18 L (.int (y 247 i) :: st) (fk_E N y l)) ∧
  (∀ (d : Nat) (L : List Value) (x : Int32) (st : List Value) (h : fk_H), fk_ev d qX12_isAt 18 L (.int x :: st) h = if x < nI 0 then fk_ev d qX12_isAt 25 L st h else fk_ev d qX12_isAt 21 L st h) ∧
  (∀ (d : Nat) (L st : List Value) (h : fk_H), fk_ev d qX12_isAt 21 L st h = fk_ev d qX12_isAt 22 L (.int (nI 1) :: st) h) ∧
  (∀ (d : Nat) (L st : List Value) (h : fk_H), fk_ev d qX12_isAt 22 L st h = fk_ev d qX12_isAt 26 L st h) ∧
  (∀ (d : Nat) (L st : List Value) (h : fk_H), fk_ev d qX12_isAt 25 L st h = fk_ev d qX12_isAt 26 L (.int (nI 0) :: st) h) ∧
  (∀ (d : Nat) (L : List Value) (h : fk_H), fk_ev d qX12_isAt 26 L [.int (nI 0)] h = some (some (.int (nI 0)), h)) ∧
  (∀ (d : Nat) (L : List Value) (h : fk_H), fk_ev d qX12_isAt 26 L [.int (nI 1)] h = some (some (.int (nI 1)), h)) ∧
  (∀ (d : Nat) (L : List Value) (p : Prop) [Decidable p] (h : fk_H), fk_ev d qX12_isAt 26 L [.int (fk_b p)] h = some (some (.int (fk_b p)), h)) ∧
  (∀ (d : Nat) (L : List Value) (x : Int32) (h : fk_H), (x = nI 0 ∨ x = nI 1) → fk_ev d qX12_isAt 26 L [.int x] h = some (some (.int x), h)) := ⟨fun d a1 x st h => fk_w_aloadn 0 [.ref x, a1] dX12_isAt_0 rfl,
  fun d a0 x st h => fk_w_iloadn 1 [a0, .int x] dX12_isAt_1 rfl,
  fun d L x0 N y l  => fk_g_call [.int x0] [] rfl lm_12_129 dX12_isAt_2 rfl ⟨rfl, by decide⟩ (by simp) fk_at_246,
  fun d L x st h => fk_r_if_eq dX12_isAt_5 (by decide),
  fun d a1 x st h => fk_w_aloadn 0 [.ref x, a1] dX12_isAt_8 rfl,
  fun d L st N y l => fk_g_getC rfl lf_12_7 (by decide) rfl dX12_isAt_9 fk_at_246,
  fun d L st h => fk_w_sipush dX12_isAt_12 (by decide),
  fun d a0 x st h => fk_w_iloadn 1 [a0, .int x] dX12_isAt_15 rfl,
  fun d L x y st h => fk_r_iadd dX12_isAt_16,
  fun d L st N y l i hi => fk_g_iald fk_at_247 fk_ln_247 (by decide) dX12_isAt_17 hi,
  fun d L x st h => fk_r_if_lt dX12_isAt_18 (by decide),
  fun d L st h => fk_w_iconst dX12_isAt_21 (by decide),
  fun d L st h => fk_r_goto dX12_isAt_22 (by decide),
  fun d L st h => fk_w_iconst dX12_isAt_25 (by decide),
  fun d L h => fk_r_ret dX12_isAt_26 (Or.inr (Or.inl ⟨rfl, by decide⟩)),
  fun d L h => fk_r_ret dX12_isAt_26 (Or.inr (Or.inl ⟨rfl, by decide⟩)),
  fun d L p _ h => fk_r_ret dX12_isAt_26 (Or.inr (Or.inl ⟨rfl, fk_b_01⟩)),
  fun d L x h hx => fk_r_ret dX12_isAt_26 (Or.inr (Or.inl ⟨rfl, hx⟩))⟩
theorem dX12_livingOf_0 : decode cX12_livingOf 0 = .ok (.iconst 0, 1) := by decide +kernel
theorem dX12_livingOf_1 : decode cX12_livingOf 1 = .ok (.istore_n 2, 1) := by decide +kernel
theorem dX12_livingOf_2 : decode cX12_livingOf 2 = .ok (.iconst 0, 1) := by decide +kernel
theorem dX12_livingOf_3 : decode cX12_livingOf 3 = .ok (.istore_n 3, 1) := by decide +kernel
theorem dX12_livingOf_4 : decode cX12_livingOf 4 = .ok (.iload_n 3, 1) := by decide +kernel
theorem dX12_livingOf_5 : decode cX12_livingOf 5 = .ok (.aload_n 0, 1) := by decide +kernel
theorem dX12_livingOf_6 : decode cX12_livingOf 6 = .ok (.getfield 7, 3) := by decide +kernel
theorem dX12_livingOf_9 : decode cX12_livingOf 9 = .ok (.sipush 833, 3) := by decide +kernel
theorem dX12_livingOf_12 : decode cX12_livingOf 12 = .ok (.iaload, 1) := by decide +kernel
theorem dX12_livingOf_13 : decode cX12_livingOf 13 = .ok (.if_icmp .ge 37, 3) := by decide +kernel
theorem dX12_livingOf_16 : decode cX12_livingOf 16 = .ok (.iload_n 2, 1) := by decide +kernel
theorem dX12_livingOf_17 : decode cX12_livingOf 17 = .ok (.aload_n 0, 1) := by decide +kernel
theorem dX12_livingOf_18 : decode cX12_livingOf 18 = .ok (.iload_n 3, 1) := by decide +kernel
theorem dX12_livingOf_19 : decode cX12_livingOf 19 = .ok (.invokevirtual 126, 3) := by decide +kernel
theorem dX12_livingOf_22 : decode cX12_livingOf 22 = .ok (.ifCond .eq 19, 3) := by decide +kernel
theorem dX12_livingOf_25 : decode cX12_livingOf 25 = .ok (.aload_n 0, 1) := by decide +kernel
theorem dX12_livingOf_26 : decode cX12_livingOf 26 = .ok (.getfield 7, 3) := by decide +kernel
theorem dX12_livingOf_29 : decode cX12_livingOf 29 = .ok (.iconst 0, 1) := by decide +kernel
theorem dX12_livingOf_30 : decode cX12_livingOf 30 = .ok (.iload_n 3, 1) := by decide +kernel
theorem dX12_livingOf_31 : decode cX12_livingOf 31 = .ok (.iadd, 1) := by decide +kernel
theorem dX12_livingOf_32 : decode cX12_livingOf 32 = .ok (.iaload, 1) := by decide +kernel
theorem dX12_livingOf_33 : decode cX12_livingOf 33 = .ok (.iload_n 1, 1) := by decide +kernel
theorem dX12_livingOf_34 : decode cX12_livingOf 34 = .ok (.if_icmp .ne 7, 3) := by decide +kernel
theorem dX12_livingOf_37 : decode cX12_livingOf 37 = .ok (.iconst 1, 1) := by decide +kernel
theorem dX12_livingOf_38 : decode cX12_livingOf 38 = .ok (.goto 4, 3) := by decide +kernel
theorem dX12_livingOf_41 : decode cX12_livingOf 41 = .ok (.iconst 0, 1) := by decide +kernel
theorem dX12_livingOf_42 : decode cX12_livingOf 42 = .ok (.iadd, 1) := by decide +kernel
theorem dX12_livingOf_43 : decode cX12_livingOf 43 = .ok (.istore_n 2, 1) := by decide +kernel
theorem dX12_livingOf_44 : decode cX12_livingOf 44 = .ok (.iinc 3 1, 3) := by decide +kernel
theorem dX12_livingOf_47 : decode cX12_livingOf 47 = .ok (.goto (-43), 3) := by decide +kernel
theorem dX12_livingOf_50 : decode cX12_livingOf 50 = .ok (.iload_n 2, 1) := by decide +kernel
theorem dX12_livingOf_51 : decode cX12_livingOf 51 = .ok (.ireturn, 1) := by decide +kernel
theorem rX12_livingOf : (∀ (d : Nat) (L st : List Value) (h : fk_H), fk_ev d qX12_livingOf 0 L st h = fk_ev d qX12_livingOf 1 L (.int (nI 0) :: st) h) ∧
  (∀ (d : Nat) (a0 a1 a2 a3 : Value) (x : Int32) (st : List Value) (h : fk_H), fk_ev d qX12_livingOf 1 [a0, a1, a2, a3] (.int x :: st) h = fk_ev d qX12_livingOf 2 [a0, a1, .int x, a3] st h) ∧
  (∀ (d : Nat) (L st : List Value) (h : fk_H), fk_ev d qX12_livingOf 2 L st h = fk_ev d qX12_livingOf 3 L (.int (nI 0) :: st) h) ∧
  (∀ (d : Nat) (a0 a1 a2 a3 : Value) (x : Int32) (st : List Value) (h : fk_H), fk_ev d qX12_livingOf 3 [a0, a1, a2, a3] (.int x :: st) h = fk_ev d qX12_livingOf 4 [a0, a1, a2, .int x] st h) ∧
  (∀ (d : Nat) (a1 a2 a3 : Value) (x : Nat) (st : List Value) (h : fk_H), fk_ev d qX12_livingOf 5 [.ref x, a1, a2, a3] st h = fk_ev d qX12_livingOf 6 [.ref x, a1, a2, a3] (.ref x :: st) h) ∧
  (∀ (d : Nat) (L st : List Value) (N : Nat) (y : Nat → Nat → Int32) (l : Nat → Nat → Int64), fk_ev d qX12_livingOf 6 L (.ref 246 :: st) (fk_E N y l) = fk_ev d qX12_livingOf 9 L (.ref 247 :: st) (fk_E N y l)) ∧
  (∀ (d : Nat) (L st : List Value) (h : fk_H), fk_ev d qX12_livingOf 9 L st h = fk_ev d qX12_livingOf 12 L (.int (nI 833) :: st) h) ∧
  (∀ (d : Nat) (L st : List Value) (N : Nat) (y : Nat → Nat → Int32) (l : Nat → Nat → Int64) (i : Nat), i < 3912 → fk_ev d qX12_livingOf 12 L (.int (nI i) :: .ref 247 :: st) (fk_E N y l) = fk_ev d qX12_livingOf 13 L (.int (y 247 i) :: st) (fk_E N y l)) ∧
  (∀ (d : Nat) (L : List Value) (x y : Int32) (st : List Value) (h : fk_H), fk_ev d qX12_livingOf 13 L (.int y :: .int x :: st) h = if y ≤ x then fk_ev d qX12_livingOf 50 L st h else fk_ev d qX12_livingOf 16 L st h) ∧
  (∀ (d : Nat) (a0 a1 a3 : Value) (x : Int32) (st : List Value) (h : fk_H), fk_ev d qX12_livingOf 16 [a0, a1, .int x, a3] st h = fk_ev d qX12_livingOf 17 [a0, a1, .int x, a3] (.int x :: st) h) ∧
  (∀ (d : Nat) (a1 a2 a3 : Value) (x : Nat) (st : List Value) (h : fk_H), fk_ev d qX12_livingOf 17 [.ref x, a1, a2, a3] st h = fk_ev d qX12_livingOf 18 [.ref x, a1, a2, a3] (.ref x :: st) h) ∧
  (∀ (d : Nat) (a0 a1 a2 : Value) (x : Int32) (st : List Value) (h : fk_H), fk_ev d qX12_livingOf 18 [a0, a1, a2, .int x] st h = fk_ev d qX12_livingOf 19 [a0, a1, a2, .int x] (.int x :: st) h) ∧
  (∀ (d : Nat) (L : List Value) (x0 : Int32) (w0 : Value) (N : Nat) (y : Nat → Nat → Int32) (l : Nat → Nat → Int64), fk_ev (d + 1) qX12_livingOf 19 L (.int x0 :: .ref 246 :: [w0]) (fk_E N y l) = (fk_ev d qX12_lives 0 [.ref 246, .int x0] [] (fk_E N y l)).bind fun o => fk_ev (d + 1) qX12_livingOf 22 L (o.1.toList ++ [w0]) o.2) ∧
  (∀ (d : Nat) (L : List Value) (x : Int32) (st : List Value) (h : fk_H), fk_ev d qX12_livingOf 22 L (.int x :: st) h = if x = nI 0 then fk_ev d qX12_livingOf 41 L st h else fk_ev d qX12_livingOf 25 L st h) ∧
  (∀ (d : Nat) (a1 a2 a3 : Value) (x : Nat) (st : List Value) (h : fk_H), fk_ev d qX12_livingOf 25 [.ref x, a1, a2, a3] st h = fk_ev d qX12_livingOf 26 [.ref x, a1, a2, a3] (.ref x :: st) h) ∧
  (∀ (d : Nat) (L st : List Value) (N : Nat) (y : Nat → Nat → Int32) (l : Nat → Nat → Int64), fk_ev d qX12_livingOf 26 L (.ref 246 :: st) (fk_E N y l) = fk_ev d qX12_livingOf 29 L (.ref 247 :: st) (fk_E N y l)) ∧
  (∀ (d : Nat) (L st : List Value) (h : fk_H), fk_ev d qX12_livingOf 29 L st h = fk_ev d qX12_livingOf 30 L (.int (nI 0) :: st) h) ∧
  (∀ (d : Nat) (a0 a1 a2 : Value) (x : Int32) (st : List Value) (h : fk_H), fk_ev d qX12_livingOf 30 [a0, a1, a2, .int x] st h = fk_ev d qX12_livingOf 31 [a0, a1, a2, .int x] (.int x :: st) h) ∧
  (∀ (d : Nat) (L : List Value) (x y : Int32) (st : List Value) (h : fk_H), fk_ev d qX12_livingOf 31 L (.int y :: .int x :: st) h = fk_ev d qX12_livingOf 32 L (.int (x + y) :: st) h) ∧
  (∀ (d : Nat) (L st : List Value) (N : Nat) (y : Nat → Nat → Int32) (l : Nat → Nat → Int64) (i : Nat), i < 3912 → fk_ev d qX12_livingOf 32 L (.int (nI i) :: .ref 247 :: st) (fk_E N y l) = fk_ev d qX12_livingOf 33 L (.int (y 247 i) :: st) (fk_E N y l)) ∧
  (∀ (d : Nat) (a0 a2 a3 : Value) (x : Int32) (st : List Value) (h : fk_H), fk_ev d qX12_livingOf 33 [a0, .int x, a2, a3] st h = fk_ev d qX12_livingOf 34 [a0, .int x, a2, a3] (.int x :: st) h) ∧
  (∀ (d : Nat) (L : List Value) (x y : Int32) (st : List Value) (h : fk_H), fk_ev d qX12_livingOf 34 L (.int y :: .int x :: st) h = if ¬ x = y then fk_ev d qX12_livingOf 41 L st h else fk_ev d qX12_livingOf 37 L st h) ∧
  (∀ (d : Nat) (L st : List Value) (h : fk_H), fk_ev d qX12_livingOf 37 L st h = fk_ev d qX12_livingOf 38 L (.int (nI 1) :: st) h) ∧
  (∀ (d : Nat) (L st : List Value) (h : fk_H), fk_ev d qX12_livingOf 38 L st h = fk_ev d qX12_livingOf 42 L st h) ∧
  (∀ (d : Nat) (L st : List Value) (h : fk_H), fk_ev d qX12_livingOf 41 L st h = fk_ev d qX12_livingOf 42 L (.int (nI 0) :: st) h) ∧
  (∀ (d : Nat) (L : List Value) (x y : Int32) (st : List Value) (h : fk_H), fk_ev d qX12_livingOf 42 L (.int y :: .int x :: st) h = fk_ev d qX12_livingOf 43 L (.int (x + y) :: st) h) ∧
  (∀ (d : Nat) (a0 a1 a2 a3 : Value) (x : Int32) (st : List Value) (h : fk_H), fk_ev d qX12_livingOf 43 [a0, a1, a2, a3] (.int x :: st) h = fk_ev d qX12_livingOf 44 [a0, a1, .int x, a3] st h) ∧
  (∀ (d : Nat) (a0 a1 a2 : Value) (x : Int32) (st : List Value) (h : fk_H), fk_ev d qX12_livingOf 44 [a0, a1, a2, .int x] st h = fk_ev d qX12_livingOf 47 [a0, a1, a2, .int (x + nI 1)] st h) ∧
  (∀ (d : Nat) (L st : List Value) (h : fk_H), fk_ev d qX12_livingOf 47 L st h = fk_ev d qX12_livingOf 4 L st h) ∧
  (∀ (d : Nat) (a0 a1 a3 : Value) (x : Int32) (st : List Value) (h : fk_H), fk_ev d qX12_livingOf 50 [a0, a1, .int x, a3] st h = fk_ev d qX12_livingOf 51 [a0, a1, .int x, a3] (.int x :: st) h) ∧
  (∀ (d : Nat) (L : List Value) (x : Int32) (h : fk_H), fk_ev d qX12_livingOf 51 L [.int x] h = some (some (.int x), h)) := ⟨fun d L st h => fk_w_iconst dX12_livingOf_0 (by decide),
  fun d a0 a1 a2 a3 x st h => fk_w_istoren 2 4 [] [a0, a1, a2, a3] [a0, a1, .int x, a3] dX12_livingOf_1 rfl rfl (by decide) rfl,
  fun d L st h => fk_w_iconst dX12_livingOf_2 (by decide),
  fun d a0 a1 a2 a3 x st h => fk_w_istoren 3 4 [] [a0, a1, a2, a3] [a0, a1, a2, .int x] dX12_livingOf_3 rfl rfl (by decide) rfl,
  fun d a1 a2 a3 x st h => fk_w_aloadn 0 [.ref x, a1, a2, a3] dX12_livingOf_5 rfl,
  fun d L st N y l => fk_g_getC rfl lf_12_7 (by decide) rfl dX12_livingOf_6 fk_at_246,
  fun d L st h => fk_w_sipush dX12_livingOf_9 (by decide),
  fun d L st N y l i hi => fk_g_iald fk_at_247 fk_ln_247 (by decide) dX12_livingOf_12 hi,
  fun d L x y st h => fk_r_icmp_ge dX12_livingOf_13 (by decide),
  fun d a0 a1 a3 x st h => fk_w_iloadn 2 [a0, a1, .int x, a3] dX12_livingOf_16 rfl,
  fun d a1 a2 a3 x st h => fk_w_aloadn 0 [.ref x, a1, a2, a3] dX12_livingOf_17 rfl,
  fun d a0 a1 a2 x st h => fk_w_iloadn 3 [a0, a1, a2, .int x] dX12_livingOf_18 rfl,
  fun d L x0 w0 N y l  => fk_g_call [.int x0] [w0] rfl lm_12_126 dX12_livingOf_19 rfl ⟨rfl, by decide⟩ (by simp) fk_at_246,
  fun d L x st h => fk_r_if_eq dX12_livingOf_22 (by decide),
  fun d a1 a2 a3 x st h => fk_w_aloadn 0 [.ref x, a1, a2, a3] dX12_livingOf_25 rfl,
  fun d L st N y l => fk_g_getC rfl lf_12_7 (by decide) rfl dX12_livingOf_26 fk_at_246,
  fun d L st h => fk_w_iconst dX12_livingOf_29 (by decide),
  fun d a0 a1 a2 x st h => fk_w_iloadn 3 [a0, a1, a2, .int x] dX12_livingOf_30 rfl,
  fun d L x y st h => fk_r_iadd dX12_livingOf_31,
  fun d L st N y l i hi => fk_g_iald fk_at_247 fk_ln_247 (by decide) dX12_livingOf_32 hi,
  fun d a0 a2 a3 x st h => fk_w_iloadn 1 [a0, .int x, a2, a3] dX12_livingOf_33 rfl,
  fun d L x y st h => fk_r_icmp_ne dX12_livingOf_34 (by decide),
  fun d L st h => fk_w_iconst dX12_livingOf_37 (by decide),
  fun d L st h => fk_r_goto dX12_livingOf_38 (by decide),
  fun d L st h => fk_w_iconst dX12_livingOf_41 (by decide),
  fun d L x y st h => fk_r_iadd dX12_livingOf_42,
  fun d a0 a1 a2 a3 x st h => fk_w_istoren 2 4 [] [a0, a1, a2, a3] [a0, a1, .int x, a3] dX12_livingOf_43 rfl rfl (by decide) rfl,
  fun d a0 a1 a2 x st h => fk_w_iinc 3 4 (1) [] [a0, a1, a2, .int x] [a0, a1, a2, .int (x + nI 1)] dX12_livingOf_44 rfl rfl rfl (by decide) rfl,
  fun d L st h => fk_r_goto dX12_livingOf_47 (by decide),
  fun d a0 a1 a3 x st h => fk_w_iloadn 2 [a0, a1, .int x, a3] dX12_livingOf_50 rfl,
  fun d L x h => fk_r_ret dX12_livingOf_51 (Or.inl rfl)⟩
theorem hX12_livingOf_4 : ∀ (d : Nat) (a0 a1 a2 : Value) (x : Int32) (st : List Value) (h : fk_H), fk_ev d qX12_livingOf 4 [a0, a1, a2, .int x] st h = fk_ev d qX12_livingOf 5 [a0, a1, a2, .int x] (.int x :: st) h := fun d a0 a1 a2 x st h => fk_w_iloadn 3 [a0, a1, a2, .int x] dX12_livingOf_4 rfl
theorem dX12_living_0 : decode cX12_living 0 = .ok (.iconst 0, 1) := by decide +kernel
theorem dX12_living_1 : decode cX12_living 1 = .ok (.istore_n 1, 1) := by decide +kernel
theorem dX12_living_2 : decode cX12_living 2 = .ok (.iconst 0, 1) := by decide +kernel
theorem dX12_living_3 : decode cX12_living 3 = .ok (.istore_n 2, 1) := by decide +kernel
theorem dX12_living_4 : decode cX12_living 4 = .ok (.iload_n 2, 1) := by decide +kernel
theorem dX12_living_5 : decode cX12_living 5 = .ok (.aload_n 0, 1) := by decide +kernel
theorem dX12_living_6 : decode cX12_living 6 = .ok (.getfield 7, 3) := by decide +kernel
theorem dX12_living_9 : decode cX12_living 9 = .ok (.sipush 833, 3) := by decide +kernel
theorem dX12_living_12 : decode cX12_living 12 = .ok (.iaload, 1) := by decide +kernel
theorem dX12_living_13 : decode cX12_living 13 = .ok (.if_icmp .ge 25, 3) := by decide +kernel
theorem dX12_living_16 : decode cX12_living 16 = .ok (.iload_n 1, 1) := by decide +kernel
theorem dX12_living_17 : decode cX12_living 17 = .ok (.aload_n 0, 1) := by decide +kernel
theorem dX12_living_18 : decode cX12_living 18 = .ok (.iload_n 2, 1) := by decide +kernel
theorem dX12_living_19 : decode cX12_living 19 = .ok (.invokevirtual 126, 3) := by decide +kernel
theorem dX12_living_22 : decode cX12_living 22 = .ok (.ifCond .eq 7, 3) := by decide +kernel
theorem dX12_living_25 : decode cX12_living 25 = .ok (.iconst 1, 1) := by decide +kernel
theorem dX12_living_26 : decode cX12_living 26 = .ok (.goto 4, 3) := by decide +kernel
theorem dX12_living_29 : decode cX12_living 29 = .ok (.iconst 0, 1) := by decide +kernel
theorem dX12_living_30 : decode cX12_living 30 = .ok (.iadd, 1) := by decide +kernel
theorem dX12_living_31 : decode cX12_living 31 = .ok (.istore_n 1, 1) := by decide +kernel
theorem dX12_living_32 : decode cX12_living 32 = .ok (.iinc 2 1, 3) := by decide +kernel
theorem dX12_living_35 : decode cX12_living 35 = .ok (.goto (-31), 3) := by decide +kernel
theorem dX12_living_38 : decode cX12_living 38 = .ok (.iload_n 1, 1) := by decide +kernel
theorem dX12_living_39 : decode cX12_living 39 = .ok (.ireturn, 1) := by decide +kernel
theorem rX12_living : (∀ (d : Nat) (L st : List Value) (h : fk_H), fk_ev d qX12_living 0 L st h = fk_ev d qX12_living 1 L (.int (nI 0) :: st) h) ∧
  (∀ (d : Nat) (a0 a1 a2 : Value) (x : Int32) (st : List Value) (h : fk_H), fk_ev d qX12_living 1 [a0, a1, a2] (.int x :: st) h = fk_ev d qX12_living 2 [a0, .int x, a2] st h) ∧
  (∀ (d : Nat) (L st : List Value) (h : fk_H), fk_ev d qX12_living 2 L st h = fk_ev d qX12_living 3 L (.int (nI 0) :: st) h) ∧
  (∀ (d : Nat) (a0 a1 a2 : Value) (x : Int32) (st : List Value) (h : fk_H), fk_ev d qX12_living 3 [a0, a1, a2] (.int x :: st) h = fk_ev d qX12_living 4 [a0, a1, .int x] st h) ∧
  (∀ (d : Nat) (a1 a2 : Value) (x : Nat) (st : List Value) (h : fk_H), fk_ev d qX12_living 5 [.ref x, a1, a2] st h = fk_ev d qX12_living 6 [.ref x, a1, a2] (.ref x :: st) h) ∧
  (∀ (d : Nat) (L st : List Value) (N : Nat) (y : Nat → Nat → Int32) (l : Nat → Nat → Int64), fk_ev d qX12_living 6 L (.ref 246 :: st) (fk_E N y l) = fk_ev d qX12_living 9 L (.ref 247 :: st) (fk_E N y l)) ∧
  (∀ (d : Nat) (L st : List Value) (h : fk_H), fk_ev d qX12_living 9 L st h = fk_ev d qX12_living 12 L (.int (nI 833) :: st) h) ∧
  (∀ (d : Nat) (L st : List Value) (N : Nat) (y : Nat → Nat → Int32) (l : Nat → Nat → Int64) (i : Nat), i < 3912 → fk_ev d qX12_living 12 L (.int (nI i) :: .ref 247 :: st) (fk_E N y l) = fk_ev d qX12_living 13 L (.int (y 247 i) :: st) (fk_E N y l)) ∧
  (∀ (d : Nat) (L : List Value) (x y : Int32) (st : List Value) (h : fk_H), fk_ev d qX12_living 13 L (.int y :: .int x :: st) h = if y ≤ x then fk_ev d qX12_living 38 L st h else fk_ev d qX12_living 16 L st h) ∧
  (∀ (d : Nat) (a0 a2 : Value) (x : Int32) (st : List Value) (h : fk_H), fk_ev d qX12_living 16 [a0, .int x, a2] st h = fk_ev d qX12_living 17 [a0, .int x, a2] (.int x :: st) h) ∧
  (∀ (d : Nat) (a1 a2 : Value) (x : Nat) (st : List Value) (h : fk_H), fk_ev d qX12_living 17 [.ref x, a1, a2] st h = fk_ev d qX12_living 18 [.ref x, a1, a2] (.ref x :: st) h) ∧
  (∀ (d : Nat) (a0 a1 : Value) (x : Int32) (st : List Value) (h : fk_H), fk_ev d qX12_living 18 [a0, a1, .int x] st h = fk_ev d qX12_living 19 [a0, a1, .int x] (.int x :: st) h) ∧
  (∀ (d : Nat) (L : List Value) (x0 : Int32) (w0 : Value) (N : Nat) (y : Nat → Nat → Int32) (l : Nat → Nat → Int64), fk_ev (d + 1) qX12_living 19 L (.int x0 :: .ref 246 :: [w0]) (fk_E N y l) = (fk_ev d qX12_lives 0 [.ref 246, .int x0] [] (fk_E N y l)).bind fun o => fk_ev (d + 1) qX12_living 22 L (o.1.toList ++ [w0]) o.2) ∧
  (∀ (d : Nat) (L : List Value) (x : Int32) (st : List Value) (h : fk_H), fk_ev d qX12_living 22 L (.int x :: st) h = if x = nI 0 then fk_ev d qX12_living 29 L st h else fk_ev d qX12_living 25 L st h) ∧
  (∀ (d : Nat) (L st : List Value) (h : fk_H), fk_ev d qX12_living 25 L st h = fk_ev d qX12_living 26 L (.int (nI 1) :: st) h) ∧
  (∀ (d : Nat) (L st : List Value) (h : fk_H), fk_ev d qX12_living 26 L st h = fk_ev d qX12_living 30 L st h) ∧
  (∀ (d : Nat) (L st : List Value) (h : fk_H), fk_ev d qX12_living 29 L st h = fk_ev d qX12_living 30 L (.int (nI 0) :: st) h) ∧
  (∀ (d : Nat) (L : List Value) (x y : Int32) (st : List Value) (h : fk_H), fk_ev d qX12_living 30 L (.int y :: .int x :: st) h = fk_ev d qX12_living 31 L (.int (x + y) :: st) h) ∧
  (∀ (d : Nat) (a0 a1 a2 : Value) (x : Int32) (st : List Value) (h : fk_H), fk_ev d qX12_living 31 [a0, a1, a2] (.int x :: st) h = fk_ev d qX12_living 32 [a0, .int x, a2] st h) ∧
  (∀ (d : Nat) (a0 a1 : Value) (x : Int32) (st : List Value) (h : fk_H), fk_ev d qX12_living 32 [a0, a1, .int x] st h = fk_ev d qX12_living 35 [a0, a1, .int (x + nI 1)] st h) ∧
  (∀ (d : Nat) (L st : List Value) (h : fk_H), fk_ev d qX12_living 35 L st h = fk_ev d qX12_living 4 L st h) ∧
  (∀ (d : Nat) (a0 a2 : Value) (x : Int32) (st : List Value) (h : fk_H), fk_ev d qX12_living 38 [a0, .int x, a2] st h = fk_ev d qX12_living 39 [a0, .int x, a2] (.int x :: st) h) ∧
  (∀ (d : Nat) (L : List Value) (x : Int32) (h : fk_H), fk_ev d qX12_living 39 L [.int x] h = some (some (.int x), h)) := ⟨fun d L st h => fk_w_iconst dX12_living_0 (by decide),
  fun d a0 a1 a2 x st h => fk_w_istoren 1 3 [] [a0, a1, a2] [a0, .int x, a2] dX12_living_1 rfl rfl (by decide) rfl,
  fun d L st h => fk_w_iconst dX12_living_2 (by decide),
  fun d a0 a1 a2 x st h => fk_w_istoren 2 3 [] [a0, a1, a2] [a0, a1, .int x] dX12_living_3 rfl rfl (by decide) rfl,
  fun d a1 a2 x st h => fk_w_aloadn 0 [.ref x, a1, a2] dX12_living_5 rfl,
  fun d L st N y l => fk_g_getC rfl lf_12_7 (by decide) rfl dX12_living_6 fk_at_246,
  fun d L st h => fk_w_sipush dX12_living_9 (by decide),
  fun d L st N y l i hi => fk_g_iald fk_at_247 fk_ln_247 (by decide) dX12_living_12 hi,
  fun d L x y st h => fk_r_icmp_ge dX12_living_13 (by decide),
  fun d a0 a2 x st h => fk_w_iloadn 1 [a0, .int x, a2] dX12_living_16 rfl,
  fun d a1 a2 x st h => fk_w_aloadn 0 [.ref x, a1, a2] dX12_living_17 rfl,
  fun d a0 a1 x st h => fk_w_iloadn 2 [a0, a1, .int x] dX12_living_18 rfl,
  fun d L x0 w0 N y l  => fk_g_call [.int x0] [w0] rfl lm_12_126 dX12_living_19 rfl ⟨rfl, by decide⟩ (by simp) fk_at_246,
  fun d L x st h => fk_r_if_eq dX12_living_22 (by decide),
  fun d L st h => fk_w_iconst dX12_living_25 (by decide),
  fun d L st h => fk_r_goto dX12_living_26 (by decide),
  fun d L st h => fk_w_iconst dX12_living_29 (by decide),
  fun d L x y st h => fk_r_iadd dX12_living_30,
  fun d a0 a1 a2 x st h => fk_w_istoren 1 3 [] [a0, a1, a2] [a0, .int x, a2] dX12_living_31 rfl rfl (by decide) rfl,
  fun d a0 a1 x st h => fk_w_iinc 2 3 (1) [] [a0, a1, .int x] [a0, a1, .int (x + nI 1)] dX12_living_32 rfl rfl rfl (by decide) rfl,
  fun d L st h => fk_r_goto dX12_living_35 (by decide),
  fun d a0 a2 x st h => fk_w_iloadn 1 [a0, .int x, a2] dX12_living_38 rfl,
  fun d L x h => fk_r_ret dX12_living_39 (Or.inl rfl)⟩
theorem hX12_living_4 : ∀ (d : Nat) (a0 a1 : Value) (x : Int32) (st : List Value) (h : fk_H), fk_ev d qX12_living 4 [a0, a1, .int x] st h = fk_ev d qX12_living 5 [a0, a1, .int x] (.int x :: st) h := fun d a0 a1 x st h => fk_w_iloadn 2 [a0, a1, .int x] dX12_living_4 rfl
theorem dX12_begin_0 : decode cX12_begin 0 = .ok (.aload_n 0, 1) := by decide +kernel
theorem dX12_begin_1 : decode cX12_begin 1 = .ok (.getfield 7, 3) := by decide +kernel
theorem dX12_begin_4 : decode cX12_begin 4 = .ok (.sipush 833, 3) := by decide +kernel
theorem dX12_begin_7 : decode cX12_begin 7 = .ok (.iaload, 1) := by decide +kernel
theorem dX12_begin_8 : decode cX12_begin 8 = .ok (.istore 4, 2) := by decide +kernel
theorem dX12_begin_10 : decode cX12_begin 10 = .ok (.aload_n 0, 1) := by decide +kernel
theorem dX12_begin_11 : decode cX12_begin 11 = .ok (.getfield 7, 3) := by decide +kernel
theorem dX12_begin_14 : decode cX12_begin 14 = .ok (.sipush 833, 3) := by decide +kernel
theorem dX12_begin_17 : decode cX12_begin 17 = .ok (.iload 4, 2) := by decide +kernel
theorem dX12_begin_19 : decode cX12_begin 19 = .ok (.iconst 1, 1) := by decide +kernel
theorem dX12_begin_20 : decode cX12_begin 20 = .ok (.iadd, 1) := by decide +kernel
theorem dX12_begin_21 : decode cX12_begin 21 = .ok (.iastore, 1) := by decide +kernel
theorem dX12_begin_22 : decode cX12_begin 22 = .ok (.aload_n 0, 1) := by decide +kernel
theorem dX12_begin_23 : decode cX12_begin 23 = .ok (.getfield 7, 3) := by decide +kernel
theorem dX12_begin_26 : decode cX12_begin 26 = .ok (.iconst 0, 1) := by decide +kernel
theorem dX12_begin_27 : decode cX12_begin 27 = .ok (.iload 4, 2) := by decide +kernel
theorem dX12_begin_29 : decode cX12_begin 29 = .ok (.iadd, 1) := by decide +kernel
theorem dX12_begin_30 : decode cX12_begin 30 = .ok (.iload_n 1, 1) := by decide +kernel
theorem dX12_begin_31 : decode cX12_begin 31 = .ok (.iastore, 1) := by decide +kernel
theorem dX12_begin_32 : decode cX12_begin 32 = .ok (.aload_n 0, 1) := by decide +kernel
theorem dX12_begin_33 : decode cX12_begin 33 = .ok (.getfield 7, 3) := by decide +kernel
theorem dX12_begin_36 : decode cX12_begin 36 = .ok (.bipush 64, 2) := by decide +kernel
theorem dX12_begin_38 : decode cX12_begin 38 = .ok (.iload 4, 2) := by decide +kernel
theorem dX12_begin_40 : decode cX12_begin 40 = .ok (.iadd, 1) := by decide +kernel
theorem dX12_begin_41 : decode cX12_begin 41 = .ok (.iload_n 2, 1) := by decide +kernel
theorem dX12_begin_42 : decode cX12_begin 42 = .ok (.iastore, 1) := by decide +kernel
theorem dX12_begin_43 : decode cX12_begin 43 = .ok (.aload_n 0, 1) := by decide +kernel
theorem dX12_begin_44 : decode cX12_begin 44 = .ok (.getfield 7, 3) := by decide +kernel
theorem dX12_begin_47 : decode cX12_begin 47 = .ok (.sipush 128, 3) := by decide +kernel
theorem dX12_begin_50 : decode cX12_begin 50 = .ok (.iload 4, 2) := by decide +kernel
theorem dX12_begin_52 : decode cX12_begin 52 = .ok (.iadd, 1) := by decide +kernel
theorem dX12_begin_53 : decode cX12_begin 53 = .ok (.aload_n 0, 1) := by decide +kernel
theorem dX12_begin_54 : decode cX12_begin 54 = .ok (.getfield 7, 3) := by decide +kernel
theorem dX12_begin_57 : decode cX12_begin 57 = .ok (.sipush 832, 3) := by decide +kernel
theorem dX12_begin_60 : decode cX12_begin 60 = .ok (.iaload, 1) := by decide +kernel
theorem dX12_begin_61 : decode cX12_begin 61 = .ok (.iastore, 1) := by decide +kernel
theorem dX12_begin_62 : decode cX12_begin 62 = .ok (.aload_n 0, 1) := by decide +kernel
theorem dX12_begin_63 : decode cX12_begin 63 = .ok (.getfield 7, 3) := by decide +kernel
theorem dX12_begin_66 : decode cX12_begin 66 = .ok (.sipush 192, 3) := by decide +kernel
theorem dX12_begin_69 : decode cX12_begin 69 = .ok (.iload 4, 2) := by decide +kernel
theorem dX12_begin_71 : decode cX12_begin 71 = .ok (.iadd, 1) := by decide +kernel
theorem dX12_begin_72 : decode cX12_begin 72 = .ok (.iconst 1, 1) := by decide +kernel
theorem dX12_begin_73 : decode cX12_begin 73 = .ok (.iastore, 1) := by decide +kernel
theorem dX12_begin_74 : decode cX12_begin 74 = .ok (.aload_n 0, 1) := by decide +kernel
theorem dX12_begin_75 : decode cX12_begin 75 = .ok (.getfield 7, 3) := by decide +kernel
theorem dX12_begin_78 : decode cX12_begin 78 = .ok (.sipush 256, 3) := by decide +kernel
theorem dX12_begin_81 : decode cX12_begin 81 = .ok (.iload 4, 2) := by decide +kernel
theorem dX12_begin_83 : decode cX12_begin 83 = .ok (.iadd, 1) := by decide +kernel
theorem dX12_begin_84 : decode cX12_begin 84 = .ok (.iload_n 3, 1) := by decide +kernel
theorem dX12_begin_85 : decode cX12_begin 85 = .ok (.iastore, 1) := by decide +kernel
theorem dX12_begin_86 : decode cX12_begin 86 = .ok (.aload_n 0, 1) := by decide +kernel
theorem dX12_begin_87 : decode cX12_begin 87 = .ok (.getfield 7, 3) := by decide +kernel
theorem dX12_begin_90 : decode cX12_begin 90 = .ok (.sipush 448, 3) := by decide +kernel
theorem dX12_begin_93 : decode cX12_begin 93 = .ok (.iload 4, 2) := by decide +kernel
theorem dX12_begin_95 : decode cX12_begin 95 = .ok (.iadd, 1) := by decide +kernel
theorem dX12_begin_96 : decode cX12_begin 96 = .ok (.iconst 0, 1) := by decide +kernel
theorem dX12_begin_97 : decode cX12_begin 97 = .ok (.iastore, 1) := by decide +kernel
theorem dX12_begin_98 : decode cX12_begin 98 = .ok (.aload_n 0, 1) := by decide +kernel
theorem dX12_begin_99 : decode cX12_begin 99 = .ok (.getfield 7, 3) := by decide +kernel
theorem dX12_begin_102 : decode cX12_begin 102 = .ok (.sipush 512, 3) := by decide +kernel
theorem dX12_begin_105 : decode cX12_begin 105 = .ok (.iload 4, 2) := by decide +kernel
theorem dX12_begin_107 : decode cX12_begin 107 = .ok (.iadd, 1) := by decide +kernel
theorem dX12_begin_108 : decode cX12_begin 108 = .ok (.iconst 0, 1) := by decide +kernel
theorem dX12_begin_109 : decode cX12_begin 109 = .ok (.iastore, 1) := by decide +kernel
theorem dX12_begin_110 : decode cX12_begin 110 = .ok (.aload_n 0, 1) := by decide +kernel
theorem dX12_begin_111 : decode cX12_begin 111 = .ok (.getfield 7, 3) := by decide +kernel
theorem dX12_begin_114 : decode cX12_begin 114 = .ok (.sipush 576, 3) := by decide +kernel
theorem dX12_begin_117 : decode cX12_begin 117 = .ok (.iload 4, 2) := by decide +kernel
theorem dX12_begin_119 : decode cX12_begin 119 = .ok (.iadd, 1) := by decide +kernel
theorem dX12_begin_120 : decode cX12_begin 120 = .ok (.iconst 0, 1) := by decide +kernel
theorem dX12_begin_121 : decode cX12_begin 121 = .ok (.iastore, 1) := by decide +kernel
theorem dX12_begin_122 : decode cX12_begin 122 = .ok (.aload_n 0, 1) := by decide +kernel
theorem dX12_begin_123 : decode cX12_begin 123 = .ok (.getfield 7, 3) := by decide +kernel
theorem dX12_begin_126 : decode cX12_begin 126 = .ok (.sipush 640, 3) := by decide +kernel
theorem dX12_begin_129 : decode cX12_begin 129 = .ok (.iload 4, 2) := by decide +kernel
theorem dX12_begin_131 : decode cX12_begin 131 = .ok (.iadd, 1) := by decide +kernel
theorem dX12_begin_132 : decode cX12_begin 132 = .ok (.bipush (-2), 2) := by decide +kernel
theorem dX12_begin_134 : decode cX12_begin 134 = .ok (.iastore, 1) := by decide +kernel
theorem dX12_begin_135 : decode cX12_begin 135 = .ok (.aload_n 0, 1) := by decide +kernel
theorem dX12_begin_136 : decode cX12_begin 136 = .ok (.getfield 7, 3) := by decide +kernel
theorem dX12_begin_139 : decode cX12_begin 139 = .ok (.sipush 704, 3) := by decide +kernel
theorem dX12_begin_142 : decode cX12_begin 142 = .ok (.iload 4, 2) := by decide +kernel
theorem dX12_begin_144 : decode cX12_begin 144 = .ok (.iadd, 1) := by decide +kernel
theorem dX12_begin_145 : decode cX12_begin 145 = .ok (.iconst 0, 1) := by decide +kernel
theorem dX12_begin_146 : decode cX12_begin 146 = .ok (.iastore, 1) := by decide +kernel
theorem dX12_begin_147 : decode cX12_begin 147 = .ok (.aload_n 0, 1) := by decide +kernel
theorem dX12_begin_148 : decode cX12_begin 148 = .ok (.getfield 7, 3) := by decide +kernel
theorem dX12_begin_151 : decode cX12_begin 151 = .ok (.sipush 768, 3) := by decide +kernel
theorem dX12_begin_154 : decode cX12_begin 154 = .ok (.iload 4, 2) := by decide +kernel
theorem dX12_begin_156 : decode cX12_begin 156 = .ok (.iadd, 1) := by decide +kernel
theorem dX12_begin_157 : decode cX12_begin 157 = .ok (.iconst 0, 1) := by decide +kernel
theorem dX12_begin_158 : decode cX12_begin 158 = .ok (.iastore, 1) := by decide +kernel
theorem dX12_begin_159 : decode cX12_begin 159 = .ok (.iload 4, 2) := by decide +kernel
theorem dX12_begin_161 : decode cX12_begin 161 = .ok (.ireturn, 1) := by decide +kernel
theorem rX12_begin : (∀ (d : Nat) (a1 a2 a3 a4 : Value) (x : Nat) (st : List Value) (h : fk_H), fk_ev d qX12_begin 0 [.ref x, a1, a2, a3, a4] st h = fk_ev d qX12_begin 1 [.ref x, a1, a2, a3, a4] (.ref x :: st) h) ∧
  (∀ (d : Nat) (L st : List Value) (N : Nat) (y : Nat → Nat → Int32) (l : Nat → Nat → Int64), fk_ev d qX12_begin 1 L (.ref 246 :: st) (fk_E N y l) = fk_ev d qX12_begin 4 L (.ref 247 :: st) (fk_E N y l)) ∧
  (∀ (d : Nat) (L st : List Value) (h : fk_H), fk_ev d qX12_begin 4 L st h = fk_ev d qX12_begin 7 L (.int (nI 833) :: st) h) ∧
  (∀ (d : Nat) (L st : List Value) (N : Nat) (y : Nat → Nat → Int32) (l : Nat → Nat → Int64) (i : Nat), i < 3912 → fk_ev d qX12_begin 7 L (.int (nI i) :: .ref 247 :: st) (fk_E N y l) = fk_ev d qX12_begin 8 L (.int (y 247 i) :: st) (fk_E N y l)) ∧
  (∀ (d : Nat) (a0 a1 a2 a3 a4 : Value) (x : Int32) (st : List Value) (h : fk_H), fk_ev d qX12_begin 8 [a0, a1, a2, a3, a4] (.int x :: st) h = fk_ev d qX12_begin 10 [a0, a1, a2, a3, .int x] st h) ∧
  (∀ (d : Nat) (a1 a2 a3 a4 : Value) (x : Nat) (st : List Value) (h : fk_H), fk_ev d qX12_begin 10 [.ref x, a1, a2, a3, a4] st h = fk_ev d qX12_begin 11 [.ref x, a1, a2, a3, a4] (.ref x :: st) h) ∧
  (∀ (d : Nat) (L st : List Value) (N : Nat) (y : Nat → Nat → Int32) (l : Nat → Nat → Int64), fk_ev d qX12_begin 11 L (.ref 246 :: st) (fk_E N y l) = fk_ev d qX12_begin 14 L (.ref 247 :: st) (fk_E N y l)) ∧
  (∀ (d : Nat) (L st : List Value) (h : fk_H), fk_ev d qX12_begin 14 L st h = fk_ev d qX12_begin 17 L (.int (nI 833) :: st) h) ∧
  (∀ (d : Nat) (a0 a1 a2 a3 : Value) (x : Int32) (st : List Value) (h : fk_H), fk_ev d qX12_begin 17 [a0, a1, a2, a3, .int x] st h = fk_ev d qX12_begin 19 [a0, a1, a2, a3, .int x] (.int x :: st) h) ∧
  (∀ (d : Nat) (L st : List Value) (h : fk_H), fk_ev d qX12_begin 19 L st h = fk_ev d qX12_begin 20 L (.int (nI 1) :: st) h) ∧
  (∀ (d : Nat) (L : List Value) (x y : Int32) (st : List Value) (h : fk_H), fk_ev d qX12_begin 20 L (.int y :: .int x :: st) h = fk_ev d qX12_begin 21 L (.int (x + y) :: st) h) ∧
  (∀ (d : Nat) (L st : List Value) (N : Nat) (y : Nat → Nat → Int32) (l : Nat → Nat → Int64) (i : Nat) (v : Int32), i < 3912 → fk_ev d qX12_begin 21 L (.int v :: .int (nI i) :: .ref 247 :: st) (fk_E N y l) = fk_ev d qX12_begin 22 L st (fk_E N (fk_u y 247 i v) l)) ∧
  (∀ (d : Nat) (a1 a2 a3 a4 : Value) (x : Nat) (st : List Value) (h : fk_H), fk_ev d qX12_begin 22 [.ref x, a1, a2, a3, a4] st h = fk_ev d qX12_begin 23 [.ref x, a1, a2, a3, a4] (.ref x :: st) h) ∧
  (∀ (d : Nat) (L st : List Value) (N : Nat) (y : Nat → Nat → Int32) (l : Nat → Nat → Int64), fk_ev d qX12_begin 23 L (.ref 246 :: st) (fk_E N y l) = fk_ev d qX12_begin 26 L (.ref 247 :: st) (fk_E N y l)) ∧
  (∀ (d : Nat) (L st : List Value) (h : fk_H), fk_ev d qX12_begin 26 L st h = fk_ev d qX12_begin 27 L (.int (nI 0) :: st) h) ∧
  (∀ (d : Nat) (a0 a1 a2 a3 : Value) (x : Int32) (st : List Value) (h : fk_H), fk_ev d qX12_begin 27 [a0, a1, a2, a3, .int x] st h = fk_ev d qX12_begin 29 [a0, a1, a2, a3, .int x] (.int x :: st) h) ∧
  (∀ (d : Nat) (L : List Value) (x y : Int32) (st : List Value) (h : fk_H), fk_ev d qX12_begin 29 L (.int y :: .int x :: st) h = fk_ev d qX12_begin 30 L (.int (x + y) :: st) h) ∧
  (∀ (d : Nat) (a0 a2 a3 a4 : Value) (x : Int32) (st : List Value) (h : fk_H), fk_ev d qX12_begin 30 [a0, .int x, a2, a3, a4] st h = fk_ev d qX12_begin 31 [a0, .int x, a2, a3, a4] (.int x :: st) h) ∧
  (∀ (d : Nat) (L st : List Value) (N : Nat) (y : Nat → Nat → Int32) (l : Nat → Nat → Int64) (i : Nat) (v : Int32), i < 3912 → fk_ev d qX12_begin 31 L (.int v :: .int (nI i) :: .ref 247 :: st) (fk_E N y l) = fk_ev d qX12_begin 32 L st (fk_E N (fk_u y 247 i v) l)) ∧
  (∀ (d : Nat) (a1 a2 a3 a4 : Value) (x : Nat) (st : List Value) (h : fk_H), fk_ev d qX12_begin 32 [.ref x, a1, a2, a3, a4] st h = fk_ev d qX12_begin 33 [.ref x, a1, a2, a3, a4] (.ref x :: st) h) ∧
  (∀ (d : Nat) (L st : List Value) (N : Nat) (y : Nat → Nat → Int32) (l : Nat → Nat → Int64), fk_ev d qX12_begin 33 L (.ref 246 :: st) (fk_E N y l) = fk_ev d qX12_begin 36 L (.ref 247 :: st) (fk_E N y l)) ∧
  (∀ (d : Nat) (L st : List Value) (h : fk_H), fk_ev d qX12_begin 36 L st h = fk_ev d qX12_begin 38 L (.int (nI 64) :: st) h) ∧
  (∀ (d : Nat) (a0 a1 a2 a3 : Value) (x : Int32) (st : List Value) (h : fk_H), fk_ev d qX12_begin 38 [a0, a1, a2, a3, .int x] st h = fk_ev d qX12_begin 40 [a0, a1, a2, a3, .int x] (.int x :: st) h) ∧
  (∀ (d : Nat) (L : List Value) (x y : Int32) (st : List Value) (h : fk_H), fk_ev d qX12_begin 40 L (.int y :: .int x :: st) h = fk_ev d qX12_begin 41 L (.int (x + y) :: st) h) ∧
  (∀ (d : Nat) (a0 a1 a3 a4 : Value) (x : Int32) (st : List Value) (h : fk_H), fk_ev d qX12_begin 41 [a0, a1, .int x, a3, a4] st h = fk_ev d qX12_begin 42 [a0, a1, .int x, a3, a4] (.int x :: st) h) ∧
  (∀ (d : Nat) (L st : List Value) (N : Nat) (y : Nat → Nat → Int32) (l : Nat → Nat → Int64) (i : Nat) (v : Int32), i < 3912 → fk_ev d qX12_begin 42 L (.int v :: .int (nI i) :: .ref 247 :: st) (fk_E N y l) = fk_ev d qX12_begin 43 L st (fk_E N (fk_u y 247 i v) l)) ∧
  (∀ (d : Nat) (a1 a2 a3 a4 : Value) (x : Nat) (st : List Value) (h : fk_H), fk_ev d qX12_begin 43 [.ref x, a1, a2, a3, a4] st h = fk_ev d qX12_begin 44 [.ref x, a1, a2, a3, a4] (.ref x :: st) h) ∧
  (∀ (d : Nat) (L st : List Value) (N : Nat) (y : Nat → Nat → Int32) (l : Nat → Nat → Int64), fk_ev d qX12_begin 44 L (.ref 246 :: st) (fk_E N y l) = fk_ev d qX12_begin 47 L (.ref 247 :: st) (fk_E N y l)) ∧
  (∀ (d : Nat) (L st : List Value) (h : fk_H), fk_ev d qX12_begin 47 L st h = fk_ev d qX12_begin 50 L (.int (nI 128) :: st) h) ∧
  (∀ (d : Nat) (a0 a1 a2 a3 : Value) (x : Int32) (st : List Value) (h : fk_H), fk_ev d qX12_begin 50 [a0, a1, a2, a3, .int x] st h = fk_ev d qX12_begin 52 [a0, a1, a2, a3, .int x] (.int x :: st) h) ∧
  (∀ (d : Nat) (L : List Value) (x y : Int32) (st : List Value) (h : fk_H), fk_ev d qX12_begin 52 L (.int y :: .int x :: st) h = fk_ev d qX12_begin 53 L (.int (x + y) :: st) h) ∧
  (∀ (d : Nat) (a1 a2 a3 a4 : Value) (x : Nat) (st : List Value) (h : fk_H), fk_ev d qX12_begin 53 [.ref x, a1, a2, a3, a4] st h = fk_ev d qX12_begin 54 [.ref x, a1, a2, a3, a4] (.ref x :: st) h) ∧
  (∀ (d : Nat) (L st : List Value) (N : Nat) (y : Nat → Nat → Int32) (l : Nat → Nat → Int64), fk_ev d qX12_begin 54 L (.ref 246 :: st) (fk_E N y l) = fk_ev d qX12_begin 57 L (.ref 247 :: st) (fk_E N y l)) ∧
  (∀ (d : Nat) (L st : List Value) (h : fk_H), fk_ev d qX12_begin 57 L st h = fk_ev d qX12_begin 60 L (.int (nI 832) :: st) h) ∧
  (∀ (d : Nat) (L st : List Value) (N : Nat) (y : Nat → Nat → Int32) (l : Nat → Nat → Int64) (i : Nat), i < 3912 → fk_ev d qX12_begin 60 L (.int (nI i) :: .ref 247 :: st) (fk_E N y l) = fk_ev d qX12_begin 61 L (.int (y 247 i) :: st) (fk_E N y l)) ∧
  (∀ (d : Nat) (L st : List Value) (N : Nat) (y : Nat → Nat → Int32) (l : Nat → Nat → Int64) (i : Nat) (v : Int32), i < 3912 → fk_ev d qX12_begin 61 L (.int v :: .int (nI i) :: .ref 247 :: st) (fk_E N y l) = fk_ev d qX12_begin 62 L st (fk_E N (fk_u y 247 i v) l)) ∧
  (∀ (d : Nat) (a1 a2 a3 a4 : Value) (x : Nat) (st : List Value) (h : fk_H), fk_ev d qX12_begin 62 [.ref x, a1, a2, a3, a4] st h = fk_ev d qX12_begin 63 [.ref x, a1, a2, a3, a4] (.ref x :: st) h) ∧
  (∀ (d : Nat) (L st : List Value) (N : Nat) (y : Nat → Nat → Int32) (l : Nat → Nat → Int64), fk_ev d qX12_begin 63 L (.ref 246 :: st) (fk_E N y l) = fk_ev d qX12_begin 66 L (.ref 247 :: st) (fk_E N y l)) ∧
  (∀ (d : Nat) (L st : List Value) (h : fk_H), fk_ev d qX12_begin 66 L st h = fk_ev d qX12_begin 69 L (.int (nI 192) :: st) h) ∧
  (∀ (d : Nat) (a0 a1 a2 a3 : Value) (x : Int32) (st : List Value) (h : fk_H), fk_ev d qX12_begin 69 [a0, a1, a2, a3, .int x] st h = fk_ev d qX12_begin 71 [a0, a1, a2, a3, .int x] (.int x :: st) h) ∧
  (∀ (d : Nat) (L : List Value) (x y : Int32) (st : List Value) (h : fk_H), fk_ev d qX12_begin 71 L (.int y :: .int x :: st) h = fk_ev d qX12_begin 72 L (.int (x + y) :: st) h) ∧
  (∀ (d : Nat) (L st : List Value) (h : fk_H), fk_ev d qX12_begin 72 L st h = fk_ev d qX12_begin 73 L (.int (nI 1) :: st) h) ∧
  (∀ (d : Nat) (L st : List Value) (N : Nat) (y : Nat → Nat → Int32) (l : Nat → Nat → Int64) (i : Nat) (v : Int32), i < 3912 → fk_ev d qX12_begin 73 L (.int v :: .int (nI i) :: .ref 247 :: st) (fk_E N y l) = fk_ev d qX12_begin 74 L st (fk_E N (fk_u y 247 i v) l)) ∧
  (∀ (d : Nat) (a1 a2 a3 a4 : Value) (x : Nat) (st : List Value) (h : fk_H), fk_ev d qX12_begin 74 [.ref x, a1, a2, a3, a4] st h = fk_ev d qX12_begin 75 [.ref x, a1, a2, a3, a4] (.ref x :: st) h) ∧
  (∀ (d : Nat) (L st : List Value) (N : Nat) (y : Nat → Nat → Int32) (l : Nat → Nat → Int64), fk_ev d qX12_begin 75 L (.ref 246 :: st) (fk_E N y l) = fk_ev d qX12_begin 78 L (.ref 247 :: st) (fk_E N y l)) ∧
  (∀ (d : Nat) (L st : List Value) (h : fk_H), fk_ev d qX12_begin 78 L st h = fk_ev d qX12_begin 81 L (.int (nI 256) :: st) h) ∧
  (∀ (d : Nat) (a0 a1 a2 a3 : Value) (x : Int32) (st : List Value) (h : fk_H), fk_ev d qX12_begin 81 [a0, a1, a2, a3, .int x] st h = fk_ev d qX12_begin 83 [a0, a1, a2, a3, .int x] (.int x :: st) h) ∧
  (∀ (d : Nat) (L : List Value) (x y : Int32) (st : List Value) (h : fk_H), fk_ev d qX12_begin 83 L (.int y :: .int x :: st) h = fk_ev d qX12_begin 84 L (.int (x + y) :: st) h) ∧
  (∀ (d : Nat) (a0 a1 a2 a4 : Value) (x : Int32) (st : List Value) (h : fk_H), fk_ev d qX12_begin 84 [a0, a1, a2, .int x, a4] st h = fk_ev d qX12_begin 85 [a0, a1, a2, .int x, a4] (.int x :: st) h) ∧
  (∀ (d : Nat) (L st : List Value) (N : Nat) (y : Nat → Nat → Int32) (l : Nat → Nat → Int64) (i : Nat) (v : Int32), i < 3912 → fk_ev d qX12_begin 85 L (.int v :: .int (nI i) :: .ref 247 :: st) (fk_E N y l) = fk_ev d qX12_begin 86 L st (fk_E N (fk_u y 247 i v) l)) ∧
  (∀ (d : Nat) (a1 a2 a3 a4 : Value) (x : Nat) (st : List Value) (h : fk_H), fk_ev d qX12_begin 86 [.ref x, a1, a2, a3, a4] st h = fk_ev d qX12_begin 87 [.ref x, a1, a2, a3, a4] (.ref x :: st) h) ∧
  (∀ (d : Nat) (L st : List Value) (N : Nat) (y : Nat → Nat → Int32) (l : Nat → Nat → Int64), fk_ev d qX12_begin 87 L (.ref 246 :: st) (fk_E N y l) = fk_ev d qX12_begin 90 L (.ref 247 :: st) (fk_E N y l)) ∧
  (∀ (d : Nat) (L st : List Value) (h : fk_H), fk_ev d qX12_begin 90 L st h = fk_ev d qX12_begin 93 L (.int (nI 448) :: st) h) ∧
  (∀ (d : Nat) (a0 a1 a2 a3 : Value) (x : Int32) (st : List Value) (h : fk_H), fk_ev d qX12_begin 93 [a0, a1, a2, a3, .int x] st h = fk_ev d qX12_begin 95 [a0, a1, a2, a3, .int x] (.int x :: st) h) ∧
  (∀ (d : Nat) (L : List Value) (x y : Int32) (st : List Value) (h : fk_H), fk_ev d qX12_begin 95 L (.int y :: .int x :: st) h = fk_ev d qX12_begin 96 L (.int (x + y) :: st) h) ∧
  (∀ (d : Nat) (L st : List Value) (h : fk_H), fk_ev d qX12_begin 96 L st h = fk_ev d qX12_begin 97 L (.int (nI 0) :: st) h) ∧
  (∀ (d : Nat) (L st : List Value) (N : Nat) (y : Nat → Nat → Int32) (l : Nat → Nat → Int64) (i : Nat) (v : Int32), i < 3912 → fk_ev d qX12_begin 97 L (.int v :: .int (nI i) :: .ref 247 :: st) (fk_E N y l) = fk_ev d qX12_begin 98 L st (fk_E N (fk_u y 247 i v) l)) ∧
  (∀ (d : Nat) (a1 a2 a3 a4 : Value) (x : Nat) (st : List Value) (h : fk_H), fk_ev d qX12_begin 98 [.ref x, a1, a2, a3, a4] st h = fk_ev d qX12_begin 99 [.ref x, a1, a2, a3, a4] (.ref x :: st) h) ∧
  (∀ (d : Nat) (L st : List Value) (N : Nat) (y : Nat → Nat → Int32) (l : Nat → Nat → Int64), fk_ev d qX12_begin 99 L (.ref 246 :: st) (fk_E N y l) = fk_ev d qX12_begin 102 L (.ref 247 :: st) (fk_E N y l)) ∧
  (∀ (d : Nat) (L st : List Value) (h : fk_H), fk_ev d qX12_begin 102 L st h = fk_ev d qX12_begin 105 L (.int (nI 512) :: st) h) ∧
  (∀ (d : Nat) (a0 a1 a2 a3 : Value) (x : Int32) (st : List Value) (h : fk_H), fk_ev d qX12_begin 105 [a0, a1, a2, a3, .int x] st h = fk_ev d qX12_begin 107 [a0, a1, a2, a3, .int x] (.int x :: st) h) ∧
  (∀ (d : Nat) (L : List Value) (x y : Int32) (st : List Value) (h : fk_H), fk_ev d qX12_begin 107 L (.int y :: .int x :: st) h = fk_ev d qX12_begin 108 L (.int (x + y) :: st) h) ∧
  (∀ (d : Nat) (L st : List Value) (h : fk_H), fk_ev d qX12_begin 108 L st h = fk_ev d qX12_begin 109 L (.int (nI 0) :: st) h) ∧
  (∀ (d : Nat) (L st : List Value) (N : Nat) (y : Nat → Nat → Int32) (l : Nat → Nat → Int64) (i : Nat) (v : Int32), i < 3912 → fk_ev d qX12_begin 109 L (.int v :: .int (nI i) :: .ref 247 :: st) (fk_E N y l) = fk_ev d qX12_begin 110 L st (fk_E N (fk_u y 247 i v) l)) ∧
  (∀ (d : Nat) (a1 a2 a3 a4 : Value) (x : Nat) (st : List Value) (h : fk_H), fk_ev d qX12_begin 110 [.ref x, a1, a2, a3, a4] st h = fk_ev d qX12_begin 111 [.ref x, a1, a2, a3, a4] (.ref x :: st) h) ∧
  (∀ (d : Nat) (L st : List Value) (N : Nat) (y : Nat → Nat → Int32) (l : Nat → Nat → Int64), fk_ev d qX12_begin 111 L (.ref 246 :: st) (fk_E N y l) = fk_ev d qX12_begin 114 L (.ref 247 :: st) (fk_E N y l)) ∧
  (∀ (d : Nat) (L st : List Value) (h : fk_H), fk_ev d qX12_begin 114 L st h = fk_ev d qX12_begin 117 L (.int (nI 576) :: st) h) ∧
  (∀ (d : Nat) (a0 a1 a2 a3 : Value) (x : Int32) (st : List Value) (h : fk_H), fk_ev d qX12_begin 117 [a0, a1, a2, a3, .int x] st h = fk_ev d qX12_begin 119 [a0, a1, a2, a3, .int x] (.int x :: st) h) ∧
  (∀ (d : Nat) (L : List Value) (x y : Int32) (st : List Value) (h : fk_H), fk_ev d qX12_begin 119 L (.int y :: .int x :: st) h = fk_ev d qX12_begin 120 L (.int (x + y) :: st) h) ∧
  (∀ (d : Nat) (L st : List Value) (h : fk_H), fk_ev d qX12_begin 120 L st h = fk_ev d qX12_begin 121 L (.int (nI 0) :: st) h) ∧
  (∀ (d : Nat) (L st : List Value) (N : Nat) (y : Nat → Nat → Int32) (l : Nat → Nat → Int64) (i : Nat) (v : Int32), i < 3912 → fk_ev d qX12_begin 121 L (.int v :: .int (nI i) :: .ref 247 :: st) (fk_E N y l) = fk_ev d qX12_begin 122 L st (fk_E N (fk_u y 247 i v) l)) ∧
  (∀ (d : Nat) (a1 a2 a3 a4 : Value) (x : Nat) (st : List Value) (h : fk_H), fk_ev d qX12_begin 122 [.ref x, a1, a2, a3, a4] st h = fk_ev d qX12_begin 123 [.ref x, a1, a2, a3, a4] (.ref x :: st) h) ∧
  (∀ (d : Nat) (L st : List Value) (N : Nat) (y : Nat → Nat → Int32) (l : Nat → Nat → Int64), fk_ev d qX12_begin 123 L (.ref 246 :: st) (fk_E N y l) = fk_ev d qX12_begin 126 L (.ref 247 :: st) (fk_E N y l)) ∧
  (∀ (d : Nat) (L st : List Value) (h : fk_H), fk_ev d qX12_begin 126 L st h = fk_ev d qX12_begin 129 L (.int (nI 640) :: st) h) ∧
  (∀ (d : Nat) (a0 a1 a2 a3 : Value) (x : Int32) (st : List Value) (h : fk_H), fk_ev d qX12_begin 129 [a0, a1, a2, a3, .int x] st h = fk_ev d qX12_begin 131 [a0, a1, a2, a3, .int x] (.int x :: st) h) ∧
  (∀ (d : Nat) (L : List Value) (x y : Int32) (st : List Value) (h : fk_H), fk_ev d qX12_begin 131 L (.int y :: .int x :: st) h = fk_ev d qX12_begin 132 L (.int (x + y) :: st) h) ∧
  (∀ (d : Nat) (L st : List Value) (h : fk_H), fk_ev d qX12_begin 132 L st h = fk_ev d qX12_begin 134 L (.int ((-2 : Int32)) :: st) h) ∧
  (∀ (d : Nat) (L st : List Value) (N : Nat) (y : Nat → Nat → Int32) (l : Nat → Nat → Int64) (i : Nat) (v : Int32), i < 3912 → fk_ev d qX12_begin 134 L (.int v :: .int (nI i) :: .ref 247 :: st) (fk_E N y l) = fk_ev d qX12_begin 135 L st (fk_E N (fk_u y 247 i v) l)) ∧
  (∀ (d : Nat) (a1 a2 a3 a4 : Value) (x : Nat) (st : List Value) (h : fk_H), fk_ev d qX12_begin 135 [.ref x, a1, a2, a3, a4] st h = fk_ev d qX12_begin 136 [.ref x, a1, a2, a3, a4] (.ref x :: st) h) ∧
  (∀ (d : Nat) (L st : List Value) (N : Nat) (y : Nat → Nat → Int32) (l : Nat → Nat → Int64), fk_ev d qX12_begin 136 L (.ref 246 :: st) (fk_E N y l) = fk_ev d qX12_begin 139 L (.ref 247 :: st) (fk_E N y l)) ∧
  (∀ (d : Nat) (L st : List Value) (h : fk_H), fk_ev d qX12_begin 139 L st h = fk_ev d qX12_begin 142 L (.int (nI 704) :: st) h) ∧
  (∀ (d : Nat) (a0 a1 a2 a3 : Value) (x : Int32) (st : List Value) (h : fk_H), fk_ev d qX12_begin 142 [a0, a1, a2, a3, .int x] st h = fk_ev d qX12_begin 144 [a0, a1, a2, a3, .int x] (.int x :: st) h) ∧
  (∀ (d : Nat) (L : List Value) (x y : Int32) (st : List Value) (h : fk_H), fk_ev d qX12_begin 144 L (.int y :: .int x :: st) h = fk_ev d qX12_begin 145 L (.int (x + y) :: st) h) ∧
  (∀ (d : Nat) (L st : List Value) (h : fk_H), fk_ev d qX12_begin 145 L st h = fk_ev d qX12_begin 146 L (.int (nI 0) :: st) h) ∧
  (∀ (d : Nat) (L st : List Value) (N : Nat) (y : Nat → Nat → Int32) (l : Nat → Nat → Int64) (i : Nat) (v : Int32), i < 3912 → fk_ev d qX12_begin 146 L (.int v :: .int (nI i) :: .ref 247 :: st) (fk_E N y l) = fk_ev d qX12_begin 147 L st (fk_E N (fk_u y 247 i v) l)) ∧
  (∀ (d : Nat) (a1 a2 a3 a4 : Value) (x : Nat) (st : List Value) (h : fk_H), fk_ev d qX12_begin 147 [.ref x, a1, a2, a3, a4] st h = fk_ev d qX12_begin 148 [.ref x, a1, a2, a3, a4] (.ref x :: st) h) ∧
  (∀ (d : Nat) (L st : List Value) (N : Nat) (y : Nat → Nat → Int32) (l : Nat → Nat → Int64), fk_ev d qX12_begin 148 L (.ref 246 :: st) (fk_E N y l) = fk_ev d qX12_begin 151 L (.ref 247 :: st) (fk_E N y l)) ∧
  (∀ (d : Nat) (L st : List Value) (h : fk_H), fk_ev d qX12_begin 151 L st h = fk_ev d qX12_begin 154 L (.int (nI 768) :: st) h) ∧
  (∀ (d : Nat) (a0 a1 a2 a3 : Value) (x : Int32) (st : List Value) (h : fk_H), fk_ev d qX12_begin 154 [a0, a1, a2, a3, .int x] st h = fk_ev d qX12_begin 156 [a0, a1, a2, a3, .int x] (.int x :: st) h) ∧
  (∀ (d : Nat) (L : List Value) (x y : Int32) (st : List Value) (h : fk_H), fk_ev d qX12_begin 156 L (.int y :: .int x :: st) h = fk_ev d qX12_begin 157 L (.int (x + y) :: st) h) ∧
  (∀ (d : Nat) (L st : List Value) (h : fk_H), fk_ev d qX12_begin 157 L st h = fk_ev d qX12_begin 158 L (.int (nI 0) :: st) h) ∧
  (∀ (d : Nat) (L st : List Value) (N : Nat) (y : Nat → Nat → Int32) (l : Nat → Nat → Int64) (i : Nat) (v : Int32), i < 3912 → fk_ev d qX12_begin 158 L (.int v :: .int (nI i) :: .ref 247 :: st) (fk_E N y l) = fk_ev d qX12_begin 159 L st (fk_E N (fk_u y 247 i v) l)) ∧
  (∀ (d : Nat) (a0 a1 a2 a3 : Value) (x : Int32) (st : List Value) (h : fk_H), fk_ev d qX12_begin 159 [a0, a1, a2, a3, .int x] st h = fk_ev d qX12_begin 161 [a0, a1, a2, a3, .int x] (.int x :: st) h) ∧
  (∀ (d : Nat) (L : List Value) (x : Int32) (h : fk_H), fk_ev d qX12_begin 161 L [.int x] h = some (some (.int x), h)) := ⟨fun d a1 a2 a3 a4 x st h => fk_w_aloadn 0 [.ref x, a1, a2, a3, a4] dX12_begin_0 rfl,
  fun d L st N y l => fk_g_getC rfl lf_12_7 (by decide) rfl dX12_begin_1 fk_at_246,
  fun d L st h => fk_w_sipush dX12_begin_4 (by decide),
  fun d L st N y l i hi => fk_g_iald fk_at_247 fk_ln_247 (by decide) dX12_begin_7 hi,
  fun d a0 a1 a2 a3 a4 x st h => fk_w_istore 4 5 [] [a0, a1, a2, a3, a4] [a0, a1, a2, a3, .int x] dX12_begin_8 rfl rfl (by decide) rfl,
  fun d a1 a2 a3 a4 x st h => fk_w_aloadn 0 [.ref x, a1, a2, a3, a4] dX12_begin_10 rfl,
  fun d L st N y l => fk_g_getC rfl lf_12_7 (by decide) rfl dX12_begin_11 fk_at_246,
  fun d L st h => fk_w_sipush dX12_begin_14 (by decide),
  fun d a0 a1 a2 a3 x st h => fk_w_iload 4 [a0, a1, a2, a3, .int x] dX12_begin_17 rfl,
  fun d L st h => fk_w_iconst dX12_begin_19 (by decide),
  fun d L x y st h => fk_r_iadd dX12_begin_20,
  fun d L st N y l i v hi => fk_g_iast fk_at_247 fk_ln_247 (by decide) dX12_begin_21 hi,
  fun d a1 a2 a3 a4 x st h => fk_w_aloadn 0 [.ref x, a1, a2, a3, a4] dX12_begin_22 rfl,
  fun d L st N y l => fk_g_getC rfl lf_12_7 (by decide) rfl dX12_begin_23 fk_at_246,
  fun d L st h => fk_w_iconst dX12_begin_26 (by decide),
  fun d a0 a1 a2 a3 x st h => fk_w_iload 4 [a0, a1, a2, a3, .int x] dX12_begin_27 rfl,
  fun d L x y st h => fk_r_iadd dX12_begin_29,
  fun d a0 a2 a3 a4 x st h => fk_w_iloadn 1 [a0, .int x, a2, a3, a4] dX12_begin_30 rfl,
  fun d L st N y l i v hi => fk_g_iast fk_at_247 fk_ln_247 (by decide) dX12_begin_31 hi,
  fun d a1 a2 a3 a4 x st h => fk_w_aloadn 0 [.ref x, a1, a2, a3, a4] dX12_begin_32 rfl,
  fun d L st N y l => fk_g_getC rfl lf_12_7 (by decide) rfl dX12_begin_33 fk_at_246,
  fun d L st h => fk_w_bipush dX12_begin_36 (by decide),
  fun d a0 a1 a2 a3 x st h => fk_w_iload 4 [a0, a1, a2, a3, .int x] dX12_begin_38 rfl,
  fun d L x y st h => fk_r_iadd dX12_begin_40,
  fun d a0 a1 a3 a4 x st h => fk_w_iloadn 2 [a0, a1, .int x, a3, a4] dX12_begin_41 rfl,
  fun d L st N y l i v hi => fk_g_iast fk_at_247 fk_ln_247 (by decide) dX12_begin_42 hi,
  fun d a1 a2 a3 a4 x st h => fk_w_aloadn 0 [.ref x, a1, a2, a3, a4] dX12_begin_43 rfl,
  fun d L st N y l => fk_g_getC rfl lf_12_7 (by decide) rfl dX12_begin_44 fk_at_246,
  fun d L st h => fk_w_sipush dX12_begin_47 (by decide),
  fun d a0 a1 a2 a3 x st h => fk_w_iload 4 [a0, a1, a2, a3, .int x] dX12_begin_50 rfl,
  fun d L x y st h => fk_r_iadd dX12_begin_52,
  fun d a1 a2 a3 a4 x st h => fk_w_aloadn 0 [.ref x, a1, a2, a3, a4] dX12_begin_53 rfl,
  fun d L st N y l => fk_g_getC rfl lf_12_7 (by decide) rfl dX12_begin_54 fk_at_246,
  fun d L st h => fk_w_sipush dX12_begin_57 (by decide),
  fun d L st N y l i hi => fk_g_iald fk_at_247 fk_ln_247 (by decide) dX12_begin_60 hi,
  fun d L st N y l i v hi => fk_g_iast fk_at_247 fk_ln_247 (by decide) dX12_begin_61 hi,
  fun d a1 a2 a3 a4 x st h => fk_w_aloadn 0 [.ref x, a1, a2, a3, a4] dX12_begin_62 rfl,
  fun d L st N y l => fk_g_getC rfl lf_12_7 (by decide) rfl dX12_begin_63 fk_at_246,
  fun d L st h => fk_w_sipush dX12_begin_66 (by decide),
  fun d a0 a1 a2 a3 x st h => fk_w_iload 4 [a0, a1, a2, a3, .int x] dX12_begin_69 rfl,
  fun d L x y st h => fk_r_iadd dX12_begin_71,
  fun d L st h => fk_w_iconst dX12_begin_72 (by decide),
  fun d L st N y l i v hi => fk_g_iast fk_at_247 fk_ln_247 (by decide) dX12_begin_73 hi,
  fun d a1 a2 a3 a4 x st h => fk_w_aloadn 0 [.ref x, a1, a2, a3, a4] dX12_begin_74 rfl,
  fun d L st N y l => fk_g_getC rfl lf_12_7 (by decide) rfl dX12_begin_75 fk_at_246,
  fun d L st h => fk_w_sipush dX12_begin_78 (by decide),
  fun d a0 a1 a2 a3 x st h => fk_w_iload 4 [a0, a1, a2, a3, .int x] dX12_begin_81 rfl,
  fun d L x y st h => fk_r_iadd dX12_begin_83,
  fun d a0 a1 a2 a4 x st h => fk_w_iloadn 3 [a0, a1, a2, .int x, a4] dX12_begin_84 rfl,
  fun d L st N y l i v hi => fk_g_iast fk_at_247 fk_ln_247 (by decide) dX12_begin_85 hi,
  fun d a1 a2 a3 a4 x st h => fk_w_aloadn 0 [.ref x, a1, a2, a3, a4] dX12_begin_86 rfl,
  fun d L st N y l => fk_g_getC rfl lf_12_7 (by decide) rfl dX12_begin_87 fk_at_246,
  fun d L st h => fk_w_sipush dX12_begin_90 (by decide),
  fun d a0 a1 a2 a3 x st h => fk_w_iload 4 [a0, a1, a2, a3, .int x] dX12_begin_93 rfl,
  fun d L x y st h => fk_r_iadd dX12_begin_95,
  fun d L st h => fk_w_iconst dX12_begin_96 (by decide),
  fun d L st N y l i v hi => fk_g_iast fk_at_247 fk_ln_247 (by decide) dX12_begin_97 hi,
  fun d a1 a2 a3 a4 x st h => fk_w_aloadn 0 [.ref x, a1, a2, a3, a4] dX12_begin_98 rfl,
  fun d L st N y l => fk_g_getC rfl lf_12_7 (by decide) rfl dX12_begin_99 fk_at_246,
  fun d L st h => fk_w_sipush dX12_begin_102 (by decide),
  fun d a0 a1 a2 a3 x st h => fk_w_iload 4 [a0, a1, a2, a3, .int x] dX12_begin_105 rfl,
  fun d L x y st h => fk_r_iadd dX12_begin_107,
  fun d L st h => fk_w_iconst dX12_begin_108 (by decide),
  fun d L st N y l i v hi => fk_g_iast fk_at_247 fk_ln_247 (by decide) dX12_begin_109 hi,
  fun d a1 a2 a3 a4 x st h => fk_w_aloadn 0 [.ref x, a1, a2, a3, a4] dX12_begin_110 rfl,
  fun d L st N y l => fk_g_getC rfl lf_12_7 (by decide) rfl dX12_begin_111 fk_at_246,
  fun d L st h => fk_w_sipush dX12_begin_114 (by decide),
  fun d a0 a1 a2 a3 x st h => fk_w_iload 4 [a0, a1, a2, a3, .int x] dX12_begin_117 rfl,
  fun d L x y st h => fk_r_iadd dX12_begin_119,
  fun d L st h => fk_w_iconst dX12_begin_120 (by decide),
  fun d L st N y l i v hi => fk_g_iast fk_at_247 fk_ln_247 (by decide) dX12_begin_121 hi,
  fun d a1 a2 a3 a4 x st h => fk_w_aloadn 0 [.ref x, a1, a2, a3, a4] dX12_begin_122 rfl,
  fun d L st N y l => fk_g_getC rfl lf_12_7 (by decide) rfl dX12_begin_123 fk_at_246,
  fun d L st h => fk_w_sipush dX12_begin_126 (by decide),
  fun d a0 a1 a2 a3 x st h => fk_w_iload 4 [a0, a1, a2, a3, .int x] dX12_begin_129 rfl,
  fun d L x y st h => fk_r_iadd dX12_begin_131,
  fun d L st h => fk_w_bipush dX12_begin_132 (by decide),
  fun d L st N y l i v hi => fk_g_iast fk_at_247 fk_ln_247 (by decide) dX12_begin_134 hi,
  fun d a1 a2 a3 a4 x st h => fk_w_aloadn 0 [.ref x, a1, a2, a3, a4] dX12_begin_135 rfl,
  fun d L st N y l => fk_g_getC rfl lf_12_7 (by decide) rfl dX12_begin_136 fk_at_246,
  fun d L st h => fk_w_sipush dX12_begin_139 (by decide),
  fun d a0 a1 a2 a3 x st h => fk_w_iload 4 [a0, a1, a2, a3, .int x] dX12_begin_142 rfl,
  fun d L x y st h => fk_r_iadd dX12_begin_144,
  fun d L st h => fk_w_iconst dX12_begin_145 (by decide),
  fun d L st N y l i v hi => fk_g_iast fk_at_247 fk_ln_247 (by decide) dX12_begin_146 hi,
  fun d a1 a2 a3 a4 x st h => fk_w_aloadn 0 [.ref x, a1, a2, a3, a4] dX12_begin_147 rfl,
  fun d L st N y l => fk_g_getC rfl lf_12_7 (by decide) rfl dX12_begin_148 fk_at_246,
  fun d L st h => fk_w_sipush dX12_begin_151 (by decide),
  fun d a0 a1 a2 a3 x st h => fk_w_iload 4 [a0, a1, a2, a3, .int x] dX12_begin_154 rfl,
  fun d L x y st h => fk_r_iadd dX12_begin_156,
  fun d L st h => fk_w_iconst dX12_begin_157 (by decide),
  fun d L st N y l i v hi => fk_g_iast fk_at_247 fk_ln_247 (by decide) dX12_begin_158 hi,
  fun d a0 a1 a2 a3 x st h => fk_w_iload 4 [a0, a1, a2, a3, .int x] dX12_begin_159 rfl,
  fun d L x h => fk_r_ret dX12_begin_161 (Or.inl rfl)⟩
theorem dX12_comes_0 : decode cX12_comes 0 = .ok (.iload_n 1, 1) := by decide +kernel
theorem dX12_comes_1 : decode cX12_comes 1 = .ok (.invokestatic 132, 3) := by decide +kernel
theorem dX12_comes_4 : decode cX12_comes 4 = .ok (.ifCond .eq 31, 3) := by decide +kernel
theorem dX12_comes_7 : decode cX12_comes 7 = .ok (.iload_n 2, 1) := by decide +kernel
theorem dX12_comes_8 : decode cX12_comes 8 = .ok (.invokestatic 116, 3) := by decide +kernel
theorem dX12_comes_11 : decode cX12_comes 11 = .ok (.ifCond .eq 24, 3) := by decide +kernel
theorem dX12_comes_14 : decode cX12_comes 14 = .ok (.aload_n 0, 1) := by decide +kernel
theorem dX12_comes_15 : decode cX12_comes 15 = .ok (.iload_n 1, 1) := by decide +kernel
theorem dX12_comes_16 : decode cX12_comes 16 = .ok (.invokevirtual 135, 3) := by decide +kernel
theorem dX12_comes_19 : decode cX12_comes 19 = .ok (.ifCond .gt 16, 3) := by decide +kernel
theorem dX12_comes_22 : decode cX12_comes 22 = .ok (.aload_n 0, 1) := by decide +kernel
theorem dX12_comes_23 : decode cX12_comes 23 = .ok (.getfield 7, 3) := by decide +kernel
theorem dX12_comes_26 : decode cX12_comes 26 = .ok (.sipush 833, 3) := by decide +kernel
theorem dX12_comes_29 : decode cX12_comes 29 = .ok (.iaload, 1) := by decide +kernel
theorem dX12_comes_30 : decode cX12_comes 30 = .ok (.bipush 64, 2) := by decide +kernel
theorem dX12_comes_32 : decode cX12_comes 32 = .ok (.if_icmp .ne 5, 3) := by decide +kernel
theorem dX12_comes_35 : decode cX12_comes 35 = .ok (.iconst (-1), 1) := by decide +kernel
theorem dX12_comes_36 : decode cX12_comes 36 = .ok (.ireturn, 1) := by decide +kernel
theorem dX12_comes_37 : decode cX12_comes 37 = .ok (.aload_n 0, 1) := by decide +kernel
theorem dX12_comes_38 : decode cX12_comes 38 = .ok (.iload_n 1, 1) := by decide +kernel
theorem dX12_comes_39 : decode cX12_comes 39 = .ok (.bipush (-2), 2) := by decide +kernel
theorem dX12_comes_41 : decode cX12_comes 41 = .ok (.sipush 4096, 3) := by decide +kernel
theorem dX12_comes_44 : decode cX12_comes 44 = .ok (.invokevirtual 139, 3) := by decide +kernel
theorem dX12_comes_47 : decode cX12_comes 47 = .ok (.istore_n 3, 1) := by decide +kernel
theorem dX12_comes_48 : decode cX12_comes 48 = .ok (.aload_n 0, 1) := by decide +kernel
theorem dX12_comes_49 : decode cX12_comes 49 = .ok (.getfield 7, 3) := by decide +kernel
theorem dX12_comes_52 : decode cX12_comes 52 = .ok (.sipush 320, 3) := by decide +kernel
theorem dX12_comes_55 : decode cX12_comes 55 = .ok (.iload_n 3, 1) := by decide +kernel
theorem dX12_comes_56 : decode cX12_comes 56 = .ok (.iadd, 1) := by decide +kernel
theorem dX12_comes_57 : decode cX12_comes 57 = .ok (.iload_n 2, 1) := by decide +kernel
theorem dX12_comes_58 : decode cX12_comes 58 = .ok (.iastore, 1) := by decide +kernel
theorem dX12_comes_59 : decode cX12_comes 59 = .ok (.aload_n 0, 1) := by decide +kernel
theorem dX12_comes_60 : decode cX12_comes 60 = .ok (.getfield 7, 3) := by decide +kernel
theorem dX12_comes_63 : decode cX12_comes 63 = .ok (.sipush 384, 3) := by decide +kernel
theorem dX12_comes_66 : decode cX12_comes 66 = .ok (.iload_n 3, 1) := by decide +kernel
theorem dX12_comes_67 : decode cX12_comes 67 = .ok (.iadd, 1) := by decide +kernel
theorem dX12_comes_68 : decode cX12_comes 68 = .ok (.bipush (-2), 2) := by decide +kernel
theorem dX12_comes_70 : decode cX12_comes 70 = .ok (.iastore, 1) := by decide +kernel
theorem dX12_comes_71 : decode cX12_comes 71 = .ok (.iload_n 3, 1) := by decide +kernel
theorem dX12_comes_72 : decode cX12_comes 72 = .ok (.ireturn, 1) := by decide +kernel
theorem rX12_comes : (∀ (d : Nat) (a0 a2 a3 : Value) (x : Int32) (st : List Value) (h : fk_H), fk_ev d qX12_comes 0 [a0, .int x, a2, a3] st h = fk_ev d qX12_comes 1 [a0, .int x, a2, a3] (.int x :: st) h) ∧
  (∀ (d : Nat) (L : List Value) (x0 : Int32)  (h : fk_H), fk_ev (d + 1) qX12_comes 1 L (.int x0 :: []) h = (fk_ev d qX12_isOne 0 [.int x0] [] h).bind fun o => fk_ev (d + 1) qX12_comes 4 L (o.1.toList ++ []) o.2) ∧
  (∀ (d : Nat) (L : List Value) (x : Int32) (st : List Value) (h : fk_H), fk_ev d qX12_comes 4 L (.int x :: st) h = if x = nI 0 then fk_ev d qX12_comes 35 L st h else fk_ev d qX12_comes 7 L st h) ∧
  (∀ (d : Nat) (a0 a1 a3 : Value) (x : Int32) (st : List Value) (h : fk_H), fk_ev d qX12_comes 7 [a0, a1, .int x, a3] st h = fk_ev d qX12_comes 8 [a0, a1, .int x, a3] (.int x :: st) h) ∧
  (∀ (d : Nat) (L : List Value) (x0 : Int32)  (h : fk_H), fk_ev (d + 1) qX12_comes 8 L (.int x0 :: []) h = (fk_ev d qX12_isPlace 0 [.int x0] [] h).bind fun o => fk_ev (d + 1) qX12_comes 11 L (o.1.toList ++ []) o.2) ∧
  (∀ (d : Nat) (L : List Value) (x : Int32) (st : List Value) (h : fk_H), fk_ev d qX12_comes 11 L (.int x :: st) h = if x = nI 0 then fk_ev d qX12_comes 35 L st h else fk_ev d qX12_comes 14 L st h) ∧
  (∀ (d : Nat) (a1 a2 a3 : Value) (x : Nat) (st : List Value) (h : fk_H), fk_ev d qX12_comes 14 [.ref x, a1, a2, a3] st h = fk_ev d qX12_comes 15 [.ref x, a1, a2, a3] (.ref x :: st) h) ∧
  (∀ (d : Nat) (a0 a2 a3 : Value) (x : Int32) (st : List Value) (h : fk_H), fk_ev d qX12_comes 15 [a0, .int x, a2, a3] st h = fk_ev d qX12_comes 16 [a0, .int x, a2, a3] (.int x :: st) h) ∧
  (∀ (d : Nat) (L : List Value) (x0 : Int32)  (N : Nat) (y : Nat → Nat → Int32) (l : Nat → Nat → Int64), fk_ev (d + 1) qX12_comes 16 L (.int x0 :: .ref 246 :: []) (fk_E N y l) = (fk_ev d qX12_livingOf 0 [.ref 246, .int x0, .null, .null] [] (fk_E N y l)).bind fun o => fk_ev (d + 1) qX12_comes 19 L (o.1.toList ++ []) o.2) ∧
  (∀ (d : Nat) (L : List Value) (x : Int32) (st : List Value) (h : fk_H), fk_ev d qX12_comes 19 L (.int x :: st) h = if nI 0 < x then fk_ev d qX12_comes 35 L st h else fk_ev d qX12_comes 22 L st h) ∧
  (∀ (d : Nat) (a1 a2 a3 : Value) (x : Nat) (st : List Value) (h : fk_H), fk_ev d qX12_comes 22 [.ref x, a1, a2, a3] st h = fk_ev d qX12_comes 23 [.ref x, a1, a2, a3] (.ref x :: st) h) ∧
  (∀ (d : Nat) (L st : List Value) (N : Nat) (y : Nat → Nat → Int32) (l : Nat → Nat → Int64), fk_ev d qX12_comes 23 L (.ref 246 :: st) (fk_E N y l) = fk_ev d qX12_comes 26 L (.ref 247 :: st) (fk_E N y l)) ∧
  (∀ (d : Nat) (L st : List Value) (h : fk_H), fk_ev d qX12_comes 26 L st h = fk_ev d qX12_comes 29 L (.int (nI 833) :: st) h) ∧
  (∀ (d : Nat) (L st : List Value) (N : Nat) (y : Nat → Nat → Int32) (l : Nat → Nat → Int64) (i : Nat), i < 3912 → fk_ev d qX12_comes 29 L (.int (nI i) :: .ref 247 :: st) (fk_E N y l) = fk_ev d qX12_comes 30 L (.int (y 247 i) :: st) (fk_E N y l)) ∧
  (∀ (d : Nat) (L st : List Value) (h : fk_H), fk_ev d qX12_comes 30 L st h = fk_ev d qX12_comes 32 L (.int (nI 64) :: st) h) ∧
  (∀ (d : Nat) (L : List Value) (x y : Int32) (st : List Value) (h : fk_H), fk_ev d qX12_comes 32 L (.int y :: .int x :: st) h = if ¬ x = y then fk_ev d qX12_comes 37 L st h else fk_ev d qX12_comes 35 L st h) ∧
  (∀ (d : Nat) (L st : List Value) (h : fk_H), fk_ev d qX12_comes 35 L st h = fk_ev d qX12_comes 36 L (.int ((-1 : Int32)) :: st) h) ∧
  (∀ (d : Nat) (L : List Value) (x : Int32) (h : fk_H), fk_ev d qX12_comes 36 L [.int x] h = some (some (.int x), h)) ∧
  (∀ (d : Nat) (a1 a2 a3 : Value) (x : Nat) (st : List Value) (h : fk_H), fk_ev d qX12_comes 37 [.ref x, a1, a2, a3] st h = fk_ev d qX12_comes 38 [.ref x, a1, a2, a3] (.ref x :: st) h) ∧
  (∀ (d : Nat) (a0 a2 a3 : Value) (x : Int32) (st : List Value) (h : fk_H), fk_ev d qX12_comes 38 [a0, .int x, a2, a3] st h = fk_ev d qX12_comes 39 [a0, .int x, a2, a3] (.int x :: st) h) ∧
  (∀ (d : Nat) (L st : List Value) (h : fk_H), fk_ev d qX12_comes 39 L st h = fk_ev d qX12_comes 41 L (.int ((-2 : Int32)) :: st) h) ∧
  (∀ (d : Nat) (L st : List Value) (h : fk_H), fk_ev d qX12_comes 41 L st h = fk_ev d qX12_comes 44 L (.int (nI 4096) :: st) h) ∧
  (∀ (d : Nat) (L : List Value) (x0 : Int32) (x1 : Int32) (x2 : Int32)  (N : Nat) (y : Nat → Nat → Int32) (l : Nat → Nat → Int64), fk_ev (d + 1) qX12_comes 44 L (.int x2 :: .int x1 :: .int x0 :: .ref 246 :: []) (fk_E N y l) = (fk_ev d qX12_begin 0 [.ref 246, .int x0, .int x1, .int x2, .null] [] (fk_E N y l)).bind fun o => fk_ev (d + 1) qX12_comes 47 L (o.1.toList ++ []) o.2) ∧
  (∀ (d : Nat) (a0 a1 a2 a3 : Value) (x : Int32) (st : List Value) (h : fk_H), fk_ev d qX12_comes 47 [a0, a1, a2, a3] (.int x :: st) h = fk_ev d qX12_comes 48 [a0, a1, a2, .int x] st h) ∧
  (∀ (d : Nat) (a1 a2 a3 : Value) (x : Nat) (st : List Value) (h : fk_H), fk_ev d qX12_comes 48 [.ref x, a1, a2, a3] st h = fk_ev d qX12_comes 49 [.ref x, a1, a2, a3] (.ref x :: st) h) ∧
  (∀ (d : Nat) (L st : List Value) (N : Nat) (y : Nat → Nat → Int32) (l : Nat → Nat → Int64), fk_ev d qX12_comes 49 L (.ref 246 :: st) (fk_E N y l) = fk_ev d qX12_comes 52 L (.ref 247 :: st) (fk_E N y l)) ∧
  (∀ (d : Nat) (L st : List Value) (h : fk_H), fk_ev d qX12_comes 52 L st h = fk_ev d qX12_comes 55 L (.int (nI 320) :: st) h) ∧
  (∀ (d : Nat) (a0 a1 a2 : Value) (x : Int32) (st : List Value) (h : fk_H), fk_ev d qX12_comes 55 [a0, a1, a2, .int x] st h = fk_ev d qX12_comes 56 [a0, a1, a2, .int x] (.int x :: st) h) ∧
  (∀ (d : Nat) (L : List Value) (x y : Int32) (st : List Value) (h : fk_H), fk_ev d qX12_comes 56 L (.int y :: .int x :: st) h = fk_ev d qX12_comes 57 L (.int (x + y) :: st) h) ∧
  (∀ (d : Nat) (a0 a1 a3 : Value) (x : Int32) (st : List Value) (h : fk_H), fk_ev d qX12_comes 57 [a0, a1, .int x, a3] st h = fk_ev d qX12_comes 58 [a0, a1, .int x, a3] (.int x :: st) h) ∧
  (∀ (d : Nat) (L st : List Value) (N : Nat) (y : Nat → Nat → Int32) (l : Nat → Nat → Int64) (i : Nat) (v : Int32), i < 3912 → fk_ev d qX12_comes 58 L (.int v :: .int (nI i) :: .ref 247 :: st) (fk_E N y l) = fk_ev d qX12_comes 59 L st (fk_E N (fk_u y 247 i v) l)) ∧
  (∀ (d : Nat) (a1 a2 a3 : Value) (x : Nat) (st : List Value) (h : fk_H), fk_ev d qX12_comes 59 [.ref x, a1, a2, a3] st h = fk_ev d qX12_comes 60 [.ref x, a1, a2, a3] (.ref x :: st) h) ∧
  (∀ (d : Nat) (L st : List Value) (N : Nat) (y : Nat → Nat → Int32) (l : Nat → Nat → Int64), fk_ev d qX12_comes 60 L (.ref 246 :: st) (fk_E N y l) = fk_ev d qX12_comes 63 L (.ref 247 :: st) (fk_E N y l)) ∧
  (∀ (d : Nat) (L st : List Value) (h : fk_H), fk_ev d qX12_comes 63 L st h = fk_ev d qX12_comes 66 L (.int (nI 384) :: st) h) ∧
  (∀ (d : Nat) (a0 a1 a2 : Value) (x : Int32) (st : List Value) (h : fk_H), fk_ev d qX12_comes 66 [a0, a1, a2, .int x] st h = fk_ev d qX12_comes 67 [a0, a1, a2, .int x] (.int x :: st) h) ∧
  (∀ (d : Nat) (L : List Value) (x y : Int32) (st : List Value) (h : fk_H), fk_ev d qX12_comes 67 L (.int y :: .int x :: st) h = fk_ev d qX12_comes 68 L (.int (x + y) :: st) h) ∧
  (∀ (d : Nat) (L st : List Value) (h : fk_H), fk_ev d qX12_comes 68 L st h = fk_ev d qX12_comes 70 L (.int ((-2 : Int32)) :: st) h) ∧
  (∀ (d : Nat) (L st : List Value) (N : Nat) (y : Nat → Nat → Int32) (l : Nat → Nat → Int64) (i : Nat) (v : Int32), i < 3912 → fk_ev d qX12_comes 70 L (.int v :: .int (nI i) :: .ref 247 :: st) (fk_E N y l) = fk_ev d qX12_comes 71 L st (fk_E N (fk_u y 247 i v) l)) ∧
  (∀ (d : Nat) (a0 a1 a2 : Value) (x : Int32) (st : List Value) (h : fk_H), fk_ev d qX12_comes 71 [a0, a1, a2, .int x] st h = fk_ev d qX12_comes 72 [a0, a1, a2, .int x] (.int x :: st) h) ∧
  (∀ (d : Nat) (L : List Value) (x : Int32) (h : fk_H), fk_ev d qX12_comes 72 L [.int x] h = some (some (.int x), h)) := ⟨fun d a0 a2 a3 x st h => fk_w_iloadn 1 [a0, .int x, a2, a3] dX12_comes_0 rfl,
  fun d L x0 h => fk_g_calls [.int x0] [] rfl lm_12_132 dX12_comes_1 rfl ⟨rfl, by decide⟩ (by simp),
  fun d L x st h => fk_r_if_eq dX12_comes_4 (by decide),
  fun d a0 a1 a3 x st h => fk_w_iloadn 2 [a0, a1, .int x, a3] dX12_comes_7 rfl,
  fun d L x0 h => fk_g_calls [.int x0] [] rfl lm_12_116 dX12_comes_8 rfl ⟨rfl, by decide⟩ (by simp),
  fun d L x st h => fk_r_if_eq dX12_comes_11 (by decide),
  fun d a1 a2 a3 x st h => fk_w_aloadn 0 [.ref x, a1, a2, a3] dX12_comes_14 rfl,
  fun d a0 a2 a3 x st h => fk_w_iloadn 1 [a0, .int x, a2, a3] dX12_comes_15 rfl,
  fun d L x0 N y l  => fk_g_call [.int x0] [] rfl lm_12_135 dX12_comes_16 rfl ⟨rfl, by decide⟩ (by simp) fk_at_246,
  fun d L x st h => fk_r_if_gt dX12_comes_19 (by decide),
  fun d a1 a2 a3 x st h => fk_w_aloadn 0 [.ref x, a1, a2, a3] dX12_comes_22 rfl,
  fun d L st N y l => fk_g_getC rfl lf_12_7 (by decide) rfl dX12_comes_23 fk_at_246,
  fun d L st h => fk_w_sipush dX12_comes_26 (by decide),
  fun d L st N y l i hi => fk_g_iald fk_at_247 fk_ln_247 (by decide) dX12_comes_29 hi,
  fun d L st h => fk_w_bipush dX12_comes_30 (by decide),
  fun d L x y st h => fk_r_icmp_ne dX12_comes_32 (by decide),
  fun d L st h => fk_w_iconst dX12_comes_35 (by decide),
  fun d L x h => fk_r_ret dX12_comes_36 (Or.inl rfl),
  fun d a1 a2 a3 x st h => fk_w_aloadn 0 [.ref x, a1, a2, a3] dX12_comes_37 rfl,
  fun d a0 a2 a3 x st h => fk_w_iloadn 1 [a0, .int x, a2, a3] dX12_comes_38 rfl,
  fun d L st h => fk_w_bipush dX12_comes_39 (by decide),
  fun d L st h => fk_w_sipush dX12_comes_41 (by decide),
  fun d L x0 x1 x2 N y l  => fk_g_call [.int x0, .int x1, .int x2] [] rfl lm_12_139 dX12_comes_44 rfl ⟨rfl, by decide⟩ (by simp) fk_at_246,
  fun d a0 a1 a2 a3 x st h => fk_w_istoren 3 4 [] [a0, a1, a2, a3] [a0, a1, a2, .int x] dX12_comes_47 rfl rfl (by decide) rfl,
  fun d a1 a2 a3 x st h => fk_w_aloadn 0 [.ref x, a1, a2, a3] dX12_comes_48 rfl,
  fun d L st N y l => fk_g_getC rfl lf_12_7 (by decide) rfl dX12_comes_49 fk_at_246,
  fun d L st h => fk_w_sipush dX12_comes_52 (by decide),
  fun d a0 a1 a2 x st h => fk_w_iloadn 3 [a0, a1, a2, .int x] dX12_comes_55 rfl,
  fun d L x y st h => fk_r_iadd dX12_comes_56,
  fun d a0 a1 a3 x st h => fk_w_iloadn 2 [a0, a1, .int x, a3] dX12_comes_57 rfl,
  fun d L st N y l i v hi => fk_g_iast fk_at_247 fk_ln_247 (by decide) dX12_comes_58 hi,
  fun d a1 a2 a3 x st h => fk_w_aloadn 0 [.ref x, a1, a2, a3] dX12_comes_59 rfl,
  fun d L st N y l => fk_g_getC rfl lf_12_7 (by decide) rfl dX12_comes_60 fk_at_246,
  fun d L st h => fk_w_sipush dX12_comes_63 (by decide),
  fun d a0 a1 a2 x st h => fk_w_iloadn 3 [a0, a1, a2, .int x] dX12_comes_66 rfl,
  fun d L x y st h => fk_r_iadd dX12_comes_67,
  fun d L st h => fk_w_bipush dX12_comes_68 (by decide),
  fun d L st N y l i v hi => fk_g_iast fk_at_247 fk_ln_247 (by decide) dX12_comes_70 hi,
  fun d a0 a1 a2 x st h => fk_w_iloadn 3 [a0, a1, a2, .int x] dX12_comes_71 rfl,
  fun d L x h => fk_r_ret dX12_comes_72 (Or.inl rfl)⟩
theorem dX12_knows_0 : decode cX12_knows 0 = .ok (.aload_n 0, 1) := by decide +kernel
theorem dX12_knows_1 : decode cX12_knows 1 = .ok (.getfield 7, 3) := by decide +kernel
theorem dX12_knows_4 : decode cX12_knows 4 = .ok (.sipush 704, 3) := by decide +kernel
theorem dX12_knows_7 : decode cX12_knows 7 = .ok (.iload_n 1, 1) := by decide +kernel
theorem dX12_knows_8 : decode cX12_knows 8 = .ok (.iadd, 1) := by decide +kernel
theorem dX12_knows_9 : decode cX12_knows 9 = .ok (.aload_n 0, 1) := by decide +kernel
theorem dX12_knows_10 : decode cX12_knows 10 = .ok (.getfield 7, 3) := by decide +kernel
theorem dX12_knows_13 : decode cX12_knows 13 = .ok (.sipush 704, 3) := by decide +kernel
theorem dX12_knows_16 : decode cX12_knows 16 = .ok (.iload_n 1, 1) := by decide +kernel
theorem dX12_knows_17 : decode cX12_knows 17 = .ok (.iadd, 1) := by decide +kernel
theorem dX12_knows_18 : decode cX12_knows 18 = .ok (.iaload, 1) := by decide +kernel
theorem dX12_knows_19 : decode cX12_knows 19 = .ok (.iconst 1, 1) := by decide +kernel
theorem dX12_knows_20 : decode cX12_knows 20 = .ok (.iload_n 2, 1) := by decide +kernel
theorem dX12_knows_21 : decode cX12_knows 21 = .ok (.ishl, 1) := by decide +kernel
theorem dX12_knows_22 : decode cX12_knows 22 = .ok (.ior, 1) := by decide +kernel
theorem dX12_knows_23 : decode cX12_knows 23 = .ok (.iastore, 1) := by decide +kernel
theorem dX12_knows_24 : decode cX12_knows 24 = .ok (.aload_n 0, 1) := by decide +kernel
theorem dX12_knows_25 : decode cX12_knows 25 = .ok (.getfield 7, 3) := by decide +kernel
theorem dX12_knows_28 : decode cX12_knows 28 = .ok (.sipush 768, 3) := by decide +kernel
theorem dX12_knows_31 : decode cX12_knows 31 = .ok (.iload_n 1, 1) := by decide +kernel
theorem dX12_knows_32 : decode cX12_knows 32 = .ok (.iadd, 1) := by decide +kernel
theorem dX12_knows_33 : decode cX12_knows 33 = .ok (.iload_n 3, 1) := by decide +kernel
theorem dX12_knows_34 : decode cX12_knows 34 = .ok (.ifCond .eq 20, 3) := by decide +kernel
theorem dX12_knows_37 : decode cX12_knows 37 = .ok (.aload_n 0, 1) := by decide +kernel
theorem dX12_knows_38 : decode cX12_knows 38 = .ok (.getfield 7, 3) := by decide +kernel
theorem dX12_knows_41 : decode cX12_knows 41 = .ok (.sipush 768, 3) := by decide +kernel
theorem dX12_knows_44 : decode cX12_knows 44 = .ok (.iload_n 1, 1) := by decide +kernel
theorem dX12_knows_45 : decode cX12_knows 45 = .ok (.iadd, 1) := by decide +kernel
theorem dX12_knows_46 : decode cX12_knows 46 = .ok (.iaload, 1) := by decide +kernel
theorem dX12_knows_47 : decode cX12_knows 47 = .ok (.iconst 1, 1) := by decide +kernel
theorem dX12_knows_48 : decode cX12_knows 48 = .ok (.iload_n 2, 1) := by decide +kernel
theorem dX12_knows_49 : decode cX12_knows 49 = .ok (.ishl, 1) := by decide +kernel
theorem dX12_knows_50 : decode cX12_knows 50 = .ok (.ior, 1) := by decide +kernel
theorem dX12_knows_51 : decode cX12_knows 51 = .ok (.goto 19, 3) := by decide +kernel
theorem dX12_knows_54 : decode cX12_knows 54 = .ok (.aload_n 0, 1) := by decide +kernel
theorem dX12_knows_55 : decode cX12_knows 55 = .ok (.getfield 7, 3) := by decide +kernel
theorem dX12_knows_58 : decode cX12_knows 58 = .ok (.sipush 768, 3) := by decide +kernel
theorem dX12_knows_61 : decode cX12_knows 61 = .ok (.iload_n 1, 1) := by decide +kernel
theorem dX12_knows_62 : decode cX12_knows 62 = .ok (.iadd, 1) := by decide +kernel
theorem dX12_knows_63 : decode cX12_knows 63 = .ok (.iaload, 1) := by decide +kernel
theorem dX12_knows_64 : decode cX12_knows 64 = .ok (.iconst 1, 1) := by decide +kernel
theorem dX12_knows_65 : decode cX12_knows 65 = .ok (.iload_n 2, 1) := by decide +kernel
theorem dX12_knows_66 : decode cX12_knows 66 = .ok (.ishl, 1) := by decide +kernel
theorem dX12_knows_67 : decode cX12_knows 67 = .ok (.iconst (-1), 1) := by decide +kernel
theorem dX12_knows_68 : decode cX12_knows 68 = .ok (.ixor, 1) := by decide +kernel
theorem dX12_knows_69 : decode cX12_knows 69 = .ok (.iand, 1) := by decide +kernel
theorem dX12_knows_70 : decode cX12_knows 70 = .ok (.iastore, 1) := by decide +kernel
theorem dX12_knows_71 : decode cX12_knows 71 = .ok (.return_, 1) := by decide +kernel
theorem rX12_knows : (∀ (d : Nat) (a1 a2 a3 : Value) (x : Nat) (st : List Value) (h : fk_H), fk_ev d qX12_knows 0 [.ref x, a1, a2, a3] st h = fk_ev d qX12_knows 1 [.ref x, a1, a2, a3] (.ref x :: st) h) ∧
  (∀ (d : Nat) (L st : List Value) (N : Nat) (y : Nat → Nat → Int32) (l : Nat → Nat → Int64), fk_ev d qX12_knows 1 L (.ref 246 :: st) (fk_E N y l) = fk_ev d qX12_knows 4 L (.ref 247 :: st) (fk_E N y l)) ∧
  (∀ (d : Nat) (L st : List Value) (h : fk_H), fk_ev d qX12_knows 4 L st h = fk_ev d qX12_knows 7 L (.int (nI 704) :: st) h) ∧
  (∀ (d : Nat) (a0 a2 a3 : Value) (x : Int32) (st : List Value) (h : fk_H), fk_ev d qX12_knows 7 [a0, .int x, a2, a3] st h = fk_ev d qX12_knows 8 [a0, .int x, a2, a3] (.int x :: st) h) ∧
  (∀ (d : Nat) (L : List Value) (x y : Int32) (st : List Value) (h : fk_H), fk_ev d qX12_knows 8 L (.int y :: .int x :: st) h = fk_ev d qX12_knows 9 L (.int (x + y) :: st) h) ∧
  (∀ (d : Nat) (a1 a2 a3 : Value) (x : Nat) (st : List Value) (h : fk_H), fk_ev d qX12_knows 9 [.ref x, a1, a2, a3] st h = fk_ev d qX12_knows 10 [.ref x, a1, a2, a3] (.ref x :: st) h) ∧
  (∀ (d : Nat) (L st : List Value) (N : Nat) (y : Nat → Nat → Int32) (l : Nat → Nat → Int64), fk_ev d qX12_knows 10 L (.ref 246 :: st) (fk_E N y l) = fk_ev d qX12_knows 13 L (.ref 247 :: st) (fk_E N y l)) ∧
  (∀ (d : Nat) (L st : List Value) (h : fk_H), fk_ev d qX12_knows 13 L st h = fk_ev d qX12_knows 16 L (.int (nI 704) :: st) h) ∧
  (∀ (d : Nat) (a0 a2 a3 : Value) (x : Int32) (st : List Value) (h : fk_H), fk_ev d qX12_knows 16 [a0, .int x, a2, a3] st h = fk_ev d qX12_knows 17 [a0, .int x, a2, a3] (.int x :: st) h) ∧
  (∀ (d : Nat) (L : List Value) (x y : Int32) (st : List Value) (h : fk_H), fk_ev d qX12_knows 17 L (.int y :: .int x :: st) h = fk_ev d qX12_knows 18 L (.int (x + y) :: st) h) ∧
  (∀ (d : Nat) (L st : List Value) (N : Nat) (y : Nat → Nat → Int32) (l : Nat → Nat → Int64) (i : Nat), i < 3912 → fk_ev d qX12_knows 18 L (.int (nI i) :: .ref 247 :: st) (fk_E N y l) = fk_ev d qX12_knows 19 L (.int (y 247 i) :: st) (fk_E N y l)) ∧
  (∀ (d : Nat) (L st : List Value) (h : fk_H), fk_ev d qX12_knows 19 L st h = fk_ev d qX12_knows 20 L (.int (nI 1) :: st) h) ∧
  (∀ (d : Nat) (a0 a1 a3 : Value) (x : Int32) (st : List Value) (h : fk_H), fk_ev d qX12_knows 20 [a0, a1, .int x, a3] st h = fk_ev d qX12_knows 21 [a0, a1, .int x, a3] (.int x :: st) h) ∧
  (∀ (d : Nat) (L : List Value) (x y : Int32) (st : List Value) (h : fk_H), fk_ev d qX12_knows 21 L (.int y :: .int x :: st) h = fk_ev d qX12_knows 22 L (.int (x <<< (y &&& 31)) :: st) h) ∧
  (∀ (d : Nat) (L : List Value) (x y : Int32) (st : List Value) (h : fk_H), fk_ev d qX12_knows 22 L (.int y :: .int x :: st) h = fk_ev d qX12_knows 23 L (.int (x ||| y) :: st) h) ∧
  (∀ (d : Nat) (L st : List Value) (N : Nat) (y : Nat → Nat → Int32) (l : Nat → Nat → Int64) (i : Nat) (v : Int32), i < 3912 → fk_ev d qX12_knows 23 L (.int v :: .int (nI i) :: .ref 247 :: st) (fk_E N y l) = fk_ev d qX12_knows 24 L st (fk_E N (fk_u y 247 i v) l)) ∧
  (∀ (d : Nat) (a1 a2 a3 : Value) (x : Nat) (st : List Value) (h : fk_H), fk_ev d qX12_knows 24 [.ref x, a1, a2, a3] st h = fk_ev d qX12_knows 25 [.ref x, a1, a2, a3] (.ref x :: st) h) ∧
  (∀ (d : Nat) (L st : List Value) (N : Nat) (y : Nat → Nat → Int32) (l : Nat → Nat → Int64), fk_ev d qX12_knows 25 L (.ref 246 :: st) (fk_E N y l) = fk_ev d qX12_knows 28 L (.ref 247 :: st) (fk_E N y l)) ∧
  (∀ (d : Nat) (L st : List Value) (h : fk_H), fk_ev d qX12_knows 28 L st h = fk_ev d qX12_knows 31 L (.int (nI 768) :: st) h) ∧
  (∀ (d : Nat) (a0 a2 a3 : Value) (x : Int32) (st : List Value) (h : fk_H), fk_ev d qX12_knows 31 [a0, .int x, a2, a3] st h = fk_ev d qX12_knows 32 [a0, .int x, a2, a3] (.int x :: st) h) ∧
  (∀ (d : Nat) (L : List Value) (x y : Int32) (st : List Value) (h : fk_H), fk_ev d qX12_knows 32 L (.int y :: .int x :: st) h = fk_ev d qX12_knows 33 L (.int (x + y) :: st) h) ∧
  (∀ (d : Nat) (a0 a1 a2 : Value) (x : Int32) (st : List Value) (h : fk_H), fk_ev d qX12_knows 33 [a0, a1, a2, .int x] st h = fk_ev d qX12_knows 34 [a0, a1, a2, .int x] (.int x :: st) h) ∧
  (∀ (d : Nat) (L : List Value) (x : Int32) (st : List Value) (h : fk_H), fk_ev d qX12_knows 34 L (.int x :: st) h = if x = nI 0 then fk_ev d qX12_knows 54 L st h else fk_ev d qX12_knows 37 L st h) ∧
  (∀ (d : Nat) (a1 a2 a3 : Value) (x : Nat) (st : List Value) (h : fk_H), fk_ev d qX12_knows 37 [.ref x, a1, a2, a3] st h = fk_ev d qX12_knows 38 [.ref x, a1, a2, a3] (.ref x :: st) h) ∧
  (∀ (d : Nat) (L st : List Value) (N : Nat) (y : Nat → Nat → Int32) (l : Nat → Nat → Int64), fk_ev d qX12_knows 38 L (.ref 246 :: st) (fk_E N y l) = fk_ev d qX12_knows 41 L (.ref 247 :: st) (fk_E N y l)) ∧
  (∀ (d : Nat) (L st : List Value) (h : fk_H), fk_ev d qX12_knows 41 L st h = fk_ev d qX12_knows 44 L (.int (nI 768) :: st) h) ∧
  (∀ (d : Nat) (a0 a2 a3 : Value) (x : Int32) (st : List Value) (h : fk_H), fk_ev d qX12_knows 44 [a0, .int x, a2, a3] st h = fk_ev d qX12_knows 45 [a0, .int x, a2, a3] (.int x :: st) h) ∧
  (∀ (d : Nat) (L : List Value) (x y : Int32) (st : List Value) (h : fk_H), fk_ev d qX12_knows 45 L (.int y :: .int x :: st) h = fk_ev d qX12_knows 46 L (.int (x + y) :: st) h) ∧
  (∀ (d : Nat) (L st : List Value) (N : Nat) (y : Nat → Nat → Int32) (l : Nat → Nat → Int64) (i : Nat), i < 3912 → fk_ev d qX12_knows 46 L (.int (nI i) :: .ref 247 :: st) (fk_E N y l) = fk_ev d qX12_knows 47 L (.int (y 247 i) :: st) (fk_E N y l)) ∧
  (∀ (d : Nat) (L st : List Value) (h : fk_H), fk_ev d qX12_knows 47 L st h = fk_ev d qX12_knows 48 L (.int (nI 1) :: st) h) ∧
  (∀ (d : Nat) (a0 a1 a3 : Value) (x : Int32) (st : List Value) (h : fk_H), fk_ev d qX12_knows 48 [a0, a1, .int x, a3] st h = fk_ev d qX12_knows 49 [a0, a1, .int x, a3] (.int x :: st) h) ∧
  (∀ (d : Nat) (L : List Value) (x y : Int32) (st : List Value) (h : fk_H), fk_ev d qX12_knows 49 L (.int y :: .int x :: st) h = fk_ev d qX12_knows 50 L (.int (x <<< (y &&& 31)) :: st) h) ∧
  (∀ (d : Nat) (L : List Value) (x y : Int32) (st : List Value) (h : fk_H), fk_ev d qX12_knows 50 L (.int y :: .int x :: st) h = fk_ev d qX12_knows 51 L (.int (x ||| y) :: st) h) ∧
  (∀ (d : Nat) (L st : List Value) (h : fk_H), fk_ev d qX12_knows 51 L st h = fk_ev d qX12_knows 70 L st h) ∧
  (∀ (d : Nat) (a1 a2 a3 : Value) (x : Nat) (st : List Value) (h : fk_H), fk_ev d qX12_knows 54 [.ref x, a1, a2, a3] st h = fk_ev d qX12_knows 55 [.ref x, a1, a2, a3] (.ref x :: st) h) ∧
  (∀ (d : Nat) (L st : List Value) (N : Nat) (y : Nat → Nat → Int32) (l : Nat → Nat → Int64), fk_ev d qX12_knows 55 L (.ref 246 :: st) (fk_E N y l) = fk_ev d qX12_knows 58 L (.ref 247 :: st) (fk_E N y l)) ∧
  (∀ (d : Nat) (L st : List Value) (h : fk_H), fk_ev d qX12_knows 58 L st h = fk_ev d qX12_knows 61 L (.int (nI 768) :: st) h) ∧
  (∀ (d : Nat) (a0 a2 a3 : Value) (x : Int32) (st : List Value) (h : fk_H), fk_ev d qX12_knows 61 [a0, .int x, a2, a3] st h = fk_ev d qX12_knows 62 [a0, .int x, a2, a3] (.int x :: st) h) ∧
  (∀ (d : Nat) (L : List Value) (x y : Int32) (st : List Value) (h : fk_H), fk_ev d qX12_knows 62 L (.int y :: .int x :: st) h = fk_ev d qX12_knows 63 L (.int (x + y) :: st) h) ∧
  (∀ (d : Nat) (L st : List Value) (N : Nat) (y : Nat → Nat → Int32) (l : Nat → Nat → Int64) (i : Nat), i < 3912 → fk_ev d qX12_knows 63 L (.int (nI i) :: .ref 247 :: st) (fk_E N y l) = fk_ev d qX12_knows 64 L (.int (y 247 i) :: st) (fk_E N y l)) ∧
  (∀ (d : Nat) (L st : List Value) (h : fk_H), fk_ev d qX12_knows 64 L st h = fk_ev d qX12_knows 65 L (.int (nI 1) :: st) h) ∧
  (∀ (d : Nat) (a0 a1 a3 : Value) (x : Int32) (st : List Value) (h : fk_H), fk_ev d qX12_knows 65 [a0, a1, .int x, a3] st h = fk_ev d qX12_knows 66 [a0, a1, .int x, a3] (.int x :: st) h) ∧
  (∀ (d : Nat) (L : List Value) (x y : Int32) (st : List Value) (h : fk_H), fk_ev d qX12_knows 66 L (.int y :: .int x :: st) h = fk_ev d qX12_knows 67 L (.int (x <<< (y &&& 31)) :: st) h) ∧
  (∀ (d : Nat) (L st : List Value) (h : fk_H), fk_ev d qX12_knows 67 L st h = fk_ev d qX12_knows 68 L (.int ((-1 : Int32)) :: st) h) ∧
  (∀ (d : Nat) (L : List Value) (x y : Int32) (st : List Value) (h : fk_H), fk_ev d qX12_knows 68 L (.int y :: .int x :: st) h = fk_ev d qX12_knows 69 L (.int (x ^^^ y) :: st) h) ∧
  (∀ (d : Nat) (L : List Value) (x y : Int32) (st : List Value) (h : fk_H), fk_ev d qX12_knows 69 L (.int y :: .int x :: st) h = fk_ev d qX12_knows 70 L (.int (x &&& y) :: st) h) ∧
  (∀ (d : Nat) (L st : List Value) (N : Nat) (y : Nat → Nat → Int32) (l : Nat → Nat → Int64) (i : Nat) (v : Int32), i < 3912 → fk_ev d qX12_knows 70 L (.int v :: .int (nI i) :: .ref 247 :: st) (fk_E N y l) = fk_ev d qX12_knows 71 L st (fk_E N (fk_u y 247 i v) l)) ∧
  (∀ (d : Nat) (L : List Value) (h : fk_H), fk_ev d qX12_knows 71 L [] h = some (none, h)) := ⟨fun d a1 a2 a3 x st h => fk_w_aloadn 0 [.ref x, a1, a2, a3] dX12_knows_0 rfl,
  fun d L st N y l => fk_g_getC rfl lf_12_7 (by decide) rfl dX12_knows_1 fk_at_246,
  fun d L st h => fk_w_sipush dX12_knows_4 (by decide),
  fun d a0 a2 a3 x st h => fk_w_iloadn 1 [a0, .int x, a2, a3] dX12_knows_7 rfl,
  fun d L x y st h => fk_r_iadd dX12_knows_8,
  fun d a1 a2 a3 x st h => fk_w_aloadn 0 [.ref x, a1, a2, a3] dX12_knows_9 rfl,
  fun d L st N y l => fk_g_getC rfl lf_12_7 (by decide) rfl dX12_knows_10 fk_at_246,
  fun d L st h => fk_w_sipush dX12_knows_13 (by decide),
  fun d a0 a2 a3 x st h => fk_w_iloadn 1 [a0, .int x, a2, a3] dX12_knows_16 rfl,
  fun d L x y st h => fk_r_iadd dX12_knows_17,
  fun d L st N y l i hi => fk_g_iald fk_at_247 fk_ln_247 (by decide) dX12_knows_18 hi,
  fun d L st h => fk_w_iconst dX12_knows_19 (by decide),
  fun d a0 a1 a3 x st h => fk_w_iloadn 2 [a0, a1, .int x, a3] dX12_knows_20 rfl,
  fun d L x y st h => fk_r_ishl dX12_knows_21,
  fun d L x y st h => fk_r_ior dX12_knows_22,
  fun d L st N y l i v hi => fk_g_iast fk_at_247 fk_ln_247 (by decide) dX12_knows_23 hi,
  fun d a1 a2 a3 x st h => fk_w_aloadn 0 [.ref x, a1, a2, a3] dX12_knows_24 rfl,
  fun d L st N y l => fk_g_getC rfl lf_12_7 (by decide) rfl dX12_knows_25 fk_at_246,
  fun d L st h => fk_w_sipush dX12_knows_28 (by decide),
  fun d a0 a2 a3 x st h => fk_w_iloadn 1 [a0, .int x, a2, a3] dX12_knows_31 rfl,
  fun d L x y st h => fk_r_iadd dX12_knows_32,
  fun d a0 a1 a2 x st h => fk_w_iloadn 3 [a0, a1, a2, .int x] dX12_knows_33 rfl,
  fun d L x st h => fk_r_if_eq dX12_knows_34 (by decide),
  fun d a1 a2 a3 x st h => fk_w_aloadn 0 [.ref x, a1, a2, a3] dX12_knows_37 rfl,
  fun d L st N y l => fk_g_getC rfl lf_12_7 (by decide) rfl dX12_knows_38 fk_at_246,
  fun d L st h => fk_w_sipush dX12_knows_41 (by decide),
  fun d a0 a2 a3 x st h => fk_w_iloadn 1 [a0, .int x, a2, a3] dX12_knows_44 rfl,
  fun d L x y st h => fk_r_iadd dX12_knows_45,
  fun d L st N y l i hi => fk_g_iald fk_at_247 fk_ln_247 (by decide) dX12_knows_46 hi,
  fun d L st h => fk_w_iconst dX12_knows_47 (by decide),
  fun d a0 a1 a3 x st h => fk_w_iloadn 2 [a0, a1, .int x, a3] dX12_knows_48 rfl,
  fun d L x y st h => fk_r_ishl dX12_knows_49,
  fun d L x y st h => fk_r_ior dX12_knows_50,
  fun d L st h => fk_r_goto dX12_knows_51 (by decide),
  fun d a1 a2 a3 x st h => fk_w_aloadn 0 [.ref x, a1, a2, a3] dX12_knows_54 rfl,
  fun d L st N y l => fk_g_getC rfl lf_12_7 (by decide) rfl dX12_knows_55 fk_at_246,
  fun d L st h => fk_w_sipush dX12_knows_58 (by decide),
  fun d a0 a2 a3 x st h => fk_w_iloadn 1 [a0, .int x, a2, a3] dX12_knows_61 rfl,
  fun d L x y st h => fk_r_iadd dX12_knows_62,
  fun d L st N y l i hi => fk_g_iald fk_at_247 fk_ln_247 (by decide) dX12_knows_63 hi,
  fun d L st h => fk_w_iconst dX12_knows_64 (by decide),
  fun d a0 a1 a3 x st h => fk_w_iloadn 2 [a0, a1, .int x, a3] dX12_knows_65 rfl,
  fun d L x y st h => fk_r_ishl dX12_knows_66,
  fun d L st h => fk_w_iconst dX12_knows_67 (by decide),
  fun d L x y st h => fk_r_ixor dX12_knows_68,
  fun d L x y st h => fk_r_iand dX12_knows_69,
  fun d L st N y l i v hi => fk_g_iast fk_at_247 fk_ln_247 (by decide) dX12_knows_70 hi,
  fun d L h => fk_r_vret dX12_knows_71 rfl⟩
theorem dX12_learns_0 : decode cX12_learns 0 = .ok (.aload_n 0, 1) := by decide +kernel
theorem dX12_learns_1 : decode cX12_learns 1 = .ok (.iload_n 1, 1) := by decide +kernel
theorem dX12_learns_2 : decode cX12_learns 2 = .ok (.invokevirtual 129, 3) := by decide +kernel
theorem dX12_learns_5 : decode cX12_learns 5 = .ok (.ifCond .eq 10, 3) := by decide +kernel
theorem dX12_learns_8 : decode cX12_learns 8 = .ok (.iload_n 2, 1) := by decide +kernel
theorem dX12_learns_9 : decode cX12_learns 9 = .ok (.invokestatic 120, 3) := by decide +kernel
theorem dX12_learns_12 : decode cX12_learns 12 = .ok (.ifCond .ne 5, 3) := by decide +kernel
theorem dX12_learns_15 : decode cX12_learns 15 = .ok (.iconst 0, 1) := by decide +kernel
theorem dX12_learns_16 : decode cX12_learns 16 = .ok (.ireturn, 1) := by decide +kernel
theorem dX12_learns_17 : decode cX12_learns 17 = .ok (.aload_n 0, 1) := by decide +kernel
theorem dX12_learns_18 : decode cX12_learns 18 = .ok (.iload_n 1, 1) := by decide +kernel
theorem dX12_learns_19 : decode cX12_learns 19 = .ok (.iload_n 2, 1) := by decide +kernel
theorem dX12_learns_20 : decode cX12_learns 20 = .ok (.iload_n 3, 1) := by decide +kernel
theorem dX12_learns_21 : decode cX12_learns 21 = .ok (.invokevirtual 143, 3) := by decide +kernel
theorem dX12_learns_24 : decode cX12_learns 24 = .ok (.iconst 1, 1) := by decide +kernel
theorem dX12_learns_25 : decode cX12_learns 25 = .ok (.ireturn, 1) := by decide +kernel
theorem rX12_learns : (∀ (d : Nat) (a1 a2 a3 : Value) (x : Nat) (st : List Value) (h : fk_H), fk_ev d qX12_learns 0 [.ref x, a1, a2, a3] st h = fk_ev d qX12_learns 1 [.ref x, a1, a2, a3] (.ref x :: st) h) ∧
  (∀ (d : Nat) (a0 a2 a3 : Value) (x : Int32) (st : List Value) (h : fk_H), fk_ev d qX12_learns 1 [a0, .int x, a2, a3] st h = fk_ev d qX12_learns 2 [a0, .int x, a2, a3] (.int x :: st) h) ∧
  (∀ (d : Nat) (L : List Value) (x0 : Int32)  (N : Nat) (y : Nat → Nat → Int32) (l : Nat → Nat → Int64), fk_ev (d + 1) qX12_learns 2 L (.int x0 :: .ref 246 :: []) (fk_E N y l) = (fk_ev d qX12_isLiving 0 [.ref 246, .int x0] [] (fk_E N y l)).bind fun o => fk_ev (d + 1) qX12_learns 5 L (o.1.toList ++ []) o.2) ∧
  (∀ (d : Nat) (L : List Value) (x : Int32) (st : List Value) (h : fk_H), fk_ev d qX12_learns 5 L (.int x :: st) h = if x = nI 0 then fk_ev d qX12_learns 15 L st h else fk_ev d qX12_learns 8 L st h) ∧
  (∀ (d : Nat) (a0 a1 a3 : Value) (x : Int32) (st : List Value) (h : fk_H), fk_ev d qX12_learns 8 [a0, a1, .int x, a3] st h = fk_ev d qX12_learns 9 [a0, a1, .int x, a3] (.int x :: st) h) ∧
  (∀ (d : Nat) (L : List Value) (x0 : Int32)  (h : fk_H), fk_ev (d + 1) qX12_learns 9 L (.int x0 :: []) h = (fk_ev d qX12_isFact 0 [.int x0] [] h).bind fun o => fk_ev (d + 1) qX12_learns 12 L (o.1.toList ++ []) o.2) ∧
  (∀ (d : Nat) (L : List Value) (x : Int32) (st : List Value) (h : fk_H), fk_ev d qX12_learns 12 L (.int x :: st) h = if ¬ x = nI 0 then fk_ev d qX12_learns 17 L st h else fk_ev d qX12_learns 15 L st h) ∧
  (∀ (d : Nat) (L st : List Value) (h : fk_H), fk_ev d qX12_learns 15 L st h = fk_ev d qX12_learns 16 L (.int (nI 0) :: st) h) ∧
  (∀ (d : Nat) (L : List Value) (h : fk_H), fk_ev d qX12_learns 16 L [.int (nI 0)] h = some (some (.int (nI 0)), h)) ∧
  (∀ (d : Nat) (L : List Value) (h : fk_H), fk_ev d qX12_learns 16 L [.int (nI 1)] h = some (some (.int (nI 1)), h)) ∧
  (∀ (d : Nat) (L : List Value) (p : Prop) [Decidable p] (h : fk_H), fk_ev d qX12_learns 16 L [.int (fk_b p)] h = some (some (.int (fk_b p)), h)) ∧
  (∀ (d : Nat) (L : List Value) (x : Int32) (h : fk_H), (x = nI 0 ∨ x = nI 1) → fk_ev d qX12_learns 16 L [.int x] h = some (some (.int x), h)) ∧
  (∀ (d : Nat) (a1 a2 a3 : Value) (x : Nat) (st : List Value) (h : fk_H), fk_ev d qX12_learns 17 [.ref x, a1, a2, a3] st h = fk_ev d qX12_learns 18 [.ref x, a1, a2, a3] (.ref x :: st) h) ∧
  (∀ (d : Nat) (a0 a2 a3 : Value) (x : Int32) (st : List Value) (h : fk_H), fk_ev d qX12_learns 18 [a0, .int x, a2, a3] st h = fk_ev d qX12_learns 19 [a0, .int x, a2, a3] (.int x :: st) h) ∧
  (∀ (d : Nat) (a0 a1 a3 : Value) (x : Int32) (st : List Value) (h : fk_H), fk_ev d qX12_learns 19 [a0, a1, .int x, a3] st h = fk_ev d qX12_learns 20 [a0, a1, .int x, a3] (.int x :: st) h) ∧
  (∀ (d : Nat) (a0 a1 a2 : Value) (x : Int32) (st : List Value) (h : fk_H), fk_ev d qX12_learns 20 [a0, a1, a2, .int x] st h = fk_ev d qX12_learns 21 [a0, a1, a2, .int x] (.int x :: st) h) ∧
  (∀ (d : Nat) (L : List Value) (x0 : Int32) (x1 : Int32) (x2 : Int32)  (N : Nat) (y : Nat → Nat → Int32) (l : Nat → Nat → Int64), fk_ev (d + 1) qX12_learns 21 L (.int x2 :: .int x1 :: .int x0 :: .ref 246 :: []) (fk_E N y l) = (fk_ev d qX12_knows 0 [.ref 246, .int x0, .int x1, .int x2] [] (fk_E N y l)).bind fun o => fk_ev (d + 1) qX12_learns 24 L (o.1.toList ++ []) o.2) ∧
  (∀ (d : Nat) (L st : List Value) (h : fk_H), fk_ev d qX12_learns 24 L st h = fk_ev d qX12_learns 25 L (.int (nI 1) :: st) h) ∧
  (∀ (d : Nat) (L : List Value) (h : fk_H), fk_ev d qX12_learns 25 L [.int (nI 0)] h = some (some (.int (nI 0)), h)) ∧
  (∀ (d : Nat) (L : List Value) (h : fk_H), fk_ev d qX12_learns 25 L [.int (nI 1)] h = some (some (.int (nI 1)), h)) ∧
  (∀ (d : Nat) (L : List Value) (p : Prop) [Decidable p] (h : fk_H), fk_ev d qX12_learns 25 L [.int (fk_b p)] h = some (some (.int (fk_b p)), h)) ∧
  (∀ (d : Nat) (L : List Value) (x : Int32) (h : fk_H), (x = nI 0 ∨ x = nI 1) → fk_ev d qX12_learns 25 L [.int x] h = some (some (.int x), h)) := ⟨fun d a1 a2 a3 x st h => fk_w_aloadn 0 [.ref x, a1, a2, a3] dX12_learns_0 rfl,
  fun d a0 a2 a3 x st h => fk_w_iloadn 1 [a0, .int x, a2, a3] dX12_learns_1 rfl,
  fun d L x0 N y l  => fk_g_call [.int x0] [] rfl lm_12_129 dX12_learns_2 rfl ⟨rfl, by decide⟩ (by simp) fk_at_246,
  fun d L x st h => fk_r_if_eq dX12_learns_5 (by decide),
  fun d a0 a1 a3 x st h => fk_w_iloadn 2 [a0, a1, .int x, a3] dX12_learns_8 rfl,
  fun d L x0 h => fk_g_calls [.int x0] [] rfl lm_12_120 dX12_learns_9 rfl ⟨rfl, by decide⟩ (by simp),
  fun d L x st h => fk_r_if_ne dX12_learns_12 (by decide),
  fun d L st h => fk_w_iconst dX12_learns_15 (by decide),
  fun d L h => fk_r_ret dX12_learns_16 (Or.inr (Or.inl ⟨rfl, by decide⟩)),
  fun d L h => fk_r_ret dX12_learns_16 (Or.inr (Or.inl ⟨rfl, by decide⟩)),
  fun d L p _ h => fk_r_ret dX12_learns_16 (Or.inr (Or.inl ⟨rfl, fk_b_01⟩)),
  fun d L x h hx => fk_r_ret dX12_learns_16 (Or.inr (Or.inl ⟨rfl, hx⟩)),
  fun d a1 a2 a3 x st h => fk_w_aloadn 0 [.ref x, a1, a2, a3] dX12_learns_17 rfl,
  fun d a0 a2 a3 x st h => fk_w_iloadn 1 [a0, .int x, a2, a3] dX12_learns_18 rfl,
  fun d a0 a1 a3 x st h => fk_w_iloadn 2 [a0, a1, .int x, a3] dX12_learns_19 rfl,
  fun d a0 a1 a2 x st h => fk_w_iloadn 3 [a0, a1, a2, .int x] dX12_learns_20 rfl,
  fun d L x0 x1 x2 N y l  => fk_g_call [.int x0, .int x1, .int x2] [] rfl lm_12_143 dX12_learns_21 rfl ⟨rfl, by decide⟩ (by simp) fk_at_246,
  fun d L st h => fk_w_iconst dX12_learns_24 (by decide),
  fun d L h => fk_r_ret dX12_learns_25 (Or.inr (Or.inl ⟨rfl, by decide⟩)),
  fun d L h => fk_r_ret dX12_learns_25 (Or.inr (Or.inl ⟨rfl, by decide⟩)),
  fun d L p _ h => fk_r_ret dX12_learns_25 (Or.inr (Or.inl ⟨rfl, fk_b_01⟩)),
  fun d L x h hx => fk_r_ret dX12_learns_25 (Or.inr (Or.inl ⟨rfl, hx⟩))⟩
theorem dX12_owes_0 : decode cX12_owes 0 = .ok (.aload_n 0, 1) := by decide +kernel
theorem dX12_owes_1 : decode cX12_owes 1 = .ok (.iload_n 1, 1) := by decide +kernel
theorem dX12_owes_2 : decode cX12_owes 2 = .ok (.invokevirtual 129, 3) := by decide +kernel
theorem dX12_owes_5 : decode cX12_owes 5 = .ok (.ifCond .eq 13, 3) := by decide +kernel
theorem dX12_owes_8 : decode cX12_owes 8 = .ok (.iload_n 2, 1) := by decide +kernel
theorem dX12_owes_9 : decode cX12_owes 9 = .ok (.iconst 0, 1) := by decide +kernel
theorem dX12_owes_10 : decode cX12_owes 10 = .ok (.ldc 147, 2) := by decide +kernel
theorem dX12_owes_12 : decode cX12_owes 12 = .ok (.invokestatic 112, 3) := by decide +kernel
theorem dX12_owes_15 : decode cX12_owes 15 = .ok (.ifCond .ne 5, 3) := by decide +kernel
theorem dX12_owes_18 : decode cX12_owes 18 = .ok (.iconst 0, 1) := by decide +kernel
theorem dX12_owes_19 : decode cX12_owes 19 = .ok (.ireturn, 1) := by decide +kernel
theorem dX12_owes_20 : decode cX12_owes 20 = .ok (.aload_n 0, 1) := by decide +kernel
theorem dX12_owes_21 : decode cX12_owes 21 = .ok (.getfield 7, 3) := by decide +kernel
theorem dX12_owes_24 : decode cX12_owes 24 = .ok (.sipush 576, 3) := by decide +kernel
theorem dX12_owes_27 : decode cX12_owes 27 = .ok (.iload_n 1, 1) := by decide +kernel
theorem dX12_owes_28 : decode cX12_owes 28 = .ok (.iadd, 1) := by decide +kernel
theorem dX12_owes_29 : decode cX12_owes 29 = .ok (.iload_n 2, 1) := by decide +kernel
theorem dX12_owes_30 : decode cX12_owes 30 = .ok (.iastore, 1) := by decide +kernel
theorem dX12_owes_31 : decode cX12_owes 31 = .ok (.iconst 1, 1) := by decide +kernel
theorem dX12_owes_32 : decode cX12_owes 32 = .ok (.ireturn, 1) := by decide +kernel
theorem rX12_owes : (∀ (d : Nat) (a1 a2 : Value) (x : Nat) (st : List Value) (h : fk_H), fk_ev d qX12_owes 0 [.ref x, a1, a2] st h = fk_ev d qX12_owes 1 [.ref x, a1, a2] (.ref x :: st) h) ∧
  (∀ (d : Nat) (a0 a2 : Value) (x : Int32) (st : List Value) (h : fk_H), fk_ev d qX12_owes 1 [a0, .int x, a2] st h = fk_ev d qX12_owes 2 [a0, .int x, a2] (.int x :: st) h) ∧
  (∀ (d : Nat) (L : List Value) (x0 : Int32)  (N : Nat) (y : Nat → Nat → Int32) (l : Nat → Nat → Int64), fk_ev (d + 1) qX12_owes 2 L (.int x0 :: .ref 246 :: []) (fk_E N y l) = (fk_ev d qX12_isLiving 0 [.ref 246, .int x0] [] (fk_E N y l)).bind fun o => fk_ev (d + 1) qX12_owes 5 L (o.1.toList ++ []) o.2) ∧
  (∀ (d : Nat) (L : List Value) (x : Int32) (st : List Value) (h : fk_H), fk_ev d qX12_owes 5 L (.int x :: st) h = if x = nI 0 then fk_ev d qX12_owes 18 L st h else fk_ev d qX12_owes 8 L st h) ∧
  (∀ (d : Nat) (a0 a1 : Value) (x : Int32) (st : List Value) (h : fk_H), fk_ev d qX12_owes 8 [a0, a1, .int x] st h = fk_ev d qX12_owes 9 [a0, a1, .int x] (.int x :: st) h) ∧
  (∀ (d : Nat) (L st : List Value) (h : fk_H), fk_ev d qX12_owes 9 L st h = fk_ev d qX12_owes 10 L (.int (nI 0) :: st) h) ∧
  (∀ (d : Nat) (L st : List Value) (h : fk_H), fk_ev d qX12_owes 10 L st h = fk_ev d qX12_owes 12 L (.int (nI 99999) :: st) h) ∧
  (∀ (d : Nat) (L : List Value) (x0 : Int32) (x1 : Int32) (x2 : Int32)  (h : fk_H), fk_ev (d + 1) qX12_owes 12 L (.int x2 :: .int x1 :: .int x0 :: []) h = (fk_ev d qX12_in 0 [.int x0, .int x1, .int x2] [] h).bind fun o => fk_ev (d + 1) qX12_owes 15 L (o.1.toList ++ []) o.2) ∧
  (∀ (d : Nat) (L : List Value) (x : Int32) (st : List Value) (h : fk_H), fk_ev d qX12_owes 15 L (.int x :: st) h = if ¬ x = nI 0 then fk_ev d qX12_owes 20 L st h else fk_ev d qX12_owes 18 L st h) ∧
  (∀ (d : Nat) (L st : List Value) (h : fk_H), fk_ev d qX12_owes 18 L st h = fk_ev d qX12_owes 19 L (.int (nI 0) :: st) h) ∧
  (∀ (d : Nat) (L : List Value) (h : fk_H), fk_ev d qX12_owes 19 L [.int (nI 0)] h = some (some (.int (nI 0)), h)) ∧
  (∀ (d : Nat) (L : List Value) (h : fk_H), fk_ev d qX12_owes 19 L [.int (nI 1)] h = some (some (.int (nI 1)), h)) ∧
  (∀ (d : Nat) (L : List Value) (p : Prop) [Decidable p] (h : fk_H), fk_ev d qX12_owes 19 L [.int (fk_b p)] h = some (some (.int (fk_b p)), h)) ∧
  (∀ (d : Nat) (L : List Value) (x : Int32) (h : fk_H), (x = nI 0 ∨ x = nI 1) → fk_ev d qX12_owes 19 L [.int x] h = some (some (.int x), h)) ∧
  (∀ (d : Nat) (a1 a2 : Value) (x : Nat) (st : List Value) (h : fk_H), fk_ev d qX12_owes 20 [.ref x, a1, a2] st h = fk_ev d qX12_owes 21 [.ref x, a1, a2] (.ref x :: st) h) ∧
  (∀ (d : Nat) (L st : List Value) (N : Nat) (y : Nat → Nat → Int32) (l : Nat → Nat → Int64), fk_ev d qX12_owes 21 L (.ref 246 :: st) (fk_E N y l) = fk_ev d qX12_owes 24 L (.ref 247 :: st) (fk_E N y l)) ∧
  (∀ (d : Nat) (L st : List Value) (h : fk_H), fk_ev d qX12_owes 24 L st h = fk_ev d qX12_owes 27 L (.int (nI 576) :: st) h) ∧
  (∀ (d : Nat) (a0 a2 : Value) (x : Int32) (st : List Value) (h : fk_H), fk_ev d qX12_owes 27 [a0, .int x, a2] st h = fk_ev d qX12_owes 28 [a0, .int x, a2] (.int x :: st) h) ∧
  (∀ (d : Nat) (L : List Value) (x y : Int32) (st : List Value) (h : fk_H), fk_ev d qX12_owes 28 L (.int y :: .int x :: st) h = fk_ev d qX12_owes 29 L (.int (x + y) :: st) h) ∧
  (∀ (d : Nat) (a0 a1 : Value) (x : Int32) (st : List Value) (h : fk_H), fk_ev d qX12_owes 29 [a0, a1, .int x] st h = fk_ev d qX12_owes 30 [a0, a1, .int x] (.int x :: st) h) ∧
  (∀ (d : Nat) (L st : List Value) (N : Nat) (y : Nat → Nat → Int32) (l : Nat → Nat → Int64) (i : Nat) (v : Int32), i < 3912 → fk_ev d qX12_owes 30 L (.int v :: .int (nI i) :: .ref 247 :: st) (fk_E N y l) = fk_ev d qX12_owes 31 L st (fk_E N (fk_u y 247 i v) l)) ∧
  (∀ (d : Nat) (L st : List Value) (h : fk_H), fk_ev d qX12_owes 31 L st h = fk_ev d qX12_owes 32 L (.int (nI 1) :: st) h) ∧
  (∀ (d : Nat) (L : List Value) (h : fk_H), fk_ev d qX12_owes 32 L [.int (nI 0)] h = some (some (.int (nI 0)), h)) ∧
  (∀ (d : Nat) (L : List Value) (h : fk_H), fk_ev d qX12_owes 32 L [.int (nI 1)] h = some (some (.int (nI 1)), h)) ∧
  (∀ (d : Nat) (L : List Value) (p : Prop) [Decidable p] (h : fk_H), fk_ev d qX12_owes 32 L [.int (fk_b p)] h = some (some (.int (fk_b p)), h)) ∧
  (∀ (d : Nat) (L : List Value) (x : Int32) (h : fk_H), (x = nI 0 ∨ x = nI 1) → fk_ev d qX12_owes 32 L [.int x] h = some (some (.int x), h)) := ⟨fun d a1 a2 x st h => fk_w_aloadn 0 [.ref x, a1, a2] dX12_owes_0 rfl,
  fun d a0 a2 x st h => fk_w_iloadn 1 [a0, .int x, a2] dX12_owes_1 rfl,
  fun d L x0 N y l  => fk_g_call [.int x0] [] rfl lm_12_129 dX12_owes_2 rfl ⟨rfl, by decide⟩ (by simp) fk_at_246,
  fun d L x st h => fk_r_if_eq dX12_owes_5 (by decide),
  fun d a0 a1 x st h => fk_w_iloadn 2 [a0, a1, .int x] dX12_owes_8 rfl,
  fun d L st h => fk_w_iconst dX12_owes_9 (by decide),
  fun d L st h => fk_g_ldc rfl lc_12_147 (by decide) dX12_owes_10,
  fun d L x0 x1 x2 h => fk_g_calls [.int x0, .int x1, .int x2] [] rfl lm_12_112 dX12_owes_12 rfl ⟨rfl, by decide⟩ (by simp),
  fun d L x st h => fk_r_if_ne dX12_owes_15 (by decide),
  fun d L st h => fk_w_iconst dX12_owes_18 (by decide),
  fun d L h => fk_r_ret dX12_owes_19 (Or.inr (Or.inl ⟨rfl, by decide⟩)),
  fun d L h => fk_r_ret dX12_owes_19 (Or.inr (Or.inl ⟨rfl, by decide⟩)),
  fun d L p _ h => fk_r_ret dX12_owes_19 (Or.inr (Or.inl ⟨rfl, fk_b_01⟩)),
  fun d L x h hx => fk_r_ret dX12_owes_19 (Or.inr (Or.inl ⟨rfl, hx⟩)),
  fun d a1 a2 x st h => fk_w_aloadn 0 [.ref x, a1, a2] dX12_owes_20 rfl,
  fun d L st N y l => fk_g_getC rfl lf_12_7 (by decide) rfl dX12_owes_21 fk_at_246,
  fun d L st h => fk_w_sipush dX12_owes_24 (by decide),
  fun d a0 a2 x st h => fk_w_iloadn 1 [a0, .int x, a2] dX12_owes_27 rfl,
  fun d L x y st h => fk_r_iadd dX12_owes_28,
  fun d a0 a1 x st h => fk_w_iloadn 2 [a0, a1, .int x] dX12_owes_29 rfl,
  fun d L st N y l i v hi => fk_g_iast fk_at_247 fk_ln_247 (by decide) dX12_owes_30 hi,
  fun d L st h => fk_w_iconst dX12_owes_31 (by decide),
  fun d L h => fk_r_ret dX12_owes_32 (Or.inr (Or.inl ⟨rfl, by decide⟩)),
  fun d L h => fk_r_ret dX12_owes_32 (Or.inr (Or.inl ⟨rfl, by decide⟩)),
  fun d L p _ h => fk_r_ret dX12_owes_32 (Or.inr (Or.inl ⟨rfl, fk_b_01⟩)),
  fun d L x h hx => fk_r_ret dX12_owes_32 (Or.inr (Or.inl ⟨rfl, hx⟩))⟩
theorem dX12_types_0 : decode cX12_types 0 = .ok (.iconst 3, 1) := by decide +kernel
theorem dX12_types_1 : decode cX12_types 1 = .ok (.istore_n 2, 1) := by decide +kernel
theorem dX12_types_2 : decode cX12_types 2 = .ok (.iload_n 2, 1) := by decide +kernel
theorem dX12_types_3 : decode cX12_types 3 = .ok (.ifCond .lt 35, 3) := by decide +kernel
theorem dX12_types_6 : decode cX12_types 6 = .ok (.aload_n 0, 1) := by decide +kernel
theorem dX12_types_7 : decode cX12_types 7 = .ok (.getfield 35, 3) := by decide +kernel
theorem dX12_types_10 : decode cX12_types 10 = .ok (.aload_n 0, 1) := by decide +kernel
theorem dX12_types_11 : decode cX12_types 11 = .ok (.getfield 148, 3) := by decide +kernel
theorem dX12_types_14 : decode cX12_types 14 = .ok (.iload_n 1, 1) := by decide +kernel
theorem dX12_types_15 : decode cX12_types 15 = .ok (.bipush 8, 2) := by decide +kernel
theorem dX12_types_17 : decode cX12_types 17 = .ok (.iload_n 2, 1) := by decide +kernel
theorem dX12_types_18 : decode cX12_types 18 = .ok (.imul, 1) := by decide +kernel
theorem dX12_types_19 : decode cX12_types 19 = .ok (.ishr, 1) := by decide +kernel
theorem dX12_types_20 : decode cX12_types 20 = .ok (.i2b, 1) := by decide +kernel
theorem dX12_types_21 : decode cX12_types 21 = .ok (.bastore, 1) := by decide +kernel
theorem dX12_types_22 : decode cX12_types 22 = .ok (.aload_n 0, 1) := by decide +kernel
theorem dX12_types_23 : decode cX12_types 23 = .ok (.aload_n 0, 1) := by decide +kernel
theorem dX12_types_24 : decode cX12_types 24 = .ok (.getfield 148, 3) := by decide +kernel
theorem dX12_types_27 : decode cX12_types 27 = .ok (.iconst 1, 1) := by decide +kernel
theorem dX12_types_28 : decode cX12_types 28 = .ok (.iadd, 1) := by decide +kernel
theorem dX12_types_29 : decode cX12_types 29 = .ok (.putfield 148, 3) := by decide +kernel
theorem dX12_types_32 : decode cX12_types 32 = .ok (.iinc 2 (-1), 3) := by decide +kernel
theorem dX12_types_35 : decode cX12_types 35 = .ok (.goto (-33), 3) := by decide +kernel
theorem dX12_types_38 : decode cX12_types 38 = .ok (.return_, 1) := by decide +kernel
theorem rX12_types : (∀ (d : Nat) (L st : List Value) (h : fk_H), fk_ev d qX12_types 0 L st h = fk_ev d qX12_types 1 L (.int (nI 3) :: st) h) ∧
  (∀ (d : Nat) (a0 a1 a2 : Value) (x : Int32) (st : List Value) (h : fk_H), fk_ev d qX12_types 1 [a0, a1, a2] (.int x :: st) h = fk_ev d qX12_types 2 [a0, a1, .int x] st h) ∧
  (∀ (d : Nat) (L : List Value) (x : Int32) (st : List Value) (h : fk_H), fk_ev d qX12_types 3 L (.int x :: st) h = if x < nI 0 then fk_ev d qX12_types 38 L st h else fk_ev d qX12_types 6 L st h) ∧
  (∀ (d : Nat) (a1 a2 : Value) (x : Nat) (st : List Value) (h : fk_H), fk_ev d qX12_types 6 [.ref x, a1, a2] st h = fk_ev d qX12_types 7 [.ref x, a1, a2] (.ref x :: st) h) ∧
  (∀ (d : Nat) (L st : List Value) (N : Nat) (y : Nat → Nat → Int32) (l : Nat → Nat → Int64), fk_ev d qX12_types 7 L (.ref 246 :: st) (fk_E N y l) = fk_ev d qX12_types 10 L (.ref 255 :: st) (fk_E N y l)) ∧
  (∀ (d : Nat) (a1 a2 : Value) (x : Nat) (st : List Value) (h : fk_H), fk_ev d qX12_types 10 [.ref x, a1, a2] st h = fk_ev d qX12_types 11 [.ref x, a1, a2] (.ref x :: st) h) ∧
  (∀ (d : Nat) (L st : List Value) (N : Nat) (y : Nat → Nat → Int32) (l : Nat → Nat → Int64), fk_ev d qX12_types 11 L (.ref 246 :: st) (fk_E N y l) = fk_ev d qX12_types 14 L (.int (y 246 10) :: st) (fk_E N y l)) ∧
  (∀ (d : Nat) (a0 a2 : Value) (x : Int32) (st : List Value) (h : fk_H), fk_ev d qX12_types 14 [a0, .int x, a2] st h = fk_ev d qX12_types 15 [a0, .int x, a2] (.int x :: st) h) ∧
  (∀ (d : Nat) (L st : List Value) (h : fk_H), fk_ev d qX12_types 15 L st h = fk_ev d qX12_types 17 L (.int (nI 8) :: st) h) ∧
  (∀ (d : Nat) (a0 a1 : Value) (x : Int32) (st : List Value) (h : fk_H), fk_ev d qX12_types 17 [a0, a1, .int x] st h = fk_ev d qX12_types 18 [a0, a1, .int x] (.int x :: st) h) ∧
  (∀ (d : Nat) (L : List Value) (x y : Int32) (st : List Value) (h : fk_H), fk_ev d qX12_types 18 L (.int y :: .int x :: st) h = fk_ev d qX12_types 19 L (.int (x * y) :: st) h) ∧
  (∀ (d : Nat) (L : List Value) (x y : Int32) (st : List Value) (h : fk_H), fk_ev d qX12_types 19 L (.int y :: .int x :: st) h = fk_ev d qX12_types 20 L (.int (x >>> (y &&& 31)) :: st) h) ∧
  (∀ (d : Nat) (L : List Value) (x : Int32) (st : List Value) (h : fk_H), fk_ev d qX12_types 20 L (.int x :: st) h = fk_ev d qX12_types 21 L (.int (x.toInt8.toInt32) :: st) h) ∧
  (∀ (d : Nat) (L st : List Value) (N : Nat) (y : Nat → Nat → Int32) (l : Nat → Nat → Int64) (i : Nat) (v : Int32), i < 260 → fk_ev d qX12_types 21 L (.int v :: .int (nI i) :: .ref 255 :: st) (fk_E N y l) = fk_ev d qX12_types 22 L st (fk_E N (fk_u y 255 i (vp_nar .byte v)) l)) ∧
  (∀ (d : Nat) (a1 a2 : Value) (x : Nat) (st : List Value) (h : fk_H), fk_ev d qX12_types 22 [.ref x, a1, a2] st h = fk_ev d qX12_types 23 [.ref x, a1, a2] (.ref x :: st) h) ∧
  (∀ (d : Nat) (a1 a2 : Value) (x : Nat) (st : List Value) (h : fk_H), fk_ev d qX12_types 23 [.ref x, a1, a2] st h = fk_ev d qX12_types 24 [.ref x, a1, a2] (.ref x :: st) h) ∧
  (∀ (d : Nat) (L st : List Value) (N : Nat) (y : Nat → Nat → Int32) (l : Nat → Nat → Int64), fk_ev d qX12_types 24 L (.ref 246 :: st) (fk_E N y l) = fk_ev d qX12_types 27 L (.int (y 246 10) :: st) (fk_E N y l)) ∧
  (∀ (d : Nat) (L st : List Value) (h : fk_H), fk_ev d qX12_types 27 L st h = fk_ev d qX12_types 28 L (.int (nI 1) :: st) h) ∧
  (∀ (d : Nat) (L : List Value) (x y : Int32) (st : List Value) (h : fk_H), fk_ev d qX12_types 28 L (.int y :: .int x :: st) h = fk_ev d qX12_types 29 L (.int (x + y) :: st) h) ∧
  (∀ (d : Nat) (L st : List Value) (N : Nat) (y : Nat → Nat → Int32) (l : Nat → Nat → Int64) (v : Int32), fk_ev d qX12_types 29 L (.int v :: .ref 246 :: st) (fk_E N y l) = fk_ev d qX12_types 32 L st (fk_E N (fk_u y 246 10 v) l)) ∧
  (∀ (d : Nat) (a0 a1 : Value) (x : Int32) (st : List Value) (h : fk_H), fk_ev d qX12_types 32 [a0, a1, .int x] st h = fk_ev d qX12_types 35 [a0, a1, .int (x + (-1 : Int32))] st h) ∧
  (∀ (d : Nat) (L st : List Value) (h : fk_H), fk_ev d qX12_types 35 L st h = fk_ev d qX12_types 2 L st h) ∧
  (∀ (d : Nat) (L : List Value) (h : fk_H), fk_ev d qX12_types 38 L [] h = some (none, h)) := ⟨fun d L st h => fk_w_iconst dX12_types_0 (by decide),
  fun d a0 a1 a2 x st h => fk_w_istoren 2 3 [] [a0, a1, a2] [a0, a1, .int x] dX12_types_1 rfl rfl (by decide) rfl,
  fun d L x st h => fk_r_if_lt dX12_types_3 (by decide),
  fun d a1 a2 x st h => fk_w_aloadn 0 [.ref x, a1, a2] dX12_types_6 rfl,
  fun d L st N y l => fk_g_getC rfl lf_12_35 (by decide) rfl dX12_types_7 fk_at_246,
  fun d a1 a2 x st h => fk_w_aloadn 0 [.ref x, a1, a2] dX12_types_10 rfl,
  fun d L st N y l => fk_g_getI rfl lf_12_148 (by decide) dX12_types_11 fk_at_246,
  fun d a0 a2 x st h => fk_w_iloadn 1 [a0, .int x, a2] dX12_types_14 rfl,
  fun d L st h => fk_w_bipush dX12_types_15 (by decide),
  fun d a0 a1 x st h => fk_w_iloadn 2 [a0, a1, .int x] dX12_types_17 rfl,
  fun d L x y st h => fk_r_imul dX12_types_18,
  fun d L x y st h => fk_r_ishr dX12_types_19,
  fun d L x st h => fk_r_i2b dX12_types_20,
  fun d L st N y l i v hi => fk_g_bast21 fk_at_255 fk_ln_255 (by decide) dX12_types_21 hi,
  fun d a1 a2 x st h => fk_w_aloadn 0 [.ref x, a1, a2] dX12_types_22 rfl,
  fun d a1 a2 x st h => fk_w_aloadn 0 [.ref x, a1, a2] dX12_types_23 rfl,
  fun d L st N y l => fk_g_getI rfl lf_12_148 (by decide) dX12_types_24 fk_at_246,
  fun d L st h => fk_w_iconst dX12_types_27 (by decide),
  fun d L x y st h => fk_r_iadd dX12_types_28,
  fun d L st N y l v => fk_g_putI rfl lf_12_148 (by decide) dX12_types_29 rfl fk_at_246,
  fun d a0 a1 x st h => fk_w_iinc 2 3 (-1) [] [a0, a1, .int x] [a0, a1, .int (x + (-1 : Int32))] dX12_types_32 rfl rfl rfl (by decide) rfl,
  fun d L st h => fk_r_goto dX12_types_35 (by decide),
  fun d L h => fk_r_vret dX12_types_38 rfl⟩
theorem hX12_types_2 : ∀ (d : Nat) (a0 a1 : Value) (x : Int32) (st : List Value) (h : fk_H), fk_ev d qX12_types 2 [a0, a1, .int x] st h = fk_ev d qX12_types 3 [a0, a1, .int x] (.int x :: st) h := fun d a0 a1 x st h => fk_w_iloadn 2 [a0, a1, .int x] dX12_types_2 rfl
theorem dX12_feed_0 : decode cX12_feed 0 = .ok (.aload_n 0, 1) := by decide +kernel
theorem dX12_feed_1 : decode cX12_feed 1 = .ok (.getfield 148, 3) := by decide +kernel
theorem dX12_feed_4 : decode cX12_feed 4 = .ok (.bipush 20, 2) := by decide +kernel
theorem dX12_feed_6 : decode cX12_feed 6 = .ok (.iadd, 1) := by decide +kernel
theorem dX12_feed_7 : decode cX12_feed 7 = .ok (.sipush 260, 3) := by decide +kernel
theorem dX12_feed_10 : decode cX12_feed 10 = .ok (.if_icmp .le 5, 3) := by decide +kernel
theorem dX12_feed_13 : decode cX12_feed 13 = .ok (.iconst (-1), 1) := by decide +kernel
theorem dX12_feed_14 : decode cX12_feed 14 = .ok (.ireturn, 1) := by decide +kernel
theorem dX12_feed_15 : decode cX12_feed 15 = .ok (.aload_n 0, 1) := by decide +kernel
theorem dX12_feed_16 : decode cX12_feed 16 = .ok (.iload_n 1, 1) := by decide +kernel
theorem dX12_feed_17 : decode cX12_feed 17 = .ok (.invokevirtual 151, 3) := by decide +kernel
theorem dX12_feed_20 : decode cX12_feed 20 = .ok (.aload_n 0, 1) := by decide +kernel
theorem dX12_feed_21 : decode cX12_feed 21 = .ok (.iload_n 2, 1) := by decide +kernel
theorem dX12_feed_22 : decode cX12_feed 22 = .ok (.invokevirtual 151, 3) := by decide +kernel
theorem dX12_feed_25 : decode cX12_feed 25 = .ok (.aload_n 0, 1) := by decide +kernel
theorem dX12_feed_26 : decode cX12_feed 26 = .ok (.iload_n 3, 1) := by decide +kernel
theorem dX12_feed_27 : decode cX12_feed 27 = .ok (.invokevirtual 151, 3) := by decide +kernel
theorem dX12_feed_30 : decode cX12_feed 30 = .ok (.aload_n 0, 1) := by decide +kernel
theorem dX12_feed_31 : decode cX12_feed 31 = .ok (.iload 4, 2) := by decide +kernel
theorem dX12_feed_33 : decode cX12_feed 33 = .ok (.invokevirtual 151, 3) := by decide +kernel
theorem dX12_feed_36 : decode cX12_feed 36 = .ok (.aload_n 0, 1) := by decide +kernel
theorem dX12_feed_37 : decode cX12_feed 37 = .ok (.iload 5, 2) := by decide +kernel
theorem dX12_feed_39 : decode cX12_feed 39 = .ok (.invokevirtual 151, 3) := by decide +kernel
theorem dX12_feed_42 : decode cX12_feed 42 = .ok (.aload_n 0, 1) := by decide +kernel
theorem dX12_feed_43 : decode cX12_feed 43 = .ok (.getfield 148, 3) := by decide +kernel
theorem dX12_feed_46 : decode cX12_feed 46 = .ok (.ireturn, 1) := by decide +kernel
theorem rX12_feed : (∀ (d : Nat) (a1 a2 a3 a4 a5 : Value) (x : Nat) (st : List Value) (h : fk_H), fk_ev d qX12_feed 0 [.ref x, a1, a2, a3, a4, a5] st h = fk_ev d qX12_feed 1 [.ref x, a1, a2, a3, a4, a5] (.ref x :: st) h) ∧
  (∀ (d : Nat) (L st : List Value) (N : Nat) (y : Nat → Nat → Int32) (l : Nat → Nat → Int64), fk_ev d qX12_feed 1 L (.ref 246 :: st) (fk_E N y l) = fk_ev d qX12_feed 4 L (.int (y 246 10) :: st) (fk_E N y l)) ∧
  (∀ (d : Nat) (L st : List Value) (h : fk_H), fk_ev d qX12_feed 4 L st h = fk_ev d qX12_feed 6 L (.int (nI 20) :: st) h) ∧
  (∀ (d : Nat) (L : List Value) (x y : Int32) (st : List Value) (h : fk_H), fk_ev d qX12_feed 6 L (.int y :: .int x :: st) h = fk_ev d qX12_feed 7 L (.int (x + y) :: st) h) ∧
  (∀ (d : Nat) (L st : List Value) (h : fk_H), fk_ev d qX12_feed 7 L st h = fk_ev d qX12_feed 10 L (.int (nI 260) :: st) h) ∧
  (∀ (d : Nat) (L : List Value) (x y : Int32) (st : List Value) (h : fk_H), fk_ev d qX12_feed 10 L (.int y :: .int x :: st) h = if x ≤ y then fk_ev d qX12_feed 15 L st h else fk_ev d qX12_feed 13 L st h) ∧
  (∀ (d : Nat) (L st : List Value) (h : fk_H), fk_ev d qX12_feed 13 L st h = fk_ev d qX12_feed 14 L (.int ((-1 : Int32)) :: st) h) ∧
  (∀ (d : Nat) (L : List Value) (x : Int32) (h : fk_H), fk_ev d qX12_feed 14 L [.int x] h = some (some (.int x), h)) ∧
  (∀ (d : Nat) (a1 a2 a3 a4 a5 : Value) (x : Nat) (st : List Value) (h : fk_H), fk_ev d qX12_feed 15 [.ref x, a1, a2, a3, a4, a5] st h = fk_ev d qX12_feed 16 [.ref x, a1, a2, a3, a4, a5] (.ref x :: st) h) ∧
  (∀ (d : Nat) (a0 a2 a3 a4 a5 : Value) (x : Int32) (st : List Value) (h : fk_H), fk_ev d qX12_feed 16 [a0, .int x, a2, a3, a4, a5] st h = fk_ev d qX12_feed 17 [a0, .int x, a2, a3, a4, a5] (.int x :: st) h) ∧
  (∀ (d : Nat) (L : List Value) (x0 : Int32)  (N : Nat) (y : Nat → Nat → Int32) (l : Nat → Nat → Int64), fk_ev (d + 1) qX12_feed 17 L (.int x0 :: .ref 246 :: []) (fk_E N y l) = (fk_ev d qX12_types 0 [.ref 246, .int x0, .null] [] (fk_E N y l)).bind fun o => fk_ev (d + 1) qX12_feed 20 L (o.1.toList ++ []) o.2) ∧
  (∀ (d : Nat) (a1 a2 a3 a4 a5 : Value) (x : Nat) (st : List Value) (h : fk_H), fk_ev d qX12_feed 20 [.ref x, a1, a2, a3, a4, a5] st h = fk_ev d qX12_feed 21 [.ref x, a1, a2, a3, a4, a5] (.ref x :: st) h) ∧
  (∀ (d : Nat) (a0 a1 a3 a4 a5 : Value) (x : Int32) (st : List Value) (h : fk_H), fk_ev d qX12_feed 21 [a0, a1, .int x, a3, a4, a5] st h = fk_ev d qX12_feed 22 [a0, a1, .int x, a3, a4, a5] (.int x :: st) h) ∧
  (∀ (d : Nat) (L : List Value) (x0 : Int32)  (N : Nat) (y : Nat → Nat → Int32) (l : Nat → Nat → Int64), fk_ev (d + 1) qX12_feed 22 L (.int x0 :: .ref 246 :: []) (fk_E N y l) = (fk_ev d qX12_types 0 [.ref 246, .int x0, .null] [] (fk_E N y l)).bind fun o => fk_ev (d + 1) qX12_feed 25 L (o.1.toList ++ []) o.2) ∧
  (∀ (d : Nat) (a1 a2 a3 a4 a5 : Value) (x : Nat) (st : List Value) (h : fk_H), fk_ev d qX12_feed 25 [.ref x, a1, a2, a3, a4, a5] st h = fk_ev d qX12_feed 26 [.ref x, a1, a2, a3, a4, a5] (.ref x :: st) h) ∧
  (∀ (d : Nat) (a0 a1 a2 a4 a5 : Value) (x : Int32) (st : List Value) (h : fk_H), fk_ev d qX12_feed 26 [a0, a1, a2, .int x, a4, a5] st h = fk_ev d qX12_feed 27 [a0, a1, a2, .int x, a4, a5] (.int x :: st) h) ∧
  (∀ (d : Nat) (L : List Value) (x0 : Int32)  (N : Nat) (y : Nat → Nat → Int32) (l : Nat → Nat → Int64), fk_ev (d + 1) qX12_feed 27 L (.int x0 :: .ref 246 :: []) (fk_E N y l) = (fk_ev d qX12_types 0 [.ref 246, .int x0, .null] [] (fk_E N y l)).bind fun o => fk_ev (d + 1) qX12_feed 30 L (o.1.toList ++ []) o.2) ∧
  (∀ (d : Nat) (a1 a2 a3 a4 a5 : Value) (x : Nat) (st : List Value) (h : fk_H), fk_ev d qX12_feed 30 [.ref x, a1, a2, a3, a4, a5] st h = fk_ev d qX12_feed 31 [.ref x, a1, a2, a3, a4, a5] (.ref x :: st) h) ∧
  (∀ (d : Nat) (a0 a1 a2 a3 a5 : Value) (x : Int32) (st : List Value) (h : fk_H), fk_ev d qX12_feed 31 [a0, a1, a2, a3, .int x, a5] st h = fk_ev d qX12_feed 33 [a0, a1, a2, a3, .int x, a5] (.int x :: st) h) ∧
  (∀ (d : Nat) (L : List Value) (x0 : Int32)  (N : Nat) (y : Nat → Nat → Int32) (l : Nat → Nat → Int64), fk_ev (d + 1) qX12_feed 33 L (.int x0 :: .ref 246 :: []) (fk_E N y l) = (fk_ev d qX12_types 0 [.ref 246, .int x0, .null] [] (fk_E N y l)).bind fun o => fk_ev (d + 1) qX12_feed 36 L (o.1.toList ++ []) o.2) ∧
  (∀ (d : Nat) (a1 a2 a3 a4 a5 : Value) (x : Nat) (st : List Value) (h : fk_H), fk_ev d qX12_feed 36 [.ref x, a1, a2, a3, a4, a5] st h = fk_ev d qX12_feed 37 [.ref x, a1, a2, a3, a4, a5] (.ref x :: st) h) ∧
  (∀ (d : Nat) (a0 a1 a2 a3 a4 : Value) (x : Int32) (st : List Value) (h : fk_H), fk_ev d qX12_feed 37 [a0, a1, a2, a3, a4, .int x] st h = fk_ev d qX12_feed 39 [a0, a1, a2, a3, a4, .int x] (.int x :: st) h) ∧
  (∀ (d : Nat) (L : List Value) (x0 : Int32)  (N : Nat) (y : Nat → Nat → Int32) (l : Nat → Nat → Int64), fk_ev (d + 1) qX12_feed 39 L (.int x0 :: .ref 246 :: []) (fk_E N y l) = (fk_ev d qX12_types 0 [.ref 246, .int x0, .null] [] (fk_E N y l)).bind fun o => fk_ev (d + 1) qX12_feed 42 L (o.1.toList ++ []) o.2) ∧
  (∀ (d : Nat) (a1 a2 a3 a4 a5 : Value) (x : Nat) (st : List Value) (h : fk_H), fk_ev d qX12_feed 42 [.ref x, a1, a2, a3, a4, a5] st h = fk_ev d qX12_feed 43 [.ref x, a1, a2, a3, a4, a5] (.ref x :: st) h) ∧
  (∀ (d : Nat) (L st : List Value) (N : Nat) (y : Nat → Nat → Int32) (l : Nat → Nat → Int64), fk_ev d qX12_feed 43 L (.ref 246 :: st) (fk_E N y l) = fk_ev d qX12_feed 46 L (.int (y 246 10) :: st) (fk_E N y l)) ∧
  (∀ (d : Nat) (L : List Value) (x : Int32) (h : fk_H), fk_ev d qX12_feed 46 L [.int x] h = some (some (.int x), h)) := ⟨fun d a1 a2 a3 a4 a5 x st h => fk_w_aloadn 0 [.ref x, a1, a2, a3, a4, a5] dX12_feed_0 rfl,
  fun d L st N y l => fk_g_getI rfl lf_12_148 (by decide) dX12_feed_1 fk_at_246,
  fun d L st h => fk_w_bipush dX12_feed_4 (by decide),
  fun d L x y st h => fk_r_iadd dX12_feed_6,
  fun d L st h => fk_w_sipush dX12_feed_7 (by decide),
  fun d L x y st h => fk_r_icmp_le dX12_feed_10 (by decide),
  fun d L st h => fk_w_iconst dX12_feed_13 (by decide),
  fun d L x h => fk_r_ret dX12_feed_14 (Or.inl rfl),
  fun d a1 a2 a3 a4 a5 x st h => fk_w_aloadn 0 [.ref x, a1, a2, a3, a4, a5] dX12_feed_15 rfl,
  fun d a0 a2 a3 a4 a5 x st h => fk_w_iloadn 1 [a0, .int x, a2, a3, a4, a5] dX12_feed_16 rfl,
  fun d L x0 N y l  => fk_g_call [.int x0] [] rfl lm_12_151 dX12_feed_17 rfl ⟨rfl, by decide⟩ (by simp) fk_at_246,
  fun d a1 a2 a3 a4 a5 x st h => fk_w_aloadn 0 [.ref x, a1, a2, a3, a4, a5] dX12_feed_20 rfl,
  fun d a0 a1 a3 a4 a5 x st h => fk_w_iloadn 2 [a0, a1, .int x, a3, a4, a5] dX12_feed_21 rfl,
  fun d L x0 N y l  => fk_g_call [.int x0] [] rfl lm_12_151 dX12_feed_22 rfl ⟨rfl, by decide⟩ (by simp) fk_at_246,
  fun d a1 a2 a3 a4 a5 x st h => fk_w_aloadn 0 [.ref x, a1, a2, a3, a4, a5] dX12_feed_25 rfl,
  fun d a0 a1 a2 a4 a5 x st h => fk_w_iloadn 3 [a0, a1, a2, .int x, a4, a5] dX12_feed_26 rfl,
  fun d L x0 N y l  => fk_g_call [.int x0] [] rfl lm_12_151 dX12_feed_27 rfl ⟨rfl, by decide⟩ (by simp) fk_at_246,
  fun d a1 a2 a3 a4 a5 x st h => fk_w_aloadn 0 [.ref x, a1, a2, a3, a4, a5] dX12_feed_30 rfl,
  fun d a0 a1 a2 a3 a5 x st h => fk_w_iload 4 [a0, a1, a2, a3, .int x, a5] dX12_feed_31 rfl,
  fun d L x0 N y l  => fk_g_call [.int x0] [] rfl lm_12_151 dX12_feed_33 rfl ⟨rfl, by decide⟩ (by simp) fk_at_246,
  fun d a1 a2 a3 a4 a5 x st h => fk_w_aloadn 0 [.ref x, a1, a2, a3, a4, a5] dX12_feed_36 rfl,
  fun d a0 a1 a2 a3 a4 x st h => fk_w_iload 5 [a0, a1, a2, a3, a4, .int x] dX12_feed_37 rfl,
  fun d L x0 N y l  => fk_g_call [.int x0] [] rfl lm_12_151 dX12_feed_39 rfl ⟨rfl, by decide⟩ (by simp) fk_at_246,
  fun d a1 a2 a3 a4 a5 x st h => fk_w_aloadn 0 [.ref x, a1, a2, a3, a4, a5] dX12_feed_42 rfl,
  fun d L st N y l => fk_g_getI rfl lf_12_148 (by decide) dX12_feed_43 fk_at_246,
  fun d L x h => fk_r_ret dX12_feed_46 (Or.inl rfl)⟩
theorem dX12_here_0 : decode cX12_here 0 = .ok (.aload_n 0, 1) := by decide +kernel
theorem dX12_here_1 : decode cX12_here 1 = .ok (.getfield 155, 3) := by decide +kernel
theorem dX12_here_4 : decode cX12_here 4 = .ok (.aload_n 0, 1) := by decide +kernel
theorem dX12_here_5 : decode cX12_here 5 = .ok (.getfield 158, 3) := by decide +kernel
theorem dX12_here_8 : decode cX12_here 8 = .ok (.if_icmp .ge 19, 3) := by decide +kernel
theorem dX12_here_11 : decode cX12_here 11 = .ok (.aload_n 0, 1) := by decide +kernel
theorem dX12_here_12 : decode cX12_here 12 = .ok (.getfield 35, 3) := by decide +kernel
theorem dX12_here_15 : decode cX12_here 15 = .ok (.aload_n 0, 1) := by decide +kernel
theorem dX12_here_16 : decode cX12_here 16 = .ok (.getfield 155, 3) := by decide +kernel
theorem dX12_here_19 : decode cX12_here 19 = .ok (.baload, 1) := by decide +kernel
theorem dX12_here_20 : decode cX12_here 20 = .ok (.sipush 255, 3) := by decide +kernel
theorem dX12_here_23 : decode cX12_here 23 = .ok (.iand, 1) := by decide +kernel
theorem dX12_here_24 : decode cX12_here 24 = .ok (.goto 4, 3) := by decide +kernel
theorem dX12_here_27 : decode cX12_here 27 = .ok (.iconst (-1), 1) := by decide +kernel
theorem dX12_here_28 : decode cX12_here 28 = .ok (.ireturn, 1) := by decide +kernel
theorem rX12_here : (∀ (d : Nat) (x : Nat) (st : List Value) (h : fk_H), fk_ev d qX12_here 0 [.ref x] st h = fk_ev d qX12_here 1 [.ref x] (.ref x :: st) h) ∧
  (∀ (d : Nat) (L st : List Value) (N : Nat) (y : Nat → Nat → Int32) (l : Nat → Nat → Int64), fk_ev d qX12_here 1 L (.ref 246 :: st) (fk_E N y l) = fk_ev d qX12_here 4 L (.int (y 246 11) :: st) (fk_E N y l)) ∧
  (∀ (d : Nat) (x : Nat) (st : List Value) (h : fk_H), fk_ev d qX12_here 4 [.ref x] st h = fk_ev d qX12_here 5 [.ref x] (.ref x :: st) h) ∧
  (∀ (d : Nat) (L st : List Value) (N : Nat) (y : Nat → Nat → Int32) (l : Nat → Nat → Int64), fk_ev d qX12_here 5 L (.ref 246 :: st) (fk_E N y l) = fk_ev d qX12_here 8 L (.int (y 246 12) :: st) (fk_E N y l)) ∧
  (∀ (d : Nat) (L : List Value) (x y : Int32) (st : List Value) (h : fk_H), fk_ev d qX12_here 8 L (.int y :: .int x :: st) h = if y ≤ x then fk_ev d qX12_here 27 L st h else fk_ev d qX12_here 11 L st h) ∧
  (∀ (d : Nat) (x : Nat) (st : List Value) (h : fk_H), fk_ev d qX12_here 11 [.ref x] st h = fk_ev d qX12_here 12 [.ref x] (.ref x :: st) h) ∧
  (∀ (d : Nat) (L st : List Value) (N : Nat) (y : Nat → Nat → Int32) (l : Nat → Nat → Int64), fk_ev d qX12_here 12 L (.ref 246 :: st) (fk_E N y l) = fk_ev d qX12_here 15 L (.ref 255 :: st) (fk_E N y l)) ∧
  (∀ (d : Nat) (x : Nat) (st : List Value) (h : fk_H), fk_ev d qX12_here 15 [.ref x] st h = fk_ev d qX12_here 16 [.ref x] (.ref x :: st) h) ∧
  (∀ (d : Nat) (L st : List Value) (N : Nat) (y : Nat → Nat → Int32) (l : Nat → Nat → Int64), fk_ev d qX12_here 16 L (.ref 246 :: st) (fk_E N y l) = fk_ev d qX12_here 19 L (.int (y 246 11) :: st) (fk_E N y l)) ∧
  (∀ (d : Nat) (L st : List Value) (N : Nat) (y : Nat → Nat → Int32) (l : Nat → Nat → Int64) (i : Nat), i < 260 → fk_ev d qX12_here 19 L (.int (nI i) :: .ref 255 :: st) (fk_E N y l) = fk_ev d qX12_here 20 L (.int (y 255 i) :: st) (fk_E N y l)) ∧
  (∀ (d : Nat) (L st : List Value) (h : fk_H), fk_ev d qX12_here 20 L st h = fk_ev d qX12_here 23 L (.int (nI 255) :: st) h) ∧
  (∀ (d : Nat) (L : List Value) (x y : Int32) (st : List Value) (h : fk_H), fk_ev d qX12_here 23 L (.int y :: .int x :: st) h = fk_ev d qX12_here 24 L (.int (x &&& y) :: st) h) ∧
  (∀ (d : Nat) (L st : List Value) (h : fk_H), fk_ev d qX12_here 24 L st h = fk_ev d qX12_here 28 L st h) ∧
  (∀ (d : Nat) (L st : List Value) (h : fk_H), fk_ev d qX12_here 27 L st h = fk_ev d qX12_here 28 L (.int ((-1 : Int32)) :: st) h) ∧
  (∀ (d : Nat) (L : List Value) (x : Int32) (h : fk_H), fk_ev d qX12_here 28 L [.int x] h = some (some (.int x), h)) := ⟨fun d  x st h => fk_w_aloadn 0 [.ref x] dX12_here_0 rfl,
  fun d L st N y l => fk_g_getI rfl lf_12_155 (by decide) dX12_here_1 fk_at_246,
  fun d  x st h => fk_w_aloadn 0 [.ref x] dX12_here_4 rfl,
  fun d L st N y l => fk_g_getI rfl lf_12_158 (by decide) dX12_here_5 fk_at_246,
  fun d L x y st h => fk_r_icmp_ge dX12_here_8 (by decide),
  fun d  x st h => fk_w_aloadn 0 [.ref x] dX12_here_11 rfl,
  fun d L st N y l => fk_g_getC rfl lf_12_35 (by decide) rfl dX12_here_12 fk_at_246,
  fun d  x st h => fk_w_aloadn 0 [.ref x] dX12_here_15 rfl,
  fun d L st N y l => fk_g_getI rfl lf_12_155 (by decide) dX12_here_16 fk_at_246,
  fun d L st N y l i hi => fk_g_bald (Or.inl rfl) fk_at_255 fk_ln_255 (by decide) dX12_here_19 hi,
  fun d L st h => fk_w_sipush dX12_here_20 (by decide),
  fun d L x y st h => fk_r_iand dX12_here_23,
  fun d L st h => fk_r_goto dX12_here_24 (by decide),
  fun d L st h => fk_w_iconst dX12_here_27 (by decide),
  fun d L x h => fk_r_ret dX12_here_28 (Or.inl rfl)⟩
theorem dX12_isDigit_0 : decode cX12_isDigit 0 = .ok (.aload_n 0, 1) := by decide +kernel
theorem dX12_isDigit_1 : decode cX12_isDigit 1 = .ok (.invokevirtual 161, 3) := by decide +kernel
theorem dX12_isDigit_4 : decode cX12_isDigit 4 = .ok (.bipush 48, 2) := by decide +kernel
theorem dX12_isDigit_6 : decode cX12_isDigit 6 = .ok (.if_icmp .lt 16, 3) := by decide +kernel
theorem dX12_isDigit_9 : decode cX12_isDigit 9 = .ok (.aload_n 0, 1) := by decide +kernel
theorem dX12_isDigit_10 : decode cX12_isDigit 10 = .ok (.invokevirtual 161, 3) := by decide +kernel
theorem dX12_isDigit_13 : decode cX12_isDigit 13 = .ok (.bipush 57, 2) := by decide +kernel
theorem dX12_isDigit_15 : decode cX12_isDigit 15 = .ok (.if_icmp .gt 7, 3) := by decide +kernel
theorem dX12_isDigit_18 : decode cX12_isDigit 18 = .ok (.iconst 1, 1) := by decide +kernel
theorem dX12_isDigit_19 : decode cX12_isDigit 19 = .ok (.goto 4, 3) := by decide +kernel
theorem dX12_isDigit_22 : decode cX12_isDigit 22 = .ok (.iconst 0, 1) := by decide +kernel
theorem dX12_isDigit_23 : decode cX12_isDigit 23 = .ok (.ireturn, 1) := by decide +kernel
theorem rX12_isDigit : (∀ (d : Nat) (x : Nat) (st : List Value) (h : fk_H), fk_ev d qX12_isDigit 0 [.ref x] st h = fk_ev d qX12_isDigit 1 [.ref x] (.ref x :: st) h) ∧
  (∀ (d : Nat) (L : List Value)   (N : Nat) (y : Nat → Nat → Int32) (l : Nat → Nat → Int64), fk_ev (d + 1) qX12_isDigit 1 L (.ref 246 :: []) (fk_E N y l) = (fk_ev d qX12_here 0 [.ref 246] [] (fk_E N y l)).bind fun o => fk_ev (d + 1) qX12_isDigit 4 L (o.1.toList ++ []) o.2) ∧
  (∀ (d : Nat) (L st : List Value) (h : fk_H), fk_ev d qX12_isDigit 4 L st h = fk_ev d qX12_isDigit 6 L (.int (nI 48) :: st) h) ∧
  (∀ (d : Nat) (L : List Value) (x y : Int32) (st : List Value) (h : fk_H), fk_ev d qX12_isDigit 6 L (.int y :: .int x :: st) h = if x < y then fk_ev d qX12_isDigit 22 L st h else fk_ev d qX12_isDigit 9 L st h) ∧
  (∀ (d : Nat) (x : Nat) (st : List Value) (h : fk_H), fk_ev d qX12_isDigit 9 [.ref x] st h = fk_ev d qX12_isDigit 10 [.ref x] (.ref x :: st) h) ∧
  (∀ (d : Nat) (L : List Value)   (N : Nat) (y : Nat → Nat → Int32) (l : Nat → Nat → Int64), fk_ev (d + 1) qX12_isDigit 10 L (.ref 246 :: []) (fk_E N y l) = (fk_ev d qX12_here 0 [.ref 246] [] (fk_E N y l)).bind fun o => fk_ev (d + 1) qX12_isDigit 13 L (o.1.toList ++ []) o.2) ∧
  (∀ (d : Nat) (L st : List Value) (h : fk_H), fk_ev d qX12_isDigit 13 L st h = fk_ev d qX12_isDigit 15 L (.int (nI 57) :: st) h) ∧
  (∀ (d : Nat) (L : List Value) (x y : Int32) (st : List Value) (h : fk_H), fk_ev d qX12_isDigit 15 L (.int y :: .int x :: st) h = if y < x then fk_ev d qX12_isDigit 22 L st h else fk_ev d qX12_isDigit 18 L st h) ∧
  (∀ (d : Nat) (L st : List Value) (h : fk_H), fk_ev d qX12_isDigit 18 L st h = fk_ev d qX12_isDigit 19 L (.int (nI 1) :: st) h) ∧
  (∀ (d : Nat) (L st : List Value) (h : fk_H), fk_ev d qX12_isDigit 19 L st h = fk_ev d qX12_isDigit 23 L st h) ∧
  (∀ (d : Nat) (L st : List Value) (h : fk_H), fk_ev d qX12_isDigit 22 L st h = fk_ev d qX12_isDigit 23 L (.int (nI 0) :: st) h) ∧
  (∀ (d : Nat) (L : List Value) (h : fk_H), fk_ev d qX12_isDigit 23 L [.int (nI 0)] h = some (some (.int (nI 0)), h)) ∧
  (∀ (d : Nat) (L : List Value) (h : fk_H), fk_ev d qX12_isDigit 23 L [.int (nI 1)] h = some (some (.int (nI 1)), h)) ∧
  (∀ (d : Nat) (L : List Value) (p : Prop) [Decidable p] (h : fk_H), fk_ev d qX12_isDigit 23 L [.int (fk_b p)] h = some (some (.int (fk_b p)), h)) ∧
  (∀ (d : Nat) (L : List Value) (x : Int32) (h : fk_H), (x = nI 0 ∨ x = nI 1) → fk_ev d qX12_isDigit 23 L [.int x] h = some (some (.int x), h)) := ⟨fun d  x st h => fk_w_aloadn 0 [.ref x] dX12_isDigit_0 rfl,
  fun d L  N y l  => fk_g_call [] [] rfl lm_12_161 dX12_isDigit_1 rfl ⟨rfl, by decide⟩ (by simp) fk_at_246,
  fun d L st h => fk_w_bipush dX12_isDigit_4 (by decide),
  fun d L x y st h => fk_r_icmp_lt dX12_isDigit_6 (by decide),
  fun d  x st h => fk_w_aloadn 0 [.ref x] dX12_isDigit_9 rfl,
  fun d L  N y l  => fk_g_call [] [] rfl lm_12_161 dX12_isDigit_10 rfl ⟨rfl, by decide⟩ (by simp) fk_at_246,
  fun d L st h => fk_w_bipush dX12_isDigit_13 (by decide),
  fun d L x y st h => fk_r_icmp_gt dX12_isDigit_15 (by decide),
  fun d L st h => fk_w_iconst dX12_isDigit_18 (by decide),
  fun d L st h => fk_r_goto dX12_isDigit_19 (by decide),
  fun d L st h => fk_w_iconst dX12_isDigit_22 (by decide),
  fun d L h => fk_r_ret dX12_isDigit_23 (Or.inr (Or.inl ⟨rfl, by decide⟩)),
  fun d L h => fk_r_ret dX12_isDigit_23 (Or.inr (Or.inl ⟨rfl, by decide⟩)),
  fun d L p _ h => fk_r_ret dX12_isDigit_23 (Or.inr (Or.inl ⟨rfl, fk_b_01⟩)),
  fun d L x h hx => fk_r_ret dX12_isDigit_23 (Or.inr (Or.inl ⟨rfl, hx⟩))⟩
theorem dX12_wrongAt_0 : decode cX12_wrongAt 0 = .ok (.aload_n 0, 1) := by decide +kernel
theorem dX12_wrongAt_1 : decode cX12_wrongAt 1 = .ok (.sipush (-1000), 3) := by decide +kernel
theorem dX12_wrongAt_4 : decode cX12_wrongAt 4 = .ok (.iload_n 1, 1) := by decide +kernel
theorem dX12_wrongAt_5 : decode cX12_wrongAt 5 = .ok (.imul, 1) := by decide +kernel
theorem dX12_wrongAt_6 : decode cX12_wrongAt 6 = .ok (.iload_n 2, 1) := by decide +kernel
theorem dX12_wrongAt_7 : decode cX12_wrongAt 7 = .ok (.isub, 1) := by decide +kernel
theorem dX12_wrongAt_8 : decode cX12_wrongAt 8 = .ok (.putfield 165, 3) := by decide +kernel
theorem dX12_wrongAt_11 : decode cX12_wrongAt 11 = .ok (.iconst 0, 1) := by decide +kernel
theorem dX12_wrongAt_12 : decode cX12_wrongAt 12 = .ok (.ireturn, 1) := by decide +kernel
theorem rX12_wrongAt : (∀ (d : Nat) (a1 a2 : Value) (x : Nat) (st : List Value) (h : fk_H), fk_ev d qX12_wrongAt 0 [.ref x, a1, a2] st h = fk_ev d qX12_wrongAt 1 [.ref x, a1, a2] (.ref x :: st) h) ∧
  (∀ (d : Nat) (L st : List Value) (h : fk_H), fk_ev d qX12_wrongAt 1 L st h = fk_ev d qX12_wrongAt 4 L (.int ((-1000 : Int32)) :: st) h) ∧
  (∀ (d : Nat) (a0 a2 : Value) (x : Int32) (st : List Value) (h : fk_H), fk_ev d qX12_wrongAt 4 [a0, .int x, a2] st h = fk_ev d qX12_wrongAt 5 [a0, .int x, a2] (.int x :: st) h) ∧
  (∀ (d : Nat) (L : List Value) (x y : Int32) (st : List Value) (h : fk_H), fk_ev d qX12_wrongAt 5 L (.int y :: .int x :: st) h = fk_ev d qX12_wrongAt 6 L (.int (x * y) :: st) h) ∧
  (∀ (d : Nat) (a0 a1 : Value) (x : Int32) (st : List Value) (h : fk_H), fk_ev d qX12_wrongAt 6 [a0, a1, .int x] st h = fk_ev d qX12_wrongAt 7 [a0, a1, .int x] (.int x :: st) h) ∧
  (∀ (d : Nat) (L : List Value) (x y : Int32) (st : List Value) (h : fk_H), fk_ev d qX12_wrongAt 7 L (.int y :: .int x :: st) h = fk_ev d qX12_wrongAt 8 L (.int (x - y) :: st) h) ∧
  (∀ (d : Nat) (L st : List Value) (N : Nat) (y : Nat → Nat → Int32) (l : Nat → Nat → Int64) (v : Int32), fk_ev d qX12_wrongAt 8 L (.int v :: .ref 246 :: st) (fk_E N y l) = fk_ev d qX12_wrongAt 11 L st (fk_E N (fk_u y 246 13 v) l)) ∧
  (∀ (d : Nat) (L st : List Value) (h : fk_H), fk_ev d qX12_wrongAt 11 L st h = fk_ev d qX12_wrongAt 12 L (.int (nI 0) :: st) h) ∧
  (∀ (d : Nat) (L : List Value) (h : fk_H), fk_ev d qX12_wrongAt 12 L [.int (nI 0)] h = some (some (.int (nI 0)), h)) ∧
  (∀ (d : Nat) (L : List Value) (h : fk_H), fk_ev d qX12_wrongAt 12 L [.int (nI 1)] h = some (some (.int (nI 1)), h)) ∧
  (∀ (d : Nat) (L : List Value) (p : Prop) [Decidable p] (h : fk_H), fk_ev d qX12_wrongAt 12 L [.int (fk_b p)] h = some (some (.int (fk_b p)), h)) ∧
  (∀ (d : Nat) (L : List Value) (x : Int32) (h : fk_H), (x = nI 0 ∨ x = nI 1) → fk_ev d qX12_wrongAt 12 L [.int x] h = some (some (.int x), h)) := ⟨fun d a1 a2 x st h => fk_w_aloadn 0 [.ref x, a1, a2] dX12_wrongAt_0 rfl,
  fun d L st h => fk_w_sipush dX12_wrongAt_1 (by decide),
  fun d a0 a2 x st h => fk_w_iloadn 1 [a0, .int x, a2] dX12_wrongAt_4 rfl,
  fun d L x y st h => fk_r_imul dX12_wrongAt_5,
  fun d a0 a1 x st h => fk_w_iloadn 2 [a0, a1, .int x] dX12_wrongAt_6 rfl,
  fun d L x y st h => fk_r_isub dX12_wrongAt_7,
  fun d L st N y l v => fk_g_putI rfl lf_12_165 (by decide) dX12_wrongAt_8 rfl fk_at_246,
  fun d L st h => fk_w_iconst dX12_wrongAt_11 (by decide),
  fun d L h => fk_r_ret dX12_wrongAt_12 (Or.inr (Or.inl ⟨rfl, by decide⟩)),
  fun d L h => fk_r_ret dX12_wrongAt_12 (Or.inr (Or.inl ⟨rfl, by decide⟩)),
  fun d L p _ h => fk_r_ret dX12_wrongAt_12 (Or.inr (Or.inl ⟨rfl, fk_b_01⟩)),
  fun d L x h hx => fk_r_ret dX12_wrongAt_12 (Or.inr (Or.inl ⟨rfl, hx⟩))⟩
theorem dX12_takes_0 : decode cX12_takes 0 = .ok (.aload_n 0, 1) := by decide +kernel
theorem dX12_takes_1 : decode cX12_takes 1 = .ok (.invokevirtual 161, 3) := by decide +kernel
theorem dX12_takes_4 : decode cX12_takes 4 = .ok (.iload_n 1, 1) := by decide +kernel
theorem dX12_takes_5 : decode cX12_takes 5 = .ok (.if_icmp .eq 13, 3) := by decide +kernel
theorem dX12_takes_8 : decode cX12_takes 8 = .ok (.aload_n 0, 1) := by decide +kernel
theorem dX12_takes_9 : decode cX12_takes 9 = .ok (.iconst 1, 1) := by decide +kernel
theorem dX12_takes_10 : decode cX12_takes 10 = .ok (.aload_n 0, 1) := by decide +kernel
theorem dX12_takes_11 : decode cX12_takes 11 = .ok (.getfield 155, 3) := by decide +kernel
theorem dX12_takes_14 : decode cX12_takes 14 = .ok (.invokevirtual 168, 3) := by decide +kernel
theorem dX12_takes_17 : decode cX12_takes 17 = .ok (.ireturn, 1) := by decide +kernel
theorem dX12_takes_18 : decode cX12_takes 18 = .ok (.aload_n 0, 1) := by decide +kernel
theorem dX12_takes_19 : decode cX12_takes 19 = .ok (.aload_n 0, 1) := by decide +kernel
theorem dX12_takes_20 : decode cX12_takes 20 = .ok (.getfield 155, 3) := by decide +kernel
theorem dX12_takes_23 : decode cX12_takes 23 = .ok (.iconst 1, 1) := by decide +kernel
theorem dX12_takes_24 : decode cX12_takes 24 = .ok (.iadd, 1) := by decide +kernel
theorem dX12_takes_25 : decode cX12_takes 25 = .ok (.putfield 155, 3) := by decide +kernel
theorem dX12_takes_28 : decode cX12_takes 28 = .ok (.iconst 1, 1) := by decide +kernel
theorem dX12_takes_29 : decode cX12_takes 29 = .ok (.ireturn, 1) := by decide +kernel
theorem rX12_takes : (∀ (d : Nat) (a1 : Value) (x : Nat) (st : List Value) (h : fk_H), fk_ev d qX12_takes 0 [.ref x, a1] st h = fk_ev d qX12_takes 1 [.ref x, a1] (.ref x :: st) h) ∧
  (∀ (d : Nat) (L : List Value)   (N : Nat) (y : Nat → Nat → Int32) (l : Nat → Nat → Int64), fk_ev (d + 1) qX12_takes 1 L (.ref 246 :: []) (fk_E N y l) = (fk_ev d qX12_here 0 [.ref 246] [] (fk_E N y l)).bind fun o => fk_ev (d + 1) qX12_takes 4 L (o.1.toList ++ []) o.2) ∧
  (∀ (d : Nat) (a0 : Value) (x : Int32) (st : List Value) (h : fk_H), fk_ev d qX12_takes 4 [a0, .int x] st h = fk_ev d qX12_takes 5 [a0, .int x] (.int x :: st) h) ∧
  (∀ (d : Nat) (L : List Value) (x y : Int32) (st : List Value) (h : fk_H), fk_ev d qX12_takes 5 L (.int y :: .int x :: st) h = if x = y then fk_ev d qX12_takes 18 L st h else fk_ev d qX12_takes 8 L st h) ∧
  (∀ (d : Nat) (a1 : Value) (x : Nat) (st : List Value) (h : fk_H), fk_ev d qX12_takes 8 [.ref x, a1] st h = fk_ev d qX12_takes 9 [.ref x, a1] (.ref x :: st) h) ∧
  (∀ (d : Nat) (L st : List Value) (h : fk_H), fk_ev d qX12_takes 9 L st h = fk_ev d qX12_takes 10 L (.int (nI 1) :: st) h) ∧
  (∀ (d : Nat) (a1 : Value) (x : Nat) (st : List Value) (h : fk_H), fk_ev d qX12_takes 10 [.ref x, a1] st h = fk_ev d qX12_takes 11 [.ref x, a1] (.ref x :: st) h) ∧
  (∀ (d : Nat) (L st : List Value) (N : Nat) (y : Nat → Nat → Int32) (l : Nat → Nat → Int64), fk_ev d qX12_takes 11 L (.ref 246 :: st) (fk_E N y l) = fk_ev d qX12_takes 14 L (.int (y 246 11) :: st) (fk_E N y l)) ∧
  (∀ (d : Nat) (L : List Value) (x0 : Int32) (x1 : Int32)  (N : Nat) (y : Nat → Nat → Int32) (l : Nat → Nat → Int64), fk_ev (d + 1) qX12_takes 14 L (.int x1 :: .int x0 :: .ref 246 :: []) (fk_E N y l) = (fk_ev d qX12_wrongAt 0 [.ref 246, .int x0, .int x1] [] (fk_E N y l)).bind fun o => fk_ev (d + 1) qX12_takes 17 L (o.1.toList ++ []) o.2) ∧
  (∀ (d : Nat) (L : List Value) (h : fk_H), fk_ev d qX12_takes 17 L [.int (nI 0)] h = some (some (.int (nI 0)), h)) ∧
  (∀ (d : Nat) (L : List Value) (h : fk_H), fk_ev d qX12_takes 17 L [.int (nI 1)] h = some (some (.int (nI 1)), h)) ∧
  (∀ (d : Nat) (L : List Value) (p : Prop) [Decidable p] (h : fk_H), fk_ev d qX12_takes 17 L [.int (fk_b p)] h = some (some (.int (fk_b p)), h)) ∧
  (∀ (d : Nat) (L : List Value) (x : Int32) (h : fk_H), (x = nI 0 ∨ x = nI 1) → fk_ev d qX12_takes 17 L [.int x] h = some (some (.int x), h)) ∧
  (∀ (d : Nat) (a1 : Value) (x : Nat) (st : List Value) (h : fk_H), fk_ev d qX12_takes 18 [.ref x, a1] st h = fk_ev d qX12_takes 19 [.ref x, a1] (.ref x :: st) h) ∧
  (∀ (d : Nat) (a1 : Value) (x : Nat) (st : List Value) (h : fk_H), fk_ev d qX12_takes 19 [.ref x, a1] st h = fk_ev d qX12_takes 20 [.ref x, a1] (.ref x :: st) h) ∧
  (∀ (d : Nat) (L st : List Value) (N : Nat) (y : Nat → Nat → Int32) (l : Nat → Nat → Int64), fk_ev d qX12_takes 20 L (.ref 246 :: st) (fk_E N y l) = fk_ev d qX12_takes 23 L (.int (y 246 11) :: st) (fk_E N y l)) ∧
  (∀ (d : Nat) (L st : List Value) (h : fk_H), fk_ev d qX12_takes 23 L st h = fk_ev d qX12_takes 24 L (.int (nI 1) :: st) h) ∧
  (∀ (d : Nat) (L : List Value) (x y : Int32) (st : List Value) (h : fk_H), fk_ev d qX12_takes 24 L (.int y :: .int x :: st) h = fk_ev d qX12_takes 25 L (.int (x + y) :: st) h) ∧
  (∀ (d : Nat) (L st : List Value) (N : Nat) (y : Nat → Nat → Int32) (l : Nat → Nat → Int64) (v : Int32), fk_ev d qX12_takes 25 L (.int v :: .ref 246 :: st) (fk_E N y l) = fk_ev d qX12_takes 28 L st (fk_E N (fk_u y 246 11 v) l)) ∧
  (∀ (d : Nat) (L st : List Value) (h : fk_H), fk_ev d qX12_takes 28 L st h = fk_ev d qX12_takes 29 L (.int (nI 1) :: st) h) ∧
  (∀ (d : Nat) (L : List Value) (h : fk_H), fk_ev d qX12_takes 29 L [.int (nI 0)] h = some (some (.int (nI 0)), h)) ∧
  (∀ (d : Nat) (L : List Value) (h : fk_H), fk_ev d qX12_takes 29 L [.int (nI 1)] h = some (some (.int (nI 1)), h)) ∧
  (∀ (d : Nat) (L : List Value) (p : Prop) [Decidable p] (h : fk_H), fk_ev d qX12_takes 29 L [.int (fk_b p)] h = some (some (.int (fk_b p)), h)) ∧
  (∀ (d : Nat) (L : List Value) (x : Int32) (h : fk_H), (x = nI 0 ∨ x = nI 1) → fk_ev d qX12_takes 29 L [.int x] h = some (some (.int x), h)) := ⟨fun d a1 x st h => fk_w_aloadn 0 [.ref x, a1] dX12_takes_0 rfl,
  fun d L  N y l  => fk_g_call [] [] rfl lm_12_161 dX12_takes_1 rfl ⟨rfl, by decide⟩ (by simp) fk_at_246,
  fun d a0 x st h => fk_w_iloadn 1 [a0, .int x] dX12_takes_4 rfl,
  fun d L x y st h => fk_r_icmp_eq dX12_takes_5 (by decide),
  fun d a1 x st h => fk_w_aloadn 0 [.ref x, a1] dX12_takes_8 rfl,
  fun d L st h => fk_w_iconst dX12_takes_9 (by decide),
  fun d a1 x st h => fk_w_aloadn 0 [.ref x, a1] dX12_takes_10 rfl,
  fun d L st N y l => fk_g_getI rfl lf_12_155 (by decide) dX12_takes_11 fk_at_246,
  fun d L x0 x1 N y l  => fk_g_call [.int x0, .int x1] [] rfl lm_12_168 dX12_takes_14 rfl ⟨rfl, by decide⟩ (by simp) fk_at_246,
  fun d L h => fk_r_ret dX12_takes_17 (Or.inr (Or.inl ⟨rfl, by decide⟩)),
  fun d L h => fk_r_ret dX12_takes_17 (Or.inr (Or.inl ⟨rfl, by decide⟩)),
  fun d L p _ h => fk_r_ret dX12_takes_17 (Or.inr (Or.inl ⟨rfl, fk_b_01⟩)),
  fun d L x h hx => fk_r_ret dX12_takes_17 (Or.inr (Or.inl ⟨rfl, hx⟩)),
  fun d a1 x st h => fk_w_aloadn 0 [.ref x, a1] dX12_takes_18 rfl,
  fun d a1 x st h => fk_w_aloadn 0 [.ref x, a1] dX12_takes_19 rfl,
  fun d L st N y l => fk_g_getI rfl lf_12_155 (by decide) dX12_takes_20 fk_at_246,
  fun d L st h => fk_w_iconst dX12_takes_23 (by decide),
  fun d L x y st h => fk_r_iadd dX12_takes_24,
  fun d L st N y l v => fk_g_putI rfl lf_12_155 (by decide) dX12_takes_25 rfl fk_at_246,
  fun d L st h => fk_w_iconst dX12_takes_28 (by decide),
  fun d L h => fk_r_ret dX12_takes_29 (Or.inr (Or.inl ⟨rfl, by decide⟩)),
  fun d L h => fk_r_ret dX12_takes_29 (Or.inr (Or.inl ⟨rfl, by decide⟩)),
  fun d L p _ h => fk_r_ret dX12_takes_29 (Or.inr (Or.inl ⟨rfl, fk_b_01⟩)),
  fun d L x h hx => fk_r_ret dX12_takes_29 (Or.inr (Or.inl ⟨rfl, hx⟩))⟩
theorem dX12_readsNumber_0 : decode cX12_readsNumber 0 = .ok (.aload_n 0, 1) := by decide +kernel
theorem dX12_readsNumber_1 : decode cX12_readsNumber 1 = .ok (.getfield 155, 3) := by decide +kernel
theorem dX12_readsNumber_4 : decode cX12_readsNumber 4 = .ok (.istore_n 1, 1) := by decide +kernel
theorem dX12_readsNumber_5 : decode cX12_readsNumber 5 = .ok (.aload_n 0, 1) := by decide +kernel
theorem dX12_readsNumber_6 : decode cX12_readsNumber 6 = .ok (.iconst 0, 1) := by decide +kernel
theorem dX12_readsNumber_7 : decode cX12_readsNumber 7 = .ok (.putfield 171, 3) := by decide +kernel
theorem dX12_readsNumber_10 : decode cX12_readsNumber 10 = .ok (.aload_n 0, 1) := by decide +kernel
theorem dX12_readsNumber_11 : decode cX12_readsNumber 11 = .ok (.invokevirtual 174, 3) := by decide +kernel
theorem dX12_readsNumber_14 : decode cX12_readsNumber 14 = .ok (.ifCond .eq 55, 3) := by decide +kernel
theorem dX12_readsNumber_17 : decode cX12_readsNumber 17 = .ok (.aload_n 0, 1) := by decide +kernel
theorem dX12_readsNumber_18 : decode cX12_readsNumber 18 = .ok (.getfield 155, 3) := by decide +kernel
theorem dX12_readsNumber_21 : decode cX12_readsNumber 21 = .ok (.iload_n 1, 1) := by decide +kernel
theorem dX12_readsNumber_22 : decode cX12_readsNumber 22 = .ok (.iconst 5, 1) := by decide +kernel
theorem dX12_readsNumber_23 : decode cX12_readsNumber 23 = .ok (.iadd, 1) := by decide +kernel
theorem dX12_readsNumber_24 : decode cX12_readsNumber 24 = .ok (.if_icmp .ne 13, 3) := by decide +kernel
theorem dX12_readsNumber_27 : decode cX12_readsNumber 27 = .ok (.aload_n 0, 1) := by decide +kernel
theorem dX12_readsNumber_28 : decode cX12_readsNumber 28 = .ok (.iconst 2, 1) := by decide +kernel
theorem dX12_readsNumber_29 : decode cX12_readsNumber 29 = .ok (.aload_n 0, 1) := by decide +kernel
theorem dX12_readsNumber_30 : decode cX12_readsNumber 30 = .ok (.getfield 155, 3) := by decide +kernel
theorem dX12_readsNumber_33 : decode cX12_readsNumber 33 = .ok (.invokevirtual 168, 3) := by decide +kernel
theorem dX12_readsNumber_36 : decode cX12_readsNumber 36 = .ok (.ireturn, 1) := by decide +kernel
theorem dX12_readsNumber_37 : decode cX12_readsNumber 37 = .ok (.aload_n 0, 1) := by decide +kernel
theorem dX12_readsNumber_38 : decode cX12_readsNumber 38 = .ok (.bipush 10, 2) := by decide +kernel
theorem dX12_readsNumber_40 : decode cX12_readsNumber 40 = .ok (.aload_n 0, 1) := by decide +kernel
theorem dX12_readsNumber_41 : decode cX12_readsNumber 41 = .ok (.getfield 171, 3) := by decide +kernel
theorem dX12_readsNumber_44 : decode cX12_readsNumber 44 = .ok (.imul, 1) := by decide +kernel
theorem dX12_readsNumber_45 : decode cX12_readsNumber 45 = .ok (.aload_n 0, 1) := by decide +kernel
theorem dX12_readsNumber_46 : decode cX12_readsNumber 46 = .ok (.invokevirtual 161, 3) := by decide +kernel
theorem dX12_readsNumber_49 : decode cX12_readsNumber 49 = .ok (.iadd, 1) := by decide +kernel
theorem dX12_readsNumber_50 : decode cX12_readsNumber 50 = .ok (.bipush 48, 2) := by decide +kernel
theorem dX12_readsNumber_52 : decode cX12_readsNumber 52 = .ok (.isub, 1) := by decide +kernel
theorem dX12_readsNumber_53 : decode cX12_readsNumber 53 = .ok (.putfield 171, 3) := by decide +kernel
theorem dX12_readsNumber_56 : decode cX12_readsNumber 56 = .ok (.aload_n 0, 1) := by decide +kernel
theorem dX12_readsNumber_57 : decode cX12_readsNumber 57 = .ok (.aload_n 0, 1) := by decide +kernel
theorem dX12_readsNumber_58 : decode cX12_readsNumber 58 = .ok (.getfield 155, 3) := by decide +kernel
theorem dX12_readsNumber_61 : decode cX12_readsNumber 61 = .ok (.iconst 1, 1) := by decide +kernel
theorem dX12_readsNumber_62 : decode cX12_readsNumber 62 = .ok (.iadd, 1) := by decide +kernel
theorem dX12_readsNumber_63 : decode cX12_readsNumber 63 = .ok (.putfield 155, 3) := by decide +kernel
theorem dX12_readsNumber_66 : decode cX12_readsNumber 66 = .ok (.goto (-56), 3) := by decide +kernel
theorem dX12_readsNumber_69 : decode cX12_readsNumber 69 = .ok (.iconst 1, 1) := by decide +kernel
theorem dX12_readsNumber_70 : decode cX12_readsNumber 70 = .ok (.ireturn, 1) := by decide +kernel
theorem rX12_readsNumber : (∀ (d : Nat) (a1 : Value) (x : Nat) (st : List Value) (h : fk_H), fk_ev d qX12_readsNumber 0 [.ref x, a1] st h = fk_ev d qX12_readsNumber 1 [.ref x, a1] (.ref x :: st) h) ∧
  (∀ (d : Nat) (L st : List Value) (N : Nat) (y : Nat → Nat → Int32) (l : Nat → Nat → Int64), fk_ev d qX12_readsNumber 1 L (.ref 246 :: st) (fk_E N y l) = fk_ev d qX12_readsNumber 4 L (.int (y 246 11) :: st) (fk_E N y l)) ∧
  (∀ (d : Nat) (a0 a1 : Value) (x : Int32) (st : List Value) (h : fk_H), fk_ev d qX12_readsNumber 4 [a0, a1] (.int x :: st) h = fk_ev d qX12_readsNumber 5 [a0, .int x] st h) ∧
  (∀ (d : Nat) (a1 : Value) (x : Nat) (st : List Value) (h : fk_H), fk_ev d qX12_readsNumber 5 [.ref x, a1] st h = fk_ev d qX12_readsNumber 6 [.ref x, a1] (.ref x :: st) h) ∧
  (∀ (d : Nat) (L st : List Value) (h : fk_H), fk_ev d qX12_readsNumber 6 L st h = fk_ev d qX12_readsNumber 7 L (.int (nI 0) :: st) h) ∧
  (∀ (d : Nat) (L st : List Value) (N : Nat) (y : Nat → Nat → Int32) (l : Nat → Nat → Int64) (v : Int32), fk_ev d qX12_readsNumber 7 L (.int v :: .ref 246 :: st) (fk_E N y l) = fk_ev d qX12_readsNumber 10 L st (fk_E N (fk_u y 246 14 v) l)) ∧
  (∀ (d : Nat) (L : List Value)   (N : Nat) (y : Nat → Nat → Int32) (l : Nat → Nat → Int64), fk_ev (d + 1) qX12_readsNumber 11 L (.ref 246 :: []) (fk_E N y l) = (fk_ev d qX12_isDigit 0 [.ref 246] [] (fk_E N y l)).bind fun o => fk_ev (d + 1) qX12_readsNumber 14 L (o.1.toList ++ []) o.2) ∧
  (∀ (d : Nat) (L : List Value) (x : Int32) (st : List Value) (h : fk_H), fk_ev d qX12_readsNumber 14 L (.int x :: st) h = if x = nI 0 then fk_ev d qX12_readsNumber 69 L st h else fk_ev d qX12_readsNumber 17 L st h) ∧
  (∀ (d : Nat) (a1 : Value) (x : Nat) (st : List Value) (h : fk_H), fk_ev d qX12_readsNumber 17 [.ref x, a1] st h = fk_ev d qX12_readsNumber 18 [.ref x, a1] (.ref x :: st) h) ∧
  (∀ (d : Nat) (L st : List Value) (N : Nat) (y : Nat → Nat → Int32) (l : Nat → Nat → Int64), fk_ev d qX12_readsNumber 18 L (.ref 246 :: st) (fk_E N y l) = fk_ev d qX12_readsNumber 21 L (.int (y 246 11) :: st) (fk_E N y l)) ∧
  (∀ (d : Nat) (a0 : Value) (x : Int32) (st : List Value) (h : fk_H), fk_ev d qX12_readsNumber 21 [a0, .int x] st h = fk_ev d qX12_readsNumber 22 [a0, .int x] (.int x :: st) h) ∧
  (∀ (d : Nat) (L st : List Value) (h : fk_H), fk_ev d qX12_readsNumber 22 L st h = fk_ev d qX12_readsNumber 23 L (.int (nI 5) :: st) h) ∧
  (∀ (d : Nat) (L : List Value) (x y : Int32) (st : List Value) (h : fk_H), fk_ev d qX12_readsNumber 23 L (.int y :: .int x :: st) h = fk_ev d qX12_readsNumber 24 L (.int (x + y) :: st) h) ∧
  (∀ (d : Nat) (L : List Value) (x y : Int32) (st : List Value) (h : fk_H), fk_ev d qX12_readsNumber 24 L (.int y :: .int x :: st) h = if ¬ x = y then fk_ev d qX12_readsNumber 37 L st h else fk_ev d qX12_readsNumber 27 L st h) ∧
  (∀ (d : Nat) (a1 : Value) (x : Nat) (st : List Value) (h : fk_H), fk_ev d qX12_readsNumber 27 [.ref x, a1] st h = fk_ev d qX12_readsNumber 28 [.ref x, a1] (.ref x :: st) h) ∧
  (∀ (d : Nat) (L st : List Value) (h : fk_H), fk_ev d qX12_readsNumber 28 L st h = fk_ev d qX12_readsNumber 29 L (.int (nI 2) :: st) h) ∧
  (∀ (d : Nat) (a1 : Value) (x : Nat) (st : List Value) (h : fk_H), fk_ev d qX12_readsNumber 29 [.ref x, a1] st h = fk_ev d qX12_readsNumber 30 [.ref x, a1] (.ref x :: st) h) ∧
  (∀ (d : Nat) (L st : List Value) (N : Nat) (y : Nat → Nat → Int32) (l : Nat → Nat → Int64), fk_ev d qX12_readsNumber 30 L (.ref 246 :: st) (fk_E N y l) = fk_ev d qX12_readsNumber 33 L (.int (y 246 11) :: st) (fk_E N y l)) ∧
  (∀ (d : Nat) (L : List Value) (x0 : Int32) (x1 : Int32)  (N : Nat) (y : Nat → Nat → Int32) (l : Nat → Nat → Int64), fk_ev (d + 1) qX12_readsNumber 33 L (.int x1 :: .int x0 :: .ref 246 :: []) (fk_E N y l) = (fk_ev d qX12_wrongAt 0 [.ref 246, .int x0, .int x1] [] (fk_E N y l)).bind fun o => fk_ev (d + 1) qX12_readsNumber 36 L (o.1.toList ++ []) o.2) ∧
  (∀ (d : Nat) (L : List Value) (h : fk_H), fk_ev d qX12_readsNumber 36 L [.int (nI 0)] h = some (some (.int (nI 0)), h)) ∧
  (∀ (d : Nat) (L : List Value) (h : fk_H), fk_ev d qX12_readsNumber 36 L [.int (nI 1)] h = some (some (.int (nI 1)), h)) ∧
  (∀ (d : Nat) (L : List Value) (p : Prop) [Decidable p] (h : fk_H), fk_ev d qX12_readsNumber 36 L [.int (fk_b p)] h = some (some (.int (fk_b p)), h)) ∧
  (∀ (d : Nat) (L : List Value) (x : Int32) (h : fk_H), (x = nI 0 ∨ x = nI 1) → fk_ev d qX12_readsNumber 36 L [.int x] h = some (some (.int x), h)) ∧
  (∀ (d : Nat) (a1 : Value) (x : Nat) (st : List Value) (h : fk_H), fk_ev d qX12_readsNumber 37 [.ref x, a1] st h = fk_ev d qX12_readsNumber 38 [.ref x, a1] (.ref x :: st) h) ∧
  (∀ (d : Nat) (L st : List Value) (h : fk_H), fk_ev d qX12_readsNumber 38 L st h = fk_ev d qX12_readsNumber 40 L (.int (nI 10) :: st) h) ∧
  (∀ (d : Nat) (a1 : Value) (x : Nat) (st : List Value) (h : fk_H), fk_ev d qX12_readsNumber 40 [.ref x, a1] st h = fk_ev d qX12_readsNumber 41 [.ref x, a1] (.ref x :: st) h) ∧
  (∀ (d : Nat) (L st : List Value) (N : Nat) (y : Nat → Nat → Int32) (l : Nat → Nat → Int64), fk_ev d qX12_readsNumber 41 L (.ref 246 :: st) (fk_E N y l) = fk_ev d qX12_readsNumber 44 L (.int (y 246 14) :: st) (fk_E N y l)) ∧
  (∀ (d : Nat) (L : List Value) (x y : Int32) (st : List Value) (h : fk_H), fk_ev d qX12_readsNumber 44 L (.int y :: .int x :: st) h = fk_ev d qX12_readsNumber 45 L (.int (x * y) :: st) h) ∧
  (∀ (d : Nat) (a1 : Value) (x : Nat) (st : List Value) (h : fk_H), fk_ev d qX12_readsNumber 45 [.ref x, a1] st h = fk_ev d qX12_readsNumber 46 [.ref x, a1] (.ref x :: st) h) ∧
  (∀ (d : Nat) (L : List Value)  (w0 w1 : Value) (N : Nat) (y : Nat → Nat → Int32) (l : Nat → Nat → Int64), fk_ev (d + 1) qX12_readsNumber 46 L (.ref 246 :: [w0, w1]) (fk_E N y l) = (fk_ev d qX12_here 0 [.ref 246] [] (fk_E N y l)).bind fun o => fk_ev (d + 1) qX12_readsNumber 49 L (o.1.toList ++ [w0, w1]) o.2) ∧
  (∀ (d : Nat) (L : List Value) (x y : Int32) (st : List Value) (h : fk_H), fk_ev d qX12_readsNumber 49 L (.int y :: .int x :: st) h = fk_ev d qX12_readsNumber 50 L (.int (x + y) :: st) h) ∧
  (∀ (d : Nat) (L st : List Value) (h : fk_H), fk_ev d qX12_readsNumber 50 L st h = fk_ev d qX12_readsNumber 52 L (.int (nI 48) :: st) h) ∧
  (∀ (d : Nat) (L : List Value) (x y : Int32) (st : List Value) (h : fk_H), fk_ev d qX12_readsNumber 52 L (.int y :: .int x :: st) h = fk_ev d qX12_readsNumber 53 L (.int (x - y) :: st) h) ∧
  (∀ (d : Nat) (L st : List Value) (N : Nat) (y : Nat → Nat → Int32) (l : Nat → Nat → Int64) (v : Int32), fk_ev d qX12_readsNumber 53 L (.int v :: .ref 246 :: st) (fk_E N y l) = fk_ev d qX12_readsNumber 56 L st (fk_E N (fk_u y 246 14 v) l)) ∧
  (∀ (d : Nat) (a1 : Value) (x : Nat) (st : List Value) (h : fk_H), fk_ev d qX12_readsNumber 56 [.ref x, a1] st h = fk_ev d qX12_readsNumber 57 [.ref x, a1] (.ref x :: st) h) ∧
  (∀ (d : Nat) (a1 : Value) (x : Nat) (st : List Value) (h : fk_H), fk_ev d qX12_readsNumber 57 [.ref x, a1] st h = fk_ev d qX12_readsNumber 58 [.ref x, a1] (.ref x :: st) h) ∧
  (∀ (d : Nat) (L st : List Value) (N : Nat) (y : Nat → Nat → Int32) (l : Nat → Nat → Int64), fk_ev d qX12_readsNumber 58 L (.ref 246 :: st) (fk_E N y l) = fk_ev d qX12_readsNumber 61 L (.int (y 246 11) :: st) (fk_E N y l)) ∧
  (∀ (d : Nat) (L st : List Value) (h : fk_H), fk_ev d qX12_readsNumber 61 L st h = fk_ev d qX12_readsNumber 62 L (.int (nI 1) :: st) h) ∧
  (∀ (d : Nat) (L : List Value) (x y : Int32) (st : List Value) (h : fk_H), fk_ev d qX12_readsNumber 62 L (.int y :: .int x :: st) h = fk_ev d qX12_readsNumber 63 L (.int (x + y) :: st) h) ∧
  (∀ (d : Nat) (L st : List Value) (N : Nat) (y : Nat → Nat → Int32) (l : Nat → Nat → Int64) (v : Int32), fk_ev d qX12_readsNumber 63 L (.int v :: .ref 246 :: st) (fk_E N y l) = fk_ev d qX12_readsNumber 66 L st (fk_E N (fk_u y 246 11 v) l)) ∧
  (∀ (d : Nat) (L st : List Value) (h : fk_H), fk_ev d qX12_readsNumber 66 L st h = fk_ev d qX12_readsNumber 10 L st h) ∧
  (∀ (d : Nat) (L st : List Value) (h : fk_H), fk_ev d qX12_readsNumber 69 L st h = fk_ev d qX12_readsNumber 70 L (.int (nI 1) :: st) h) ∧
  (∀ (d : Nat) (L : List Value) (h : fk_H), fk_ev d qX12_readsNumber 70 L [.int (nI 0)] h = some (some (.int (nI 0)), h)) ∧
  (∀ (d : Nat) (L : List Value) (h : fk_H), fk_ev d qX12_readsNumber 70 L [.int (nI 1)] h = some (some (.int (nI 1)), h)) ∧
  (∀ (d : Nat) (L : List Value) (p : Prop) [Decidable p] (h : fk_H), fk_ev d qX12_readsNumber 70 L [.int (fk_b p)] h = some (some (.int (fk_b p)), h)) ∧
  (∀ (d : Nat) (L : List Value) (x : Int32) (h : fk_H), (x = nI 0 ∨ x = nI 1) → fk_ev d qX12_readsNumber 70 L [.int x] h = some (some (.int x), h)) := ⟨fun d a1 x st h => fk_w_aloadn 0 [.ref x, a1] dX12_readsNumber_0 rfl,
  fun d L st N y l => fk_g_getI rfl lf_12_155 (by decide) dX12_readsNumber_1 fk_at_246,
  fun d a0 a1 x st h => fk_w_istoren 1 2 [] [a0, a1] [a0, .int x] dX12_readsNumber_4 rfl rfl (by decide) rfl,
  fun d a1 x st h => fk_w_aloadn 0 [.ref x, a1] dX12_readsNumber_5 rfl,
  fun d L st h => fk_w_iconst dX12_readsNumber_6 (by decide),
  fun d L st N y l v => fk_g_putI rfl lf_12_171 (by decide) dX12_readsNumber_7 rfl fk_at_246,
  fun d L  N y l  => fk_g_call [] [] rfl lm_12_174 dX12_readsNumber_11 rfl ⟨rfl, by decide⟩ (by simp) fk_at_246,
  fun d L x st h => fk_r_if_eq dX12_readsNumber_14 (by decide),
  fun d a1 x st h => fk_w_aloadn 0 [.ref x, a1] dX12_readsNumber_17 rfl,
  fun d L st N y l => fk_g_getI rfl lf_12_155 (by decide) dX12_readsNumber_18 fk_at_246,
  fun d a0 x st h => fk_w_iloadn 1 [a0, .int x] dX12_readsNumber_21 rfl,
  fun d L st h => fk_w_iconst dX12_readsNumber_22 (by decide),
  fun d L x y st h => fk_r_iadd dX12_readsNumber_23,
  fun d L x y st h => fk_r_icmp_ne dX12_readsNumber_24 (by decide),
  fun d a1 x st h => fk_w_aloadn 0 [.ref x, a1] dX12_readsNumber_27 rfl,
  fun d L st h => fk_w_iconst dX12_readsNumber_28 (by decide),
  fun d a1 x st h => fk_w_aloadn 0 [.ref x, a1] dX12_readsNumber_29 rfl,
  fun d L st N y l => fk_g_getI rfl lf_12_155 (by decide) dX12_readsNumber_30 fk_at_246,
  fun d L x0 x1 N y l  => fk_g_call [.int x0, .int x1] [] rfl lm_12_168 dX12_readsNumber_33 rfl ⟨rfl, by decide⟩ (by simp) fk_at_246,
  fun d L h => fk_r_ret dX12_readsNumber_36 (Or.inr (Or.inl ⟨rfl, by decide⟩)),
  fun d L h => fk_r_ret dX12_readsNumber_36 (Or.inr (Or.inl ⟨rfl, by decide⟩)),
  fun d L p _ h => fk_r_ret dX12_readsNumber_36 (Or.inr (Or.inl ⟨rfl, fk_b_01⟩)),
  fun d L x h hx => fk_r_ret dX12_readsNumber_36 (Or.inr (Or.inl ⟨rfl, hx⟩)),
  fun d a1 x st h => fk_w_aloadn 0 [.ref x, a1] dX12_readsNumber_37 rfl,
  fun d L st h => fk_w_bipush dX12_readsNumber_38 (by decide),
  fun d a1 x st h => fk_w_aloadn 0 [.ref x, a1] dX12_readsNumber_40 rfl,
  fun d L st N y l => fk_g_getI rfl lf_12_171 (by decide) dX12_readsNumber_41 fk_at_246,
  fun d L x y st h => fk_r_imul dX12_readsNumber_44,
  fun d a1 x st h => fk_w_aloadn 0 [.ref x, a1] dX12_readsNumber_45 rfl,
  fun d L w0 w1 N y l  => fk_g_call [] [w0, w1] rfl lm_12_161 dX12_readsNumber_46 rfl ⟨rfl, by decide⟩ (by simp) fk_at_246,
  fun d L x y st h => fk_r_iadd dX12_readsNumber_49,
  fun d L st h => fk_w_bipush dX12_readsNumber_50 (by decide),
  fun d L x y st h => fk_r_isub dX12_readsNumber_52,
  fun d L st N y l v => fk_g_putI rfl lf_12_171 (by decide) dX12_readsNumber_53 rfl fk_at_246,
  fun d a1 x st h => fk_w_aloadn 0 [.ref x, a1] dX12_readsNumber_56 rfl,
  fun d a1 x st h => fk_w_aloadn 0 [.ref x, a1] dX12_readsNumber_57 rfl,
  fun d L st N y l => fk_g_getI rfl lf_12_155 (by decide) dX12_readsNumber_58 fk_at_246,
  fun d L st h => fk_w_iconst dX12_readsNumber_61 (by decide),
  fun d L x y st h => fk_r_iadd dX12_readsNumber_62,
  fun d L st N y l v => fk_g_putI rfl lf_12_155 (by decide) dX12_readsNumber_63 rfl fk_at_246,
  fun d L st h => fk_r_goto dX12_readsNumber_66 (by decide),
  fun d L st h => fk_w_iconst dX12_readsNumber_69 (by decide),
  fun d L h => fk_r_ret dX12_readsNumber_70 (Or.inr (Or.inl ⟨rfl, by decide⟩)),
  fun d L h => fk_r_ret dX12_readsNumber_70 (Or.inr (Or.inl ⟨rfl, by decide⟩)),
  fun d L p _ h => fk_r_ret dX12_readsNumber_70 (Or.inr (Or.inl ⟨rfl, fk_b_01⟩)),
  fun d L x h hx => fk_r_ret dX12_readsNumber_70 (Or.inr (Or.inl ⟨rfl, hx⟩))⟩
theorem hX12_readsNumber_10 : ∀ (d : Nat) (a1 : Value) (x : Nat) (st : List Value) (h : fk_H), fk_ev d qX12_readsNumber 10 [.ref x, a1] st h = fk_ev d qX12_readsNumber 11 [.ref x, a1] (.ref x :: st) h := fun d a1 x st h => fk_w_aloadn 0 [.ref x, a1] dX12_readsNumber_10 rfl
theorem dX12_notes_0 : decode cX12_notes 0 = .ok (.aload_n 0, 1) := by decide +kernel
theorem dX12_notes_1 : decode cX12_notes 1 = .ok (.getfield 39, 3) := by decide +kernel
theorem dX12_notes_4 : decode cX12_notes 4 = .ok (.aload_n 0, 1) := by decide +kernel
theorem dX12_notes_5 : decode cX12_notes 5 = .ok (.getfield 178, 3) := by decide +kernel
theorem dX12_notes_8 : decode cX12_notes 8 = .ok (.ldc 181, 2) := by decide +kernel
theorem dX12_notes_10 : decode cX12_notes 10 = .ok (.iload_n 1, 1) := by decide +kernel
theorem dX12_notes_11 : decode cX12_notes 11 = .ok (.imul, 1) := by decide +kernel
theorem dX12_notes_12 : decode cX12_notes 12 = .ok (.iload_n 2, 1) := by decide +kernel
theorem dX12_notes_13 : decode cX12_notes 13 = .ok (.iadd, 1) := by decide +kernel
theorem dX12_notes_14 : decode cX12_notes 14 = .ok (.iastore, 1) := by decide +kernel
theorem dX12_notes_15 : decode cX12_notes 15 = .ok (.aload_n 0, 1) := by decide +kernel
theorem dX12_notes_16 : decode cX12_notes 16 = .ok (.aload_n 0, 1) := by decide +kernel
theorem dX12_notes_17 : decode cX12_notes 17 = .ok (.getfield 178, 3) := by decide +kernel
theorem dX12_notes_20 : decode cX12_notes 20 = .ok (.iconst 1, 1) := by decide +kernel
theorem dX12_notes_21 : decode cX12_notes 21 = .ok (.iadd, 1) := by decide +kernel
theorem dX12_notes_22 : decode cX12_notes 22 = .ok (.putfield 178, 3) := by decide +kernel
theorem dX12_notes_25 : decode cX12_notes 25 = .ok (.return_, 1) := by decide +kernel
theorem rX12_notes : (∀ (d : Nat) (a1 a2 : Value) (x : Nat) (st : List Value) (h : fk_H), fk_ev d qX12_notes 0 [.ref x, a1, a2] st h = fk_ev d qX12_notes 1 [.ref x, a1, a2] (.ref x :: st) h) ∧
  (∀ (d : Nat) (L st : List Value) (N : Nat) (y : Nat → Nat → Int32) (l : Nat → Nat → Int64), fk_ev d qX12_notes 1 L (.ref 246 :: st) (fk_E N y l) = fk_ev d qX12_notes 4 L (.ref 256 :: st) (fk_E N y l)) ∧
  (∀ (d : Nat) (a1 a2 : Value) (x : Nat) (st : List Value) (h : fk_H), fk_ev d qX12_notes 4 [.ref x, a1, a2] st h = fk_ev d qX12_notes 5 [.ref x, a1, a2] (.ref x :: st) h) ∧
  (∀ (d : Nat) (L st : List Value) (N : Nat) (y : Nat → Nat → Int32) (l : Nat → Nat → Int64), fk_ev d qX12_notes 5 L (.ref 246 :: st) (fk_E N y l) = fk_ev d qX12_notes 8 L (.int (y 246 16) :: st) (fk_E N y l)) ∧
  (∀ (d : Nat) (L st : List Value) (h : fk_H), fk_ev d qX12_notes 8 L st h = fk_ev d qX12_notes 10 L (.int (nI 1048576) :: st) h) ∧
  (∀ (d : Nat) (a0 a2 : Value) (x : Int32) (st : List Value) (h : fk_H), fk_ev d qX12_notes 10 [a0, .int x, a2] st h = fk_ev d qX12_notes 11 [a0, .int x, a2] (.int x :: st) h) ∧
  (∀ (d : Nat) (L : List Value) (x y : Int32) (st : List Value) (h : fk_H), fk_ev d qX12_notes 11 L (.int y :: .int x :: st) h = fk_ev d qX12_notes 12 L (.int (x * y) :: st) h) ∧
  (∀ (d : Nat) (a0 a1 : Value) (x : Int32) (st : List Value) (h : fk_H), fk_ev d qX12_notes 12 [a0, a1, .int x] st h = fk_ev d qX12_notes 13 [a0, a1, .int x] (.int x :: st) h) ∧
  (∀ (d : Nat) (L : List Value) (x y : Int32) (st : List Value) (h : fk_H), fk_ev d qX12_notes 13 L (.int y :: .int x :: st) h = fk_ev d qX12_notes 14 L (.int (x + y) :: st) h) ∧
  (∀ (d : Nat) (L st : List Value) (N : Nat) (y : Nat → Nat → Int32) (l : Nat → Nat → Int64) (i : Nat) (v : Int32), i < 260 → fk_ev d qX12_notes 14 L (.int v :: .int (nI i) :: .ref 256 :: st) (fk_E N y l) = fk_ev d qX12_notes 15 L st (fk_E N (fk_u y 256 i v) l)) ∧
  (∀ (d : Nat) (a1 a2 : Value) (x : Nat) (st : List Value) (h : fk_H), fk_ev d qX12_notes 15 [.ref x, a1, a2] st h = fk_ev d qX12_notes 16 [.ref x, a1, a2] (.ref x :: st) h) ∧
  (∀ (d : Nat) (a1 a2 : Value) (x : Nat) (st : List Value) (h : fk_H), fk_ev d qX12_notes 16 [.ref x, a1, a2] st h = fk_ev d qX12_notes 17 [.ref x, a1, a2] (.ref x :: st) h) ∧
  (∀ (d : Nat) (L st : List Value) (N : Nat) (y : Nat → Nat → Int32) (l : Nat → Nat → Int64), fk_ev d qX12_notes 17 L (.ref 246 :: st) (fk_E N y l) = fk_ev d qX12_notes 20 L (.int (y 246 16) :: st) (fk_E N y l)) ∧
  (∀ (d : Nat) (L st : List Value) (h : fk_H), fk_ev d qX12_notes 20 L st h = fk_ev d qX12_notes 21 L (.int (nI 1) :: st) h) ∧
  (∀ (d : Nat) (L : List Value) (x y : Int32) (st : List Value) (h : fk_H), fk_ev d qX12_notes 21 L (.int y :: .int x :: st) h = fk_ev d qX12_notes 22 L (.int (x + y) :: st) h) ∧
  (∀ (d : Nat) (L st : List Value) (N : Nat) (y : Nat → Nat → Int32) (l : Nat → Nat → Int64) (v : Int32), fk_ev d qX12_notes 22 L (.int v :: .ref 246 :: st) (fk_E N y l) = fk_ev d qX12_notes 25 L st (fk_E N (fk_u y 246 16 v) l)) ∧
  (∀ (d : Nat) (L : List Value) (h : fk_H), fk_ev d qX12_notes 25 L [] h = some (none, h)) := ⟨fun d a1 a2 x st h => fk_w_aloadn 0 [.ref x, a1, a2] dX12_notes_0 rfl,
  fun d L st N y l => fk_g_getC rfl lf_12_39 (by decide) rfl dX12_notes_1 fk_at_246,
  fun d a1 a2 x st h => fk_w_aloadn 0 [.ref x, a1, a2] dX12_notes_4 rfl,
  fun d L st N y l => fk_g_getI rfl lf_12_178 (by decide) dX12_notes_5 fk_at_246,
  fun d L st h => fk_g_ldc rfl lc_12_181 (by decide) dX12_notes_8,
  fun d a0 a2 x st h => fk_w_iloadn 1 [a0, .int x, a2] dX12_notes_10 rfl,
  fun d L x y st h => fk_r_imul dX12_notes_11,
  fun d a0 a1 x st h => fk_w_iloadn 2 [a0, a1, .int x] dX12_notes_12 rfl,
  fun d L x y st h => fk_r_iadd dX12_notes_13,
  fun d L st N y l i v hi => fk_g_iast fk_at_256 fk_ln_256 (by decide) dX12_notes_14 hi,
  fun d a1 a2 x st h => fk_w_aloadn 0 [.ref x, a1, a2] dX12_notes_15 rfl,
  fun d a1 a2 x st h => fk_w_aloadn 0 [.ref x, a1, a2] dX12_notes_16 rfl,
  fun d L st N y l => fk_g_getI rfl lf_12_178 (by decide) dX12_notes_17 fk_at_246,
  fun d L st h => fk_w_iconst dX12_notes_20 (by decide),
  fun d L x y st h => fk_r_iadd dX12_notes_21,
  fun d L st N y l v => fk_g_putI rfl lf_12_178 (by decide) dX12_notes_22 rfl fk_at_246,
  fun d L h => fk_r_vret dX12_notes_25 rfl⟩
theorem dX12_opens_0 : decode cX12_opens 0 = .ok (.aload_n 0, 1) := by decide +kernel
theorem dX12_opens_1 : decode cX12_opens 1 = .ok (.getfield 182, 3) := by decide +kernel
theorem dX12_opens_4 : decode cX12_opens 4 = .ok (.bipush 6, 2) := by decide +kernel
theorem dX12_opens_6 : decode cX12_opens 6 = .ok (.if_icmp .ne 13, 3) := by decide +kernel
theorem dX12_opens_9 : decode cX12_opens 9 = .ok (.aload_n 0, 1) := by decide +kernel
theorem dX12_opens_10 : decode cX12_opens 10 = .ok (.iconst 5, 1) := by decide +kernel
theorem dX12_opens_11 : decode cX12_opens 11 = .ok (.aload_n 0, 1) := by decide +kernel
theorem dX12_opens_12 : decode cX12_opens 12 = .ok (.getfield 155, 3) := by decide +kernel
theorem dX12_opens_15 : decode cX12_opens 15 = .ok (.invokevirtual 168, 3) := by decide +kernel
theorem dX12_opens_18 : decode cX12_opens 18 = .ok (.ireturn, 1) := by decide +kernel
theorem dX12_opens_19 : decode cX12_opens 19 = .ok (.aload_n 0, 1) := by decide +kernel
theorem dX12_opens_20 : decode cX12_opens 20 = .ok (.aload_n 0, 1) := by decide +kernel
theorem dX12_opens_21 : decode cX12_opens 21 = .ok (.getfield 182, 3) := by decide +kernel
theorem dX12_opens_24 : decode cX12_opens 24 = .ok (.iconst 1, 1) := by decide +kernel
theorem dX12_opens_25 : decode cX12_opens 25 = .ok (.iadd, 1) := by decide +kernel
theorem dX12_opens_26 : decode cX12_opens 26 = .ok (.putfield 182, 3) := by decide +kernel
theorem dX12_opens_29 : decode cX12_opens 29 = .ok (.aload_n 0, 1) := by decide +kernel
theorem dX12_opens_30 : decode cX12_opens 30 = .ok (.getfield 42, 3) := by decide +kernel
theorem dX12_opens_33 : decode cX12_opens 33 = .ok (.aload_n 0, 1) := by decide +kernel
theorem dX12_opens_34 : decode cX12_opens 34 = .ok (.getfield 185, 3) := by decide +kernel
theorem dX12_opens_37 : decode cX12_opens 37 = .ok (.ldc 181, 2) := by decide +kernel
theorem dX12_opens_39 : decode cX12_opens 39 = .ok (.iload_n 1, 1) := by decide +kernel
theorem dX12_opens_40 : decode cX12_opens 40 = .ok (.imul, 1) := by decide +kernel
theorem dX12_opens_41 : decode cX12_opens 41 = .ok (.iastore, 1) := by decide +kernel
theorem dX12_opens_42 : decode cX12_opens 42 = .ok (.aload_n 0, 1) := by decide +kernel
theorem dX12_opens_43 : decode cX12_opens 43 = .ok (.aload_n 0, 1) := by decide +kernel
theorem dX12_opens_44 : decode cX12_opens 44 = .ok (.getfield 185, 3) := by decide +kernel
theorem dX12_opens_47 : decode cX12_opens 47 = .ok (.iconst 1, 1) := by decide +kernel
theorem dX12_opens_48 : decode cX12_opens 48 = .ok (.iadd, 1) := by decide +kernel
theorem dX12_opens_49 : decode cX12_opens 49 = .ok (.putfield 185, 3) := by decide +kernel
theorem dX12_opens_52 : decode cX12_opens 52 = .ok (.aload_n 0, 1) := by decide +kernel
theorem dX12_opens_53 : decode cX12_opens 53 = .ok (.aload_n 0, 1) := by decide +kernel
theorem dX12_opens_54 : decode cX12_opens 54 = .ok (.getfield 155, 3) := by decide +kernel
theorem dX12_opens_57 : decode cX12_opens 57 = .ok (.iconst 1, 1) := by decide +kernel
theorem dX12_opens_58 : decode cX12_opens 58 = .ok (.iadd, 1) := by decide +kernel
theorem dX12_opens_59 : decode cX12_opens 59 = .ok (.putfield 155, 3) := by decide +kernel
theorem dX12_opens_62 : decode cX12_opens 62 = .ok (.iconst 1, 1) := by decide +kernel
theorem dX12_opens_63 : decode cX12_opens 63 = .ok (.ireturn, 1) := by decide +kernel
theorem rX12_opens : (∀ (d : Nat) (a1 : Value) (x : Nat) (st : List Value) (h : fk_H), fk_ev d qX12_opens 0 [.ref x, a1] st h = fk_ev d qX12_opens 1 [.ref x, a1] (.ref x :: st) h) ∧
  (∀ (d : Nat) (L st : List Value) (N : Nat) (y : Nat → Nat → Int32) (l : Nat → Nat → Int64), fk_ev d qX12_opens 1 L (.ref 246 :: st) (fk_E N y l) = fk_ev d qX12_opens 4 L (.int (y 246 15) :: st) (fk_E N y l)) ∧
  (∀ (d : Nat) (L st : List Value) (h : fk_H), fk_ev d qX12_opens 4 L st h = fk_ev d qX12_opens 6 L (.int (nI 6) :: st) h) ∧
  (∀ (d : Nat) (L : List Value) (x y : Int32) (st : List Value) (h : fk_H), fk_ev d qX12_opens 6 L (.int y :: .int x :: st) h = if ¬ x = y then fk_ev d qX12_opens 19 L st h else fk_ev d qX12_opens 9 L st h) ∧
  (∀ (d : Nat) (a1 : Value) (x : Nat) (st : List Value) (h : fk_H), fk_ev d qX12_opens 9 [.ref x, a1] st h = fk_ev d qX12_opens 10 [.ref x, a1] (.ref x :: st) h) ∧
  (∀ (d : Nat) (L st : List Value) (h : fk_H), fk_ev d qX12_opens 10 L st h = fk_ev d qX12_opens 11 L (.int (nI 5) :: st) h) ∧
  (∀ (d : Nat) (a1 : Value) (x : Nat) (st : List Value) (h : fk_H), fk_ev d qX12_opens 11 [.ref x, a1] st h = fk_ev d qX12_opens 12 [.ref x, a1] (.ref x :: st) h) ∧
  (∀ (d : Nat) (L st : List Value) (N : Nat) (y : Nat → Nat → Int32) (l : Nat → Nat → Int64), fk_ev d qX12_opens 12 L (.ref 246 :: st) (fk_E N y l) = fk_ev d qX12_opens 15 L (.int (y 246 11) :: st) (fk_E N y l)) ∧
  (∀ (d : Nat) (L : List Value) (x0 : Int32) (x1 : Int32)  (N : Nat) (y : Nat → Nat → Int32) (l : Nat → Nat → Int64), fk_ev (d + 1) qX12_opens 15 L (.int x1 :: .int x0 :: .ref 246 :: []) (fk_E N y l) = (fk_ev d qX12_wrongAt 0 [.ref 246, .int x0, .int x1] [] (fk_E N y l)).bind fun o => fk_ev (d + 1) qX12_opens 18 L (o.1.toList ++ []) o.2) ∧
  (∀ (d : Nat) (L : List Value) (h : fk_H), fk_ev d qX12_opens 18 L [.int (nI 0)] h = some (some (.int (nI 0)), h)) ∧
  (∀ (d : Nat) (L : List Value) (h : fk_H), fk_ev d qX12_opens 18 L [.int (nI 1)] h = some (some (.int (nI 1)), h)) ∧
  (∀ (d : Nat) (L : List Value) (p : Prop) [Decidable p] (h : fk_H), fk_ev d qX12_opens 18 L [.int (fk_b p)] h = some (some (.int (fk_b p)), h)) ∧
  (∀ (d : Nat) (L : List Value) (x : Int32) (h : fk_H), (x = nI 0 ∨ x = nI 1) → fk_ev d qX12_opens 18 L [.int x] h = some (some (.int x), h)) ∧
  (∀ (d : Nat) (a1 : Value) (x : Nat) (st : List Value) (h : fk_H), fk_ev d qX12_opens 19 [.ref x, a1] st h = fk_ev d qX12_opens 20 [.ref x, a1] (.ref x :: st) h) ∧
  (∀ (d : Nat) (a1 : Value) (x : Nat) (st : List Value) (h : fk_H), fk_ev d qX12_opens 20 [.ref x, a1] st h = fk_ev d qX12_opens 21 [.ref x, a1] (.ref x :: st) h) ∧
  (∀ (d : Nat) (L st : List Value) (N : Nat) (y : Nat → Nat → Int32) (l : Nat → Nat → Int64), fk_ev d qX12_opens 21 L (.ref 246 :: st) (fk_E N y l) = fk_ev d qX12_opens 24 L (.int (y 246 15) :: st) (fk_E N y l)) ∧
  (∀ (d : Nat) (L st : List Value) (h : fk_H), fk_ev d qX12_opens 24 L st h = fk_ev d qX12_opens 25 L (.int (nI 1) :: st) h) ∧
  (∀ (d : Nat) (L : List Value) (x y : Int32) (st : List Value) (h : fk_H), fk_ev d qX12_opens 25 L (.int y :: .int x :: st) h = fk_ev d qX12_opens 26 L (.int (x + y) :: st) h) ∧
  (∀ (d : Nat) (L st : List Value) (N : Nat) (y : Nat → Nat → Int32) (l : Nat → Nat → Int64) (v : Int32), fk_ev d qX12_opens 26 L (.int v :: .ref 246 :: st) (fk_E N y l) = fk_ev d qX12_opens 29 L st (fk_E N (fk_u y 246 15 v) l)) ∧
  (∀ (d : Nat) (a1 : Value) (x : Nat) (st : List Value) (h : fk_H), fk_ev d qX12_opens 29 [.ref x, a1] st h = fk_ev d qX12_opens 30 [.ref x, a1] (.ref x :: st) h) ∧
  (∀ (d : Nat) (L st : List Value) (N : Nat) (y : Nat → Nat → Int32) (l : Nat → Nat → Int64), fk_ev d qX12_opens 30 L (.ref 246 :: st) (fk_E N y l) = fk_ev d qX12_opens 33 L (.ref 257 :: st) (fk_E N y l)) ∧
  (∀ (d : Nat) (a1 : Value) (x : Nat) (st : List Value) (h : fk_H), fk_ev d qX12_opens 33 [.ref x, a1] st h = fk_ev d qX12_opens 34 [.ref x, a1] (.ref x :: st) h) ∧
  (∀ (d : Nat) (L st : List Value) (N : Nat) (y : Nat → Nat → Int32) (l : Nat → Nat → Int64), fk_ev d qX12_opens 34 L (.ref 246 :: st) (fk_E N y l) = fk_ev d qX12_opens 37 L (.int (y 246 17) :: st) (fk_E N y l)) ∧
  (∀ (d : Nat) (L st : List Value) (h : fk_H), fk_ev d qX12_opens 37 L st h = fk_ev d qX12_opens 39 L (.int (nI 1048576) :: st) h) ∧
  (∀ (d : Nat) (a0 : Value) (x : Int32) (st : List Value) (h : fk_H), fk_ev d qX12_opens 39 [a0, .int x] st h = fk_ev d qX12_opens 40 [a0, .int x] (.int x :: st) h) ∧
  (∀ (d : Nat) (L : List Value) (x y : Int32) (st : List Value) (h : fk_H), fk_ev d qX12_opens 40 L (.int y :: .int x :: st) h = fk_ev d qX12_opens 41 L (.int (x * y) :: st) h) ∧
  (∀ (d : Nat) (L st : List Value) (N : Nat) (y : Nat → Nat → Int32) (l : Nat → Nat → Int64) (i : Nat) (v : Int32), i < 260 → fk_ev d qX12_opens 41 L (.int v :: .int (nI i) :: .ref 257 :: st) (fk_E N y l) = fk_ev d qX12_opens 42 L st (fk_E N (fk_u y 257 i v) l)) ∧
  (∀ (d : Nat) (a1 : Value) (x : Nat) (st : List Value) (h : fk_H), fk_ev d qX12_opens 42 [.ref x, a1] st h = fk_ev d qX12_opens 43 [.ref x, a1] (.ref x :: st) h) ∧
  (∀ (d : Nat) (a1 : Value) (x : Nat) (st : List Value) (h : fk_H), fk_ev d qX12_opens 43 [.ref x, a1] st h = fk_ev d qX12_opens 44 [.ref x, a1] (.ref x :: st) h) ∧
  (∀ (d : Nat) (L st : List Value) (N : Nat) (y : Nat → Nat → Int32) (l : Nat → Nat → Int64), fk_ev d qX12_opens 44 L (.ref 246 :: st) (fk_E N y l) = fk_ev d qX12_opens 47 L (.int (y 246 17) :: st) (fk_E N y l)) ∧
  (∀ (d : Nat) (L st : List Value) (h : fk_H), fk_ev d qX12_opens 47 L st h = fk_ev d qX12_opens 48 L (.int (nI 1) :: st) h) ∧
  (∀ (d : Nat) (L : List Value) (x y : Int32) (st : List Value) (h : fk_H), fk_ev d qX12_opens 48 L (.int y :: .int x :: st) h = fk_ev d qX12_opens 49 L (.int (x + y) :: st) h) ∧
  (∀ (d : Nat) (L st : List Value) (N : Nat) (y : Nat → Nat → Int32) (l : Nat → Nat → Int64) (v : Int32), fk_ev d qX12_opens 49 L (.int v :: .ref 246 :: st) (fk_E N y l) = fk_ev d qX12_opens 52 L st (fk_E N (fk_u y 246 17 v) l)) ∧
  (∀ (d : Nat) (a1 : Value) (x : Nat) (st : List Value) (h : fk_H), fk_ev d qX12_opens 52 [.ref x, a1] st h = fk_ev d qX12_opens 53 [.ref x, a1] (.ref x :: st) h) ∧
  (∀ (d : Nat) (a1 : Value) (x : Nat) (st : List Value) (h : fk_H), fk_ev d qX12_opens 53 [.ref x, a1] st h = fk_ev d qX12_opens 54 [.ref x, a1] (.ref x :: st) h) ∧
  (∀ (d : Nat) (L st : List Value) (N : Nat) (y : Nat → Nat → Int32) (l : Nat → Nat → Int64), fk_ev d qX12_opens 54 L (.ref 246 :: st) (fk_E N y l) = fk_ev d qX12_opens 57 L (.int (y 246 11) :: st) (fk_E N y l)) ∧
  (∀ (d : Nat) (L st : List Value) (h : fk_H), fk_ev d qX12_opens 57 L st h = fk_ev d qX12_opens 58 L (.int (nI 1) :: st) h) ∧
  (∀ (d : Nat) (L : List Value) (x y : Int32) (st : List Value) (h : fk_H), fk_ev d qX12_opens 58 L (.int y :: .int x :: st) h = fk_ev d qX12_opens 59 L (.int (x + y) :: st) h) ∧
  (∀ (d : Nat) (L st : List Value) (N : Nat) (y : Nat → Nat → Int32) (l : Nat → Nat → Int64) (v : Int32), fk_ev d qX12_opens 59 L (.int v :: .ref 246 :: st) (fk_E N y l) = fk_ev d qX12_opens 62 L st (fk_E N (fk_u y 246 11 v) l)) ∧
  (∀ (d : Nat) (L st : List Value) (h : fk_H), fk_ev d qX12_opens 62 L st h = fk_ev d qX12_opens 63 L (.int (nI 1) :: st) h) ∧
  (∀ (d : Nat) (L : List Value) (h : fk_H), fk_ev d qX12_opens 63 L [.int (nI 0)] h = some (some (.int (nI 0)), h)) ∧
  (∀ (d : Nat) (L : List Value) (h : fk_H), fk_ev d qX12_opens 63 L [.int (nI 1)] h = some (some (.int (nI 1)), h)) ∧
  (∀ (d : Nat) (L : List Value) (p : Prop) [Decidable p] (h : fk_H), fk_ev d qX12_opens 63 L [.int (fk_b p)] h = some (some (.int (fk_b p)), h)) ∧
  (∀ (d : Nat) (L : List Value) (x : Int32) (h : fk_H), (x = nI 0 ∨ x = nI 1) → fk_ev d qX12_opens 63 L [.int x] h = some (some (.int x), h)) := ⟨fun d a1 x st h => fk_w_aloadn 0 [.ref x, a1] dX12_opens_0 rfl,
  fun d L st N y l => fk_g_getI rfl lf_12_182 (by decide) dX12_opens_1 fk_at_246,
  fun d L st h => fk_w_bipush dX12_opens_4 (by decide),
  fun d L x y st h => fk_r_icmp_ne dX12_opens_6 (by decide),
  fun d a1 x st h => fk_w_aloadn 0 [.ref x, a1] dX12_opens_9 rfl,
  fun d L st h => fk_w_iconst dX12_opens_10 (by decide),
  fun d a1 x st h => fk_w_aloadn 0 [.ref x, a1] dX12_opens_11 rfl,
  fun d L st N y l => fk_g_getI rfl lf_12_155 (by decide) dX12_opens_12 fk_at_246,
  fun d L x0 x1 N y l  => fk_g_call [.int x0, .int x1] [] rfl lm_12_168 dX12_opens_15 rfl ⟨rfl, by decide⟩ (by simp) fk_at_246,
  fun d L h => fk_r_ret dX12_opens_18 (Or.inr (Or.inl ⟨rfl, by decide⟩)),
  fun d L h => fk_r_ret dX12_opens_18 (Or.inr (Or.inl ⟨rfl, by decide⟩)),
  fun d L p _ h => fk_r_ret dX12_opens_18 (Or.inr (Or.inl ⟨rfl, fk_b_01⟩)),
  fun d L x h hx => fk_r_ret dX12_opens_18 (Or.inr (Or.inl ⟨rfl, hx⟩)),
  fun d a1 x st h => fk_w_aloadn 0 [.ref x, a1] dX12_opens_19 rfl,
  fun d a1 x st h => fk_w_aloadn 0 [.ref x, a1] dX12_opens_20 rfl,
  fun d L st N y l => fk_g_getI rfl lf_12_182 (by decide) dX12_opens_21 fk_at_246,
  fun d L st h => fk_w_iconst dX12_opens_24 (by decide),
  fun d L x y st h => fk_r_iadd dX12_opens_25,
  fun d L st N y l v => fk_g_putI rfl lf_12_182 (by decide) dX12_opens_26 rfl fk_at_246,
  fun d a1 x st h => fk_w_aloadn 0 [.ref x, a1] dX12_opens_29 rfl,
  fun d L st N y l => fk_g_getC rfl lf_12_42 (by decide) rfl dX12_opens_30 fk_at_246,
  fun d a1 x st h => fk_w_aloadn 0 [.ref x, a1] dX12_opens_33 rfl,
  fun d L st N y l => fk_g_getI rfl lf_12_185 (by decide) dX12_opens_34 fk_at_246,
  fun d L st h => fk_g_ldc rfl lc_12_181 (by decide) dX12_opens_37,
  fun d a0 x st h => fk_w_iloadn 1 [a0, .int x] dX12_opens_39 rfl,
  fun d L x y st h => fk_r_imul dX12_opens_40,
  fun d L st N y l i v hi => fk_g_iast fk_at_257 fk_ln_257 (by decide) dX12_opens_41 hi,
  fun d a1 x st h => fk_w_aloadn 0 [.ref x, a1] dX12_opens_42 rfl,
  fun d a1 x st h => fk_w_aloadn 0 [.ref x, a1] dX12_opens_43 rfl,
  fun d L st N y l => fk_g_getI rfl lf_12_185 (by decide) dX12_opens_44 fk_at_246,
  fun d L st h => fk_w_iconst dX12_opens_47 (by decide),
  fun d L x y st h => fk_r_iadd dX12_opens_48,
  fun d L st N y l v => fk_g_putI rfl lf_12_185 (by decide) dX12_opens_49 rfl fk_at_246,
  fun d a1 x st h => fk_w_aloadn 0 [.ref x, a1] dX12_opens_52 rfl,
  fun d a1 x st h => fk_w_aloadn 0 [.ref x, a1] dX12_opens_53 rfl,
  fun d L st N y l => fk_g_getI rfl lf_12_155 (by decide) dX12_opens_54 fk_at_246,
  fun d L st h => fk_w_iconst dX12_opens_57 (by decide),
  fun d L x y st h => fk_r_iadd dX12_opens_58,
  fun d L st N y l v => fk_g_putI rfl lf_12_155 (by decide) dX12_opens_59 rfl fk_at_246,
  fun d L st h => fk_w_iconst dX12_opens_62 (by decide),
  fun d L h => fk_r_ret dX12_opens_63 (Or.inr (Or.inl ⟨rfl, by decide⟩)),
  fun d L h => fk_r_ret dX12_opens_63 (Or.inr (Or.inl ⟨rfl, by decide⟩)),
  fun d L p _ h => fk_r_ret dX12_opens_63 (Or.inr (Or.inl ⟨rfl, fk_b_01⟩)),
  fun d L x h hx => fk_r_ret dX12_opens_63 (Or.inr (Or.inl ⟨rfl, hx⟩))⟩
theorem dX12_waitTop_0 : decode cX12_waitTop 0 = .ok (.aload_n 0, 1) := by decide +kernel
theorem dX12_waitTop_1 : decode cX12_waitTop 1 = .ok (.getfield 185, 3) := by decide +kernel
theorem dX12_waitTop_4 : decode cX12_waitTop 4 = .ok (.ifCond .ne 7, 3) := by decide +kernel
theorem dX12_waitTop_7 : decode cX12_waitTop 7 = .ok (.iconst (-1), 1) := by decide +kernel
theorem dX12_waitTop_8 : decode cX12_waitTop 8 = .ok (.goto 17, 3) := by decide +kernel
theorem dX12_waitTop_11 : decode cX12_waitTop 11 = .ok (.aload_n 0, 1) := by decide +kernel
theorem dX12_waitTop_12 : decode cX12_waitTop 12 = .ok (.getfield 42, 3) := by decide +kernel
theorem dX12_waitTop_15 : decode cX12_waitTop 15 = .ok (.aload_n 0, 1) := by decide +kernel
theorem dX12_waitTop_16 : decode cX12_waitTop 16 = .ok (.getfield 185, 3) := by decide +kernel
theorem dX12_waitTop_19 : decode cX12_waitTop 19 = .ok (.iconst 1, 1) := by decide +kernel
theorem dX12_waitTop_20 : decode cX12_waitTop 20 = .ok (.isub, 1) := by decide +kernel
theorem dX12_waitTop_21 : decode cX12_waitTop 21 = .ok (.iaload, 1) := by decide +kernel
theorem dX12_waitTop_22 : decode cX12_waitTop 22 = .ok (.ldc 181, 2) := by decide +kernel
theorem dX12_waitTop_24 : decode cX12_waitTop 24 = .ok (.idiv, 1) := by decide +kernel
theorem dX12_waitTop_25 : decode cX12_waitTop 25 = .ok (.ireturn, 1) := by decide +kernel
theorem rX12_waitTop : (∀ (d : Nat) (x : Nat) (st : List Value) (h : fk_H), fk_ev d qX12_waitTop 0 [.ref x] st h = fk_ev d qX12_waitTop 1 [.ref x] (.ref x :: st) h) ∧
  (∀ (d : Nat) (L st : List Value) (N : Nat) (y : Nat → Nat → Int32) (l : Nat → Nat → Int64), fk_ev d qX12_waitTop 1 L (.ref 246 :: st) (fk_E N y l) = fk_ev d qX12_waitTop 4 L (.int (y 246 17) :: st) (fk_E N y l)) ∧
  (∀ (d : Nat) (L : List Value) (x : Int32) (st : List Value) (h : fk_H), fk_ev d qX12_waitTop 4 L (.int x :: st) h = if ¬ x = nI 0 then fk_ev d qX12_waitTop 11 L st h else fk_ev d qX12_waitTop 7 L st h) ∧
  (∀ (d : Nat) (L st : List Value) (h : fk_H), fk_ev d qX12_waitTop 7 L st h = fk_ev d qX12_waitTop 8 L (.int ((-1 : Int32)) :: st) h) ∧
  (∀ (d : Nat) (L st : List Value) (h : fk_H), fk_ev d qX12_waitTop 8 L st h = fk_ev d qX12_waitTop 25 L st h) ∧
  (∀ (d : Nat) (x : Nat) (st : List Value) (h : fk_H), fk_ev d qX12_waitTop 11 [.ref x] st h = fk_ev d qX12_waitTop 12 [.ref x] (.ref x :: st) h) ∧
  (∀ (d : Nat) (L st : List Value) (N : Nat) (y : Nat → Nat → Int32) (l : Nat → Nat → Int64), fk_ev d qX12_waitTop 12 L (.ref 246 :: st) (fk_E N y l) = fk_ev d qX12_waitTop 15 L (.ref 257 :: st) (fk_E N y l)) ∧
  (∀ (d : Nat) (x : Nat) (st : List Value) (h : fk_H), fk_ev d qX12_waitTop 15 [.ref x] st h = fk_ev d qX12_waitTop 16 [.ref x] (.ref x :: st) h) ∧
  (∀ (d : Nat) (L st : List Value) (N : Nat) (y : Nat → Nat → Int32) (l : Nat → Nat → Int64), fk_ev d qX12_waitTop 16 L (.ref 246 :: st) (fk_E N y l) = fk_ev d qX12_waitTop 19 L (.int (y 246 17) :: st) (fk_E N y l)) ∧
  (∀ (d : Nat) (L st : List Value) (h : fk_H), fk_ev d qX12_waitTop 19 L st h = fk_ev d qX12_waitTop 20 L (.int (nI 1) :: st) h) ∧
  (∀ (d : Nat) (L : List Value) (x y : Int32) (st : List Value) (h : fk_H), fk_ev d qX12_waitTop 20 L (.int y :: .int x :: st) h = fk_ev d qX12_waitTop 21 L (.int (x - y) :: st) h) ∧
  (∀ (d : Nat) (L st : List Value) (N : Nat) (y : Nat → Nat → Int32) (l : Nat → Nat → Int64) (i : Nat), i < 260 → fk_ev d qX12_waitTop 21 L (.int (nI i) :: .ref 257 :: st) (fk_E N y l) = fk_ev d qX12_waitTop 22 L (.int (y 257 i) :: st) (fk_E N y l)) ∧
  (∀ (d : Nat) (L st : List Value) (h : fk_H), fk_ev d qX12_waitTop 22 L st h = fk_ev d qX12_waitTop 24 L (.int (nI 1048576) :: st) h) ∧
  (∀ (d : Nat) (L : List Value) (x y : Int32) (st : List Value) (h : fk_H), fk_ev d qX12_waitTop 24 L (.int y :: .int x :: st) h = if y = 0 then none else fk_ev d qX12_waitTop 25 L (.int (x / y) :: st) h) ∧
  (∀ (d : Nat) (L : List Value) (x : Int32) (h : fk_H), fk_ev d qX12_waitTop 25 L [.int x] h = some (some (.int x), h)) := ⟨fun d  x st h => fk_w_aloadn 0 [.ref x] dX12_waitTop_0 rfl,
  fun d L st N y l => fk_g_getI rfl lf_12_185 (by decide) dX12_waitTop_1 fk_at_246,
  fun d L x st h => fk_r_if_ne dX12_waitTop_4 (by decide),
  fun d L st h => fk_w_iconst dX12_waitTop_7 (by decide),
  fun d L st h => fk_r_goto dX12_waitTop_8 (by decide),
  fun d  x st h => fk_w_aloadn 0 [.ref x] dX12_waitTop_11 rfl,
  fun d L st N y l => fk_g_getC rfl lf_12_42 (by decide) rfl dX12_waitTop_12 fk_at_246,
  fun d  x st h => fk_w_aloadn 0 [.ref x] dX12_waitTop_15 rfl,
  fun d L st N y l => fk_g_getI rfl lf_12_185 (by decide) dX12_waitTop_16 fk_at_246,
  fun d L st h => fk_w_iconst dX12_waitTop_19 (by decide),
  fun d L x y st h => fk_r_isub dX12_waitTop_20,
  fun d L st N y l i hi => fk_g_iald fk_at_257 fk_ln_257 (by decide) dX12_waitTop_21 hi,
  fun d L st h => fk_g_ldc rfl lc_12_181 (by decide) dX12_waitTop_22,
  fun d L x y st h => fk_r_idiv dX12_waitTop_24,
  fun d L x h => fk_r_ret dX12_waitTop_25 (Or.inl rfl)⟩
theorem dX12_factOf_0 : decode cX12_factOf 0 = .ok (.iload_n 0, 1) := by decide +kernel
theorem dX12_factOf_1 : decode cX12_factOf 1 = .ok (.tableswitch 135 102 122 #[129, 135, 99, 101, 103, 117, 126, 111, 109, 114, 107, 123, 120, 135, 135, 135, 135, 135, 135, 132, 105], 99) := by decide +kernel
theorem dX12_factOf_100 : decode cX12_factOf 100 = .ok (.iconst 0, 1) := by decide +kernel
theorem dX12_factOf_101 : decode cX12_factOf 101 = .ok (.ireturn, 1) := by decide +kernel
theorem dX12_factOf_102 : decode cX12_factOf 102 = .ok (.iconst 1, 1) := by decide +kernel
theorem dX12_factOf_103 : decode cX12_factOf 103 = .ok (.ireturn, 1) := by decide +kernel
theorem dX12_factOf_104 : decode cX12_factOf 104 = .ok (.iconst 2, 1) := by decide +kernel
theorem dX12_factOf_105 : decode cX12_factOf 105 = .ok (.ireturn, 1) := by decide +kernel
theorem dX12_factOf_106 : decode cX12_factOf 106 = .ok (.iconst 3, 1) := by decide +kernel
theorem dX12_factOf_107 : decode cX12_factOf 107 = .ok (.ireturn, 1) := by decide +kernel
theorem dX12_factOf_108 : decode cX12_factOf 108 = .ok (.iconst 4, 1) := by decide +kernel
theorem dX12_factOf_109 : decode cX12_factOf 109 = .ok (.ireturn, 1) := by decide +kernel
theorem dX12_factOf_110 : decode cX12_factOf 110 = .ok (.iconst 5, 1) := by decide +kernel
theorem dX12_factOf_111 : decode cX12_factOf 111 = .ok (.ireturn, 1) := by decide +kernel
theorem dX12_factOf_112 : decode cX12_factOf 112 = .ok (.bipush 6, 2) := by decide +kernel
theorem dX12_factOf_114 : decode cX12_factOf 114 = .ok (.ireturn, 1) := by decide +kernel
theorem dX12_factOf_115 : decode cX12_factOf 115 = .ok (.bipush 7, 2) := by decide +kernel
theorem dX12_factOf_117 : decode cX12_factOf 117 = .ok (.ireturn, 1) := by decide +kernel
theorem dX12_factOf_118 : decode cX12_factOf 118 = .ok (.bipush 8, 2) := by decide +kernel
theorem dX12_factOf_120 : decode cX12_factOf 120 = .ok (.ireturn, 1) := by decide +kernel
theorem dX12_factOf_121 : decode cX12_factOf 121 = .ok (.bipush 9, 2) := by decide +kernel
theorem dX12_factOf_123 : decode cX12_factOf 123 = .ok (.ireturn, 1) := by decide +kernel
theorem dX12_factOf_124 : decode cX12_factOf 124 = .ok (.bipush 10, 2) := by decide +kernel
theorem dX12_factOf_126 : decode cX12_factOf 126 = .ok (.ireturn, 1) := by decide +kernel
theorem dX12_factOf_127 : decode cX12_factOf 127 = .ok (.bipush 11, 2) := by decide +kernel
theorem dX12_factOf_129 : decode cX12_factOf 129 = .ok (.ireturn, 1) := by decide +kernel
theorem dX12_factOf_130 : decode cX12_factOf 130 = .ok (.bipush 12, 2) := by decide +kernel
theorem dX12_factOf_132 : decode cX12_factOf 132 = .ok (.ireturn, 1) := by decide +kernel
theorem dX12_factOf_133 : decode cX12_factOf 133 = .ok (.bipush 13, 2) := by decide +kernel
theorem dX12_factOf_135 : decode cX12_factOf 135 = .ok (.ireturn, 1) := by decide +kernel
theorem dX12_factOf_136 : decode cX12_factOf 136 = .ok (.iconst (-1), 1) := by decide +kernel
theorem dX12_factOf_137 : decode cX12_factOf 137 = .ok (.ireturn, 1) := by decide +kernel
theorem rX12_factOf : (∀ (d : Nat) (x : Int32) (st : List Value) (h : fk_H), fk_ev d qX12_factOf 0 [.int x] st h = fk_ev d qX12_factOf 1 [.int x] (.int x :: st) h) ∧
  (∀ (d : Nat) (L st : List Value) (h : fk_H), fk_ev d qX12_factOf 1 L (.int (nI 102) :: st) h = fk_ev d qX12_factOf 130 L st h) ∧
  (∀ (d : Nat) (L st : List Value) (h : fk_H), fk_ev d qX12_factOf 1 L (.int (nI 103) :: st) h = fk_ev d qX12_factOf 136 L st h) ∧
  (∀ (d : Nat) (L st : List Value) (h : fk_H), fk_ev d qX12_factOf 1 L (.int (nI 104) :: st) h = fk_ev d qX12_factOf 100 L st h) ∧
  (∀ (d : Nat) (L st : List Value) (h : fk_H), fk_ev d qX12_factOf 1 L (.int (nI 105) :: st) h = fk_ev d qX12_factOf 102 L st h) ∧
  (∀ (d : Nat) (L st : List Value) (h : fk_H), fk_ev d qX12_factOf 1 L (.int (nI 106) :: st) h = fk_ev d qX12_factOf 104 L st h) ∧
  (∀ (d : Nat) (L st : List Value) (h : fk_H), fk_ev d qX12_factOf 1 L (.int (nI 107) :: st) h = fk_ev d qX12_factOf 118 L st h) ∧
  (∀ (d : Nat) (L st : List Value) (h : fk_H), fk_ev d qX12_factOf 1 L (.int (nI 108) :: st) h = fk_ev d qX12_factOf 127 L st h) ∧
  (∀ (d : Nat) (L st : List Value) (h : fk_H), fk_ev d qX12_factOf 1 L (.int (nI 109) :: st) h = fk_ev d qX12_factOf 112 L st h) ∧
  (∀ (d : Nat) (L st : List Value) (h : fk_H), fk_ev d qX12_factOf 1 L (.int (nI 110) :: st) h = fk_ev d qX12_factOf 110 L st h) ∧
  (∀ (d : Nat) (L st : List Value) (h : fk_H), fk_ev d qX12_factOf 1 L (.int (nI 111) :: st) h = fk_ev d qX12_factOf 115 L st h) ∧
  (∀ (d : Nat) (L st : List Value) (h : fk_H), fk_ev d qX12_factOf 1 L (.int (nI 112) :: st) h = fk_ev d qX12_factOf 108 L st h) ∧
  (∀ (d : Nat) (L st : List Value) (h : fk_H), fk_ev d qX12_factOf 1 L (.int (nI 113) :: st) h = fk_ev d qX12_factOf 124 L st h) ∧
  (∀ (d : Nat) (L st : List Value) (h : fk_H), fk_ev d qX12_factOf 1 L (.int (nI 114) :: st) h = fk_ev d qX12_factOf 121 L st h) ∧
  (∀ (d : Nat) (L st : List Value) (h : fk_H), fk_ev d qX12_factOf 1 L (.int (nI 115) :: st) h = fk_ev d qX12_factOf 136 L st h) ∧
  (∀ (d : Nat) (L st : List Value) (h : fk_H), fk_ev d qX12_factOf 1 L (.int (nI 116) :: st) h = fk_ev d qX12_factOf 136 L st h) ∧
  (∀ (d : Nat) (L st : List Value) (h : fk_H), fk_ev d qX12_factOf 1 L (.int (nI 117) :: st) h = fk_ev d qX12_factOf 136 L st h) ∧
  (∀ (d : Nat) (L st : List Value) (h : fk_H), fk_ev d qX12_factOf 1 L (.int (nI 118) :: st) h = fk_ev d qX12_factOf 136 L st h) ∧
  (∀ (d : Nat) (L st : List Value) (h : fk_H), fk_ev d qX12_factOf 1 L (.int (nI 119) :: st) h = fk_ev d qX12_factOf 136 L st h) ∧
  (∀ (d : Nat) (L st : List Value) (h : fk_H), fk_ev d qX12_factOf 1 L (.int (nI 120) :: st) h = fk_ev d qX12_factOf 136 L st h) ∧
  (∀ (d : Nat) (L st : List Value) (h : fk_H), fk_ev d qX12_factOf 1 L (.int (nI 121) :: st) h = fk_ev d qX12_factOf 133 L st h) ∧
  (∀ (d : Nat) (L st : List Value) (h : fk_H), fk_ev d qX12_factOf 1 L (.int (nI 122) :: st) h = fk_ev d qX12_factOf 106 L st h) ∧
  (∀ (d : Nat) (L : List Value) (x : Int32) (st : List Value) (h : fk_H), (x.toInt < 102 ∨ 122 < x.toInt) → fk_ev d qX12_factOf 1 L (.int x :: st) h = fk_ev d qX12_factOf 136 L st h) ∧
  (∀ (d : Nat) (L st : List Value) (h : fk_H), fk_ev d qX12_factOf 100 L st h = fk_ev d qX12_factOf 101 L (.int (nI 0) :: st) h) ∧
  (∀ (d : Nat) (L : List Value) (x : Int32) (h : fk_H), fk_ev d qX12_factOf 101 L [.int x] h = some (some (.int x), h)) ∧
  (∀ (d : Nat) (L st : List Value) (h : fk_H), fk_ev d qX12_factOf 102 L st h = fk_ev d qX12_factOf 103 L (.int (nI 1) :: st) h) ∧
  (∀ (d : Nat) (L : List Value) (x : Int32) (h : fk_H), fk_ev d qX12_factOf 103 L [.int x] h = some (some (.int x), h)) ∧
  (∀ (d : Nat) (L st : List Value) (h : fk_H), fk_ev d qX12_factOf 104 L st h = fk_ev d qX12_factOf 105 L (.int (nI 2) :: st) h) ∧
  (∀ (d : Nat) (L : List Value) (x : Int32) (h : fk_H), fk_ev d qX12_factOf 105 L [.int x] h = some (some (.int x), h)) ∧
  (∀ (d : Nat) (L st : List Value) (h : fk_H), fk_ev d qX12_factOf 106 L st h = fk_ev d qX12_factOf 107 L (.int (nI 3) :: st) h) ∧
  (∀ (d : Nat) (L : List Value) (x : Int32) (h : fk_H), fk_ev d qX12_factOf 107 L [.int x] h = some (some (.int x), h)) ∧
  (∀ (d : Nat) (L st : List Value) (h : fk_H), fk_ev d qX12_factOf 108 L st h = fk_ev d qX12_factOf 109 L (.int (nI 4) :: st) h) ∧
  (∀ (d : Nat) (L : List Value) (x : Int32) (h : fk_H), fk_ev d qX12_factOf 109 L [.int x] h = some (some (.int x), h)) ∧
  (∀ (d : Nat) (L st : List Value) (h : fk_H), fk_ev d qX12_factOf 110 L st h = fk_ev d qX12_factOf 111 L (.int (nI 5) :: st) h) ∧
  (∀ (d : Nat) (L : List Value) (x : Int32) (h : fk_H), fk_ev d qX12_factOf 111 L [.int x] h = some (some (.int x), h)) ∧
  (∀ (d : Nat) (L st : List Value) (h : fk_H), fk_ev d qX12_factOf 112 L st h = fk_ev d qX12_factOf 114 L (.int (nI 6) :: st) h) ∧
  (∀ (d : Nat) (L : List Value) (x : Int32) (h : fk_H), fk_ev d qX12_factOf 114 L [.int x] h = some (some (.int x), h)) ∧
  (∀ (d : Nat) (L st : List Value) (h : fk_H), fk_ev d qX12_factOf 115 L st h = fk_ev d qX12_factOf 117 L (.int (nI 7) :: st) h) ∧
  (∀ (d : Nat) (L : List Value) (x : Int32) (h : fk_H), fk_ev d qX12_factOf 117 L [.int x] h = some (some (.int x), h)) ∧
  (∀ (d : Nat) (L st : List Value) (h : fk_H), fk_ev d qX12_factOf 118 L st h = fk_ev d qX12_factOf 120 L (.int (nI 8) :: st) h) ∧
  (∀ (d : Nat) (L : List Value) (x : Int32) (h : fk_H), fk_ev d qX12_factOf 120 L [.int x] h = some (some (.int x), h)) ∧
  (∀ (d : Nat) (L st : List Value) (h : fk_H), fk_ev d qX12_factOf 121 L st h = fk_ev d qX12_factOf 123 L (.int (nI 9) :: st) h) ∧
  (∀ (d : Nat) (L : List Value) (x : Int32) (h : fk_H), fk_ev d qX12_factOf 123 L [.int x] h = some (some (.int x), h)) ∧
  (∀ (d : Nat) (L st : List Value) (h : fk_H), fk_ev d qX12_factOf 124 L st h = fk_ev d qX12_factOf 126 L (.int (nI 10) :: st) h) ∧
  (∀ (d : Nat) (L : List Value) (x : Int32) (h : fk_H), fk_ev d qX12_factOf 126 L [.int x] h = some (some (.int x), h)) ∧
  (∀ (d : Nat) (L st : List Value) (h : fk_H), fk_ev d qX12_factOf 127 L st h = fk_ev d qX12_factOf 129 L (.int (nI 11) :: st) h) ∧
  (∀ (d : Nat) (L : List Value) (x : Int32) (h : fk_H), fk_ev d qX12_factOf 129 L [.int x] h = some (some (.int x), h)) ∧
  (∀ (d : Nat) (L st : List Value) (h : fk_H), fk_ev d qX12_factOf 130 L st h = fk_ev d qX12_factOf 132 L (.int (nI 12) :: st) h) ∧
  (∀ (d : Nat) (L : List Value) (x : Int32) (h : fk_H), fk_ev d qX12_factOf 132 L [.int x] h = some (some (.int x), h)) ∧
  (∀ (d : Nat) (L st : List Value) (h : fk_H), fk_ev d qX12_factOf 133 L st h = fk_ev d qX12_factOf 135 L (.int (nI 13) :: st) h) ∧
  (∀ (d : Nat) (L : List Value) (x : Int32) (h : fk_H), fk_ev d qX12_factOf 135 L [.int x] h = some (some (.int x), h)) ∧
  (∀ (d : Nat) (L st : List Value) (h : fk_H), fk_ev d qX12_factOf 136 L st h = fk_ev d qX12_factOf 137 L (.int ((-1 : Int32)) :: st) h) ∧
  (∀ (d : Nat) (L : List Value) (x : Int32) (h : fk_H), fk_ev d qX12_factOf 137 L [.int x] h = some (some (.int x), h)) := ⟨fun d  x st h => fk_w_iloadn 0 [.int x] dX12_factOf_0 rfl,
  fun d L st h => fk_w_tab (102) (off := 129) dX12_factOf_1 (by decide) (by decide) (by decide) (by decide),
  fun d L st h => fk_w_tab (103) (off := 135) dX12_factOf_1 (by decide) (by decide) (by decide) (by decide),
  fun d L st h => fk_w_tab (104) (off := 99) dX12_factOf_1 (by decide) (by decide) (by decide) (by decide),
  fun d L st h => fk_w_tab (105) (off := 101) dX12_factOf_1 (by decide) (by decide) (by decide) (by decide),
  fun d L st h => fk_w_tab (106) (off := 103) dX12_factOf_1 (by decide) (by decide) (by decide) (by decide),
  fun d L st h => fk_w_tab (107) (off := 117) dX12_factOf_1 (by decide) (by decide) (by decide) (by decide),
  fun d L st h => fk_w_tab (108) (off := 126) dX12_factOf_1 (by decide) (by decide) (by decide) (by decide),
  fun d L st h => fk_w_tab (109) (off := 111) dX12_factOf_1 (by decide) (by decide) (by decide) (by decide),
  fun d L st h => fk_w_tab (110) (off := 109) dX12_factOf_1 (by decide) (by decide) (by decide) (by decide),
  fun d L st h => fk_w_tab (111) (off := 114) dX12_factOf_1 (by decide) (by decide) (by decide) (by decide),
  fun d L st h => fk_w_tab (112) (off := 107) dX12_factOf_1 (by decide) (by decide) (by decide) (by decide),
  fun d L st h => fk_w_tab (113) (off := 123) dX12_factOf_1 (by decide) (by decide) (by decide) (by decide),
  fun d L st h => fk_w_tab (114) (off := 120) dX12_factOf_1 (by decide) (by decide) (by decide) (by decide),
  fun d L st h => fk_w_tab (115) (off := 135) dX12_factOf_1 (by decide) (by decide) (by decide) (by decide),
  fun d L st h => fk_w_tab (116) (off := 135) dX12_factOf_1 (by decide) (by decide) (by decide) (by decide),
  fun d L st h => fk_w_tab (117) (off := 135) dX12_factOf_1 (by decide) (by decide) (by decide) (by decide),
  fun d L st h => fk_w_tab (118) (off := 135) dX12_factOf_1 (by decide) (by decide) (by decide) (by decide),
  fun d L st h => fk_w_tab (119) (off := 135) dX12_factOf_1 (by decide) (by decide) (by decide) (by decide),
  fun d L st h => fk_w_tab (120) (off := 135) dX12_factOf_1 (by decide) (by decide) (by decide) (by decide),
  fun d L st h => fk_w_tab (121) (off := 132) dX12_factOf_1 (by decide) (by decide) (by decide) (by decide),
  fun d L st h => fk_w_tab (122) (off := 105) dX12_factOf_1 (by decide) (by decide) (by decide) (by decide),
  fun d L x st h hx => fk_w_tabo dX12_factOf_1 hx (by decide),
  fun d L st h => fk_w_iconst dX12_factOf_100 (by decide),
  fun d L x h => fk_r_ret dX12_factOf_101 (Or.inl rfl),
  fun d L st h => fk_w_iconst dX12_factOf_102 (by decide),
  fun d L x h => fk_r_ret dX12_factOf_103 (Or.inl rfl),
  fun d L st h => fk_w_iconst dX12_factOf_104 (by decide),
  fun d L x h => fk_r_ret dX12_factOf_105 (Or.inl rfl),
  fun d L st h => fk_w_iconst dX12_factOf_106 (by decide),
  fun d L x h => fk_r_ret dX12_factOf_107 (Or.inl rfl),
  fun d L st h => fk_w_iconst dX12_factOf_108 (by decide),
  fun d L x h => fk_r_ret dX12_factOf_109 (Or.inl rfl),
  fun d L st h => fk_w_iconst dX12_factOf_110 (by decide),
  fun d L x h => fk_r_ret dX12_factOf_111 (Or.inl rfl),
  fun d L st h => fk_w_bipush dX12_factOf_112 (by decide),
  fun d L x h => fk_r_ret dX12_factOf_114 (Or.inl rfl),
  fun d L st h => fk_w_bipush dX12_factOf_115 (by decide),
  fun d L x h => fk_r_ret dX12_factOf_117 (Or.inl rfl),
  fun d L st h => fk_w_bipush dX12_factOf_118 (by decide),
  fun d L x h => fk_r_ret dX12_factOf_120 (Or.inl rfl),
  fun d L st h => fk_w_bipush dX12_factOf_121 (by decide),
  fun d L x h => fk_r_ret dX12_factOf_123 (Or.inl rfl),
  fun d L st h => fk_w_bipush dX12_factOf_124 (by decide),
  fun d L x h => fk_r_ret dX12_factOf_126 (Or.inl rfl),
  fun d L st h => fk_w_bipush dX12_factOf_127 (by decide),
  fun d L x h => fk_r_ret dX12_factOf_129 (Or.inl rfl),
  fun d L st h => fk_w_bipush dX12_factOf_130 (by decide),
  fun d L x h => fk_r_ret dX12_factOf_132 (Or.inl rfl),
  fun d L st h => fk_w_bipush dX12_factOf_133 (by decide),
  fun d L x h => fk_r_ret dX12_factOf_135 (Or.inl rfl),
  fun d L st h => fk_w_iconst dX12_factOf_136 (by decide),
  fun d L x h => fk_r_ret dX12_factOf_137 (Or.inl rfl)⟩
theorem dX12_sumSign_0 : decode cX12_sumSign 0 = .ok (.iload_n 0, 1) := by decide +kernel
theorem dX12_sumSign_1 : decode cX12_sumSign 1 = .ok (.bipush 43, 2) := by decide +kernel
theorem dX12_sumSign_3 : decode cX12_sumSign 3 = .ok (.if_icmp .ne 7, 3) := by decide +kernel
theorem dX12_sumSign_6 : decode cX12_sumSign 6 = .ok (.iconst 2, 1) := by decide +kernel
theorem dX12_sumSign_7 : decode cX12_sumSign 7 = .ok (.goto 45, 3) := by decide +kernel
theorem dX12_sumSign_10 : decode cX12_sumSign 10 = .ok (.iload_n 0, 1) := by decide +kernel
theorem dX12_sumSign_11 : decode cX12_sumSign 11 = .ok (.bipush 45, 2) := by decide +kernel
theorem dX12_sumSign_13 : decode cX12_sumSign 13 = .ok (.if_icmp .ne 7, 3) := by decide +kernel
theorem dX12_sumSign_16 : decode cX12_sumSign 16 = .ok (.iconst 3, 1) := by decide +kernel
theorem dX12_sumSign_17 : decode cX12_sumSign 17 = .ok (.goto 35, 3) := by decide +kernel
theorem dX12_sumSign_20 : decode cX12_sumSign 20 = .ok (.iload_n 0, 1) := by decide +kernel
theorem dX12_sumSign_21 : decode cX12_sumSign 21 = .ok (.bipush 42, 2) := by decide +kernel
theorem dX12_sumSign_23 : decode cX12_sumSign 23 = .ok (.if_icmp .ne 7, 3) := by decide +kernel
theorem dX12_sumSign_26 : decode cX12_sumSign 26 = .ok (.iconst 4, 1) := by decide +kernel
theorem dX12_sumSign_27 : decode cX12_sumSign 27 = .ok (.goto 25, 3) := by decide +kernel
theorem dX12_sumSign_30 : decode cX12_sumSign 30 = .ok (.iload_n 0, 1) := by decide +kernel
theorem dX12_sumSign_31 : decode cX12_sumSign 31 = .ok (.bipush 47, 2) := by decide +kernel
theorem dX12_sumSign_33 : decode cX12_sumSign 33 = .ok (.if_icmp .ne 7, 3) := by decide +kernel
theorem dX12_sumSign_36 : decode cX12_sumSign 36 = .ok (.iconst 5, 1) := by decide +kernel
theorem dX12_sumSign_37 : decode cX12_sumSign 37 = .ok (.goto 15, 3) := by decide +kernel
theorem dX12_sumSign_40 : decode cX12_sumSign 40 = .ok (.iload_n 0, 1) := by decide +kernel
theorem dX12_sumSign_41 : decode cX12_sumSign 41 = .ok (.bipush 37, 2) := by decide +kernel
theorem dX12_sumSign_43 : decode cX12_sumSign 43 = .ok (.if_icmp .ne 8, 3) := by decide +kernel
theorem dX12_sumSign_46 : decode cX12_sumSign 46 = .ok (.bipush 6, 2) := by decide +kernel
theorem dX12_sumSign_48 : decode cX12_sumSign 48 = .ok (.goto 4, 3) := by decide +kernel
theorem dX12_sumSign_51 : decode cX12_sumSign 51 = .ok (.iconst (-1), 1) := by decide +kernel
theorem dX12_sumSign_52 : decode cX12_sumSign 52 = .ok (.ireturn, 1) := by decide +kernel
theorem rX12_sumSign : (∀ (d : Nat) (x : Int32) (st : List Value) (h : fk_H), fk_ev d qX12_sumSign 0 [.int x] st h = fk_ev d qX12_sumSign 1 [.int x] (.int x :: st) h) ∧
  (∀ (d : Nat) (L st : List Value) (h : fk_H), fk_ev d qX12_sumSign 1 L st h = fk_ev d qX12_sumSign 3 L (.int (nI 43) :: st) h) ∧
  (∀ (d : Nat) (L : List Value) (x y : Int32) (st : List Value) (h : fk_H), fk_ev d qX12_sumSign 3 L (.int y :: .int x :: st) h = if ¬ x = y then fk_ev d qX12_sumSign 10 L st h else fk_ev d qX12_sumSign 6 L st h) ∧
  (∀ (d : Nat) (L st : List Value) (h : fk_H), fk_ev d qX12_sumSign 6 L st h = fk_ev d qX12_sumSign 7 L (.int (nI 2) :: st) h) ∧
  (∀ (d : Nat) (L st : List Value) (h : fk_H), fk_ev d qX12_sumSign 7 L st h = fk_ev d qX12_sumSign 52 L st h) ∧
  (∀ (d : Nat) (x : Int32) (st : List Value) (h : fk_H), fk_ev d qX12_sumSign 10 [.int x] st h = fk_ev d qX12_sumSign 11 [.int x] (.int x :: st) h) ∧
  (∀ (d : Nat) (L st : List Value) (h : fk_H), fk_ev d qX12_sumSign 11 L st h = fk_ev d qX12_sumSign 13 L (.int (nI 45) :: st) h) ∧
  (∀ (d : Nat) (L : List Value) (x y : Int32) (st : List Value) (h : fk_H), fk_ev d qX12_sumSign 13 L (.int y :: .int x :: st) h = if ¬ x = y then fk_ev d qX12_sumSign 20 L st h else fk_ev d qX12_sumSign 16 L st h) ∧
  (∀ (d : Nat) (L st : List Value) (h : fk_H), fk_ev d qX12_sumSign 16 L st h = fk_ev d qX12_sumSign 17 L (.int (nI 3) :: st) h) ∧
  (∀ (d : Nat) (L st : List Value) (h : fk_H), fk_ev d qX12_sumSign 17 L st h = fk_ev d qX12_sumSign 52 L st h) ∧
  (∀ (d : Nat) (x : Int32) (st : List Value) (h : fk_H), fk_ev d qX12_sumSign 20 [.int x] st h = fk_ev d qX12_sumSign 21 [.int x] (.int x :: st) h) ∧
  (∀ (d : Nat) (L st : List Value) (h : fk_H), fk_ev d qX12_sumSign 21 L st h = fk_ev d qX12_sumSign 23 L (.int (nI 42) :: st) h) ∧
  (∀ (d : Nat) (L : List Value) (x y : Int32) (st : List Value) (h : fk_H), fk_ev d qX12_sumSign 23 L (.int y :: .int x :: st) h = if ¬ x = y then fk_ev d qX12_sumSign 30 L st h else fk_ev d qX12_sumSign 26 L st h) ∧
  (∀ (d : Nat) (L st : List Value) (h : fk_H), fk_ev d qX12_sumSign 26 L st h = fk_ev d qX12_sumSign 27 L (.int (nI 4) :: st) h) ∧
  (∀ (d : Nat) (L st : List Value) (h : fk_H), fk_ev d qX12_sumSign 27 L st h = fk_ev d qX12_sumSign 52 L st h) ∧
  (∀ (d : Nat) (x : Int32) (st : List Value) (h : fk_H), fk_ev d qX12_sumSign 30 [.int x] st h = fk_ev d qX12_sumSign 31 [.int x] (.int x :: st) h) ∧
  (∀ (d : Nat) (L st : List Value) (h : fk_H), fk_ev d qX12_sumSign 31 L st h = fk_ev d qX12_sumSign 33 L (.int (nI 47) :: st) h) ∧
  (∀ (d : Nat) (L : List Value) (x y : Int32) (st : List Value) (h : fk_H), fk_ev d qX12_sumSign 33 L (.int y :: .int x :: st) h = if ¬ x = y then fk_ev d qX12_sumSign 40 L st h else fk_ev d qX12_sumSign 36 L st h) ∧
  (∀ (d : Nat) (L st : List Value) (h : fk_H), fk_ev d qX12_sumSign 36 L st h = fk_ev d qX12_sumSign 37 L (.int (nI 5) :: st) h) ∧
  (∀ (d : Nat) (L st : List Value) (h : fk_H), fk_ev d qX12_sumSign 37 L st h = fk_ev d qX12_sumSign 52 L st h) ∧
  (∀ (d : Nat) (x : Int32) (st : List Value) (h : fk_H), fk_ev d qX12_sumSign 40 [.int x] st h = fk_ev d qX12_sumSign 41 [.int x] (.int x :: st) h) ∧
  (∀ (d : Nat) (L st : List Value) (h : fk_H), fk_ev d qX12_sumSign 41 L st h = fk_ev d qX12_sumSign 43 L (.int (nI 37) :: st) h) ∧
  (∀ (d : Nat) (L : List Value) (x y : Int32) (st : List Value) (h : fk_H), fk_ev d qX12_sumSign 43 L (.int y :: .int x :: st) h = if ¬ x = y then fk_ev d qX12_sumSign 51 L st h else fk_ev d qX12_sumSign 46 L st h) ∧
  (∀ (d : Nat) (L st : List Value) (h : fk_H), fk_ev d qX12_sumSign 46 L st h = fk_ev d qX12_sumSign 48 L (.int (nI 6) :: st) h) ∧
  (∀ (d : Nat) (L st : List Value) (h : fk_H), fk_ev d qX12_sumSign 48 L st h = fk_ev d qX12_sumSign 52 L st h) ∧
  (∀ (d : Nat) (L st : List Value) (h : fk_H), fk_ev d qX12_sumSign 51 L st h = fk_ev d qX12_sumSign 52 L (.int ((-1 : Int32)) :: st) h) ∧
  (∀ (d : Nat) (L : List Value) (x : Int32) (h : fk_H), fk_ev d qX12_sumSign 52 L [.int x] h = some (some (.int x), h)) := ⟨fun d  x st h => fk_w_iloadn 0 [.int x] dX12_sumSign_0 rfl,
  fun d L st h => fk_w_bipush dX12_sumSign_1 (by decide),
  fun d L x y st h => fk_r_icmp_ne dX12_sumSign_3 (by decide),
  fun d L st h => fk_w_iconst dX12_sumSign_6 (by decide),
  fun d L st h => fk_r_goto dX12_sumSign_7 (by decide),
  fun d  x st h => fk_w_iloadn 0 [.int x] dX12_sumSign_10 rfl,
  fun d L st h => fk_w_bipush dX12_sumSign_11 (by decide),
  fun d L x y st h => fk_r_icmp_ne dX12_sumSign_13 (by decide),
  fun d L st h => fk_w_iconst dX12_sumSign_16 (by decide),
  fun d L st h => fk_r_goto dX12_sumSign_17 (by decide),
  fun d  x st h => fk_w_iloadn 0 [.int x] dX12_sumSign_20 rfl,
  fun d L st h => fk_w_bipush dX12_sumSign_21 (by decide),
  fun d L x y st h => fk_r_icmp_ne dX12_sumSign_23 (by decide),
  fun d L st h => fk_w_iconst dX12_sumSign_26 (by decide),
  fun d L st h => fk_r_goto dX12_sumSign_27 (by decide),
  fun d  x st h => fk_w_iloadn 0 [.int x] dX12_sumSign_30 rfl,
  fun d L st h => fk_w_bipush dX12_sumSign_31 (by decide),
  fun d L x y st h => fk_r_icmp_ne dX12_sumSign_33 (by decide),
  fun d L st h => fk_w_iconst dX12_sumSign_36 (by decide),
  fun d L st h => fk_r_goto dX12_sumSign_37 (by decide),
  fun d  x st h => fk_w_iloadn 0 [.int x] dX12_sumSign_40 rfl,
  fun d L st h => fk_w_bipush dX12_sumSign_41 (by decide),
  fun d L x y st h => fk_r_icmp_ne dX12_sumSign_43 (by decide),
  fun d L st h => fk_w_bipush dX12_sumSign_46 (by decide),
  fun d L st h => fk_r_goto dX12_sumSign_48 (by decide),
  fun d L st h => fk_w_iconst dX12_sumSign_51 (by decide),
  fun d L x h => fk_r_ret dX12_sumSign_52 (Or.inl rfl)⟩
theorem dX12_closesSums_0 : decode cX12_closesSums 0 = .ok (.aload_n 0, 1) := by decide +kernel
theorem dX12_closesSums_1 : decode cX12_closesSums 1 = .ok (.invokevirtual 188, 3) := by decide +kernel
theorem dX12_closesSums_4 : decode cX12_closesSums 4 = .ok (.iconst 4, 1) := by decide +kernel
theorem dX12_closesSums_5 : decode cX12_closesSums 5 = .ok (.if_icmp .lt 12, 3) := by decide +kernel
theorem dX12_closesSums_8 : decode cX12_closesSums 8 = .ok (.aload_n 0, 1) := by decide +kernel
theorem dX12_closesSums_9 : decode cX12_closesSums 9 = .ok (.invokevirtual 188, 3) := by decide +kernel
theorem dX12_closesSums_12 : decode cX12_closesSums 12 = .ok (.bipush 6, 2) := by decide +kernel
theorem dX12_closesSums_14 : decode cX12_closesSums 14 = .ok (.if_icmp .le 23, 3) := by decide +kernel
theorem dX12_closesSums_17 : decode cX12_closesSums 17 = .ok (.iload_n 1, 1) := by decide +kernel
theorem dX12_closesSums_18 : decode cX12_closesSums 18 = .ok (.ifCond .eq 41, 3) := by decide +kernel
theorem dX12_closesSums_21 : decode cX12_closesSums 21 = .ok (.aload_n 0, 1) := by decide +kernel
theorem dX12_closesSums_22 : decode cX12_closesSums 22 = .ok (.invokevirtual 188, 3) := by decide +kernel
theorem dX12_closesSums_25 : decode cX12_closesSums 25 = .ok (.iconst 2, 1) := by decide +kernel
theorem dX12_closesSums_26 : decode cX12_closesSums 26 = .ok (.if_icmp .eq 11, 3) := by decide +kernel
theorem dX12_closesSums_29 : decode cX12_closesSums 29 = .ok (.aload_n 0, 1) := by decide +kernel
theorem dX12_closesSums_30 : decode cX12_closesSums 30 = .ok (.invokevirtual 188, 3) := by decide +kernel
theorem dX12_closesSums_33 : decode cX12_closesSums 33 = .ok (.iconst 3, 1) := by decide +kernel
theorem dX12_closesSums_34 : decode cX12_closesSums 34 = .ok (.if_icmp .ne 25, 3) := by decide +kernel
theorem dX12_closesSums_37 : decode cX12_closesSums 37 = .ok (.aload_n 0, 1) := by decide +kernel
theorem dX12_closesSums_38 : decode cX12_closesSums 38 = .ok (.aload_n 0, 1) := by decide +kernel
theorem dX12_closesSums_39 : decode cX12_closesSums 39 = .ok (.invokevirtual 188, 3) := by decide +kernel
theorem dX12_closesSums_42 : decode cX12_closesSums 42 = .ok (.iconst 0, 1) := by decide +kernel
theorem dX12_closesSums_43 : decode cX12_closesSums 43 = .ok (.invokevirtual 191, 3) := by decide +kernel
theorem dX12_closesSums_46 : decode cX12_closesSums 46 = .ok (.aload_n 0, 1) := by decide +kernel
theorem dX12_closesSums_47 : decode cX12_closesSums 47 = .ok (.aload_n 0, 1) := by decide +kernel
theorem dX12_closesSums_48 : decode cX12_closesSums 48 = .ok (.getfield 185, 3) := by decide +kernel
theorem dX12_closesSums_51 : decode cX12_closesSums 51 = .ok (.iconst 1, 1) := by decide +kernel
theorem dX12_closesSums_52 : decode cX12_closesSums 52 = .ok (.isub, 1) := by decide +kernel
theorem dX12_closesSums_53 : decode cX12_closesSums 53 = .ok (.putfield 185, 3) := by decide +kernel
theorem dX12_closesSums_56 : decode cX12_closesSums 56 = .ok (.goto (-56), 3) := by decide +kernel
theorem dX12_closesSums_59 : decode cX12_closesSums 59 = .ok (.return_, 1) := by decide +kernel
theorem rX12_closesSums : (∀ (d : Nat) (L : List Value)   (N : Nat) (y : Nat → Nat → Int32) (l : Nat → Nat → Int64), fk_ev (d + 1) qX12_closesSums 1 L (.ref 246 :: []) (fk_E N y l) = (fk_ev d qX12_waitTop 0 [.ref 246] [] (fk_E N y l)).bind fun o => fk_ev (d + 1) qX12_closesSums 4 L (o.1.toList ++ []) o.2) ∧
  (∀ (d : Nat) (L st : List Value) (h : fk_H), fk_ev d qX12_closesSums 4 L st h = fk_ev d qX12_closesSums 5 L (.int (nI 4) :: st) h) ∧
  (∀ (d : Nat) (L : List Value) (x y : Int32) (st : List Value) (h : fk_H), fk_ev d qX12_closesSums 5 L (.int y :: .int x :: st) h = if x < y then fk_ev d qX12_closesSums 17 L st h else fk_ev d qX12_closesSums 8 L st h) ∧
  (∀ (d : Nat) (a1 : Value) (x : Nat) (st : List Value) (h : fk_H), fk_ev d qX12_closesSums 8 [.ref x, a1] st h = fk_ev d qX12_closesSums 9 [.ref x, a1] (.ref x :: st) h) ∧
  (∀ (d : Nat) (L : List Value)   (N : Nat) (y : Nat → Nat → Int32) (l : Nat → Nat → Int64), fk_ev (d + 1) qX12_closesSums 9 L (.ref 246 :: []) (fk_E N y l) = (fk_ev d qX12_waitTop 0 [.ref 246] [] (fk_E N y l)).bind fun o => fk_ev (d + 1) qX12_closesSums 12 L (o.1.toList ++ []) o.2) ∧
  (∀ (d : Nat) (L st : List Value) (h : fk_H), fk_ev d qX12_closesSums 12 L st h = fk_ev d qX12_closesSums 14 L (.int (nI 6) :: st) h) ∧
  (∀ (d : Nat) (L : List Value) (x y : Int32) (st : List Value) (h : fk_H), fk_ev d qX12_closesSums 14 L (.int y :: .int x :: st) h = if x ≤ y then fk_ev d qX12_closesSums 37 L st h else fk_ev d qX12_closesSums 17 L st h) ∧
  (∀ (d : Nat) (a0 : Value) (x : Int32) (st : List Value) (h : fk_H), fk_ev d qX12_closesSums 17 [a0, .int x] st h = fk_ev d qX12_closesSums 18 [a0, .int x] (.int x :: st) h) ∧
  (∀ (d : Nat) (L : List Value) (x : Int32) (st : List Value) (h : fk_H), fk_ev d qX12_closesSums 18 L (.int x :: st) h = if x = nI 0 then fk_ev d qX12_closesSums 59 L st h else fk_ev d qX12_closesSums 21 L st h) ∧
  (∀ (d : Nat) (a1 : Value) (x : Nat) (st : List Value) (h : fk_H), fk_ev d qX12_closesSums 21 [.ref x, a1] st h = fk_ev d qX12_closesSums 22 [.ref x, a1] (.ref x :: st) h) ∧
  (∀ (d : Nat) (L : List Value)   (N : Nat) (y : Nat → Nat → Int32) (l : Nat → Nat → Int64), fk_ev (d + 1) qX12_closesSums 22 L (.ref 246 :: []) (fk_E N y l) = (fk_ev d qX12_waitTop 0 [.ref 246] [] (fk_E N y l)).bind fun o => fk_ev (d + 1) qX12_closesSums 25 L (o.1.toList ++ []) o.2) ∧
  (∀ (d : Nat) (L st : List Value) (h : fk_H), fk_ev d qX12_closesSums 25 L st h = fk_ev d qX12_closesSums 26 L (.int (nI 2) :: st) h) ∧
  (∀ (d : Nat) (L : List Value) (x y : Int32) (st : List Value) (h : fk_H), fk_ev d qX12_closesSums 26 L (.int y :: .int x :: st) h = if x = y then fk_ev d qX12_closesSums 37 L st h else fk_ev d qX12_closesSums 29 L st h) ∧
  (∀ (d : Nat) (a1 : Value) (x : Nat) (st : List Value) (h : fk_H), fk_ev d qX12_closesSums 29 [.ref x, a1] st h = fk_ev d qX12_closesSums 30 [.ref x, a1] (.ref x :: st) h) ∧
  (∀ (d : Nat) (L : List Value)   (N : Nat) (y : Nat → Nat → Int32) (l : Nat → Nat → Int64), fk_ev (d + 1) qX12_closesSums 30 L (.ref 246 :: []) (fk_E N y l) = (fk_ev d qX12_waitTop 0 [.ref 246] [] (fk_E N y l)).bind fun o => fk_ev (d + 1) qX12_closesSums 33 L (o.1.toList ++ []) o.2) ∧
  (∀ (d : Nat) (L st : List Value) (h : fk_H), fk_ev d qX12_closesSums 33 L st h = fk_ev d qX12_closesSums 34 L (.int (nI 3) :: st) h) ∧
  (∀ (d : Nat) (L : List Value) (x y : Int32) (st : List Value) (h : fk_H), fk_ev d qX12_closesSums 34 L (.int y :: .int x :: st) h = if ¬ x = y then fk_ev d qX12_closesSums 59 L st h else fk_ev d qX12_closesSums 37 L st h) ∧
  (∀ (d : Nat) (a1 : Value) (x : Nat) (st : List Value) (h : fk_H), fk_ev d qX12_closesSums 37 [.ref x, a1] st h = fk_ev d qX12_closesSums 38 [.ref x, a1] (.ref x :: st) h) ∧
  (∀ (d : Nat) (a1 : Value) (x : Nat) (st : List Value) (h : fk_H), fk_ev d qX12_closesSums 38 [.ref x, a1] st h = fk_ev d qX12_closesSums 39 [.ref x, a1] (.ref x :: st) h) ∧
  (∀ (d : Nat) (L : List Value)  (w0 : Value) (N : Nat) (y : Nat → Nat → Int32) (l : Nat → Nat → Int64), fk_ev (d + 1) qX12_closesSums 39 L (.ref 246 :: [w0]) (fk_E N y l) = (fk_ev d qX12_waitTop 0 [.ref 246] [] (fk_E N y l)).bind fun o => fk_ev (d + 1) qX12_closesSums 42 L (o.1.toList ++ [w0]) o.2) ∧
  (∀ (d : Nat) (L st : List Value) (h : fk_H), fk_ev d qX12_closesSums 42 L st h = fk_ev d qX12_closesSums 43 L (.int (nI 0) :: st) h) ∧
  (∀ (d : Nat) (L : List Value) (x0 : Int32) (x1 : Int32)  (N : Nat) (y : Nat → Nat → Int32) (l : Nat → Nat → Int64), fk_ev (d + 1) qX12_closesSums 43 L (.int x1 :: .int x0 :: .ref 246 :: []) (fk_E N y l) = (fk_ev d qX12_notes 0 [.ref 246, .int x0, .int x1] [] (fk_E N y l)).bind fun o => fk_ev (d + 1) qX12_closesSums 46 L (o.1.toList ++ []) o.2) ∧
  (∀ (d : Nat) (a1 : Value) (x : Nat) (st : List Value) (h : fk_H), fk_ev d qX12_closesSums 46 [.ref x, a1] st h = fk_ev d qX12_closesSums 47 [.ref x, a1] (.ref x :: st) h) ∧
  (∀ (d : Nat) (a1 : Value) (x : Nat) (st : List Value) (h : fk_H), fk_ev d qX12_closesSums 47 [.ref x, a1] st h = fk_ev d qX12_closesSums 48 [.ref x, a1] (.ref x :: st) h) ∧
  (∀ (d : Nat) (L st : List Value) (N : Nat) (y : Nat → Nat → Int32) (l : Nat → Nat → Int64), fk_ev d qX12_closesSums 48 L (.ref 246 :: st) (fk_E N y l) = fk_ev d qX12_closesSums 51 L (.int (y 246 17) :: st) (fk_E N y l)) ∧
  (∀ (d : Nat) (L st : List Value) (h : fk_H), fk_ev d qX12_closesSums 51 L st h = fk_ev d qX12_closesSums 52 L (.int (nI 1) :: st) h) ∧
  (∀ (d : Nat) (L : List Value) (x y : Int32) (st : List Value) (h : fk_H), fk_ev d qX12_closesSums 52 L (.int y :: .int x :: st) h = fk_ev d qX12_closesSums 53 L (.int (x - y) :: st) h) ∧
  (∀ (d : Nat) (L st : List Value) (N : Nat) (y : Nat → Nat → Int32) (l : Nat → Nat → Int64) (v : Int32), fk_ev d qX12_closesSums 53 L (.int v :: .ref 246 :: st) (fk_E N y l) = fk_ev d qX12_closesSums 56 L st (fk_E N (fk_u y 246 17 v) l)) ∧
  (∀ (d : Nat) (L st : List Value) (h : fk_H), fk_ev d qX12_closesSums 56 L st h = fk_ev d qX12_closesSums 0 L st h) ∧
  (∀ (d : Nat) (L : List Value) (h : fk_H), fk_ev d qX12_closesSums 59 L [] h = some (none, h)) := ⟨fun d L  N y l  => fk_g_call [] [] rfl lm_12_188 dX12_closesSums_1 rfl ⟨rfl, by decide⟩ (by simp) fk_at_246,
  fun d L st h => fk_w_iconst dX12_closesSums_4 (by decide),
  fun d L x y st h => fk_r_icmp_lt dX12_closesSums_5 (by decide),
  fun d a1 x st h => fk_w_aloadn 0 [.ref x, a1] dX12_closesSums_8 rfl,
  fun d L  N y l  => fk_g_call [] [] rfl lm_12_188 dX12_closesSums_9 rfl ⟨rfl, by decide⟩ (by simp) fk_at_246,
  fun d L st h => fk_w_bipush dX12_closesSums_12 (by decide),
  fun d L x y st h => fk_r_icmp_le dX12_closesSums_14 (by decide),
  fun d a0 x st h => fk_w_iloadn 1 [a0, .int x] dX12_closesSums_17 rfl,
  fun d L x st h => fk_r_if_eq dX12_closesSums_18 (by decide),
  fun d a1 x st h => fk_w_aloadn 0 [.ref x, a1] dX12_closesSums_21 rfl,
  fun d L  N y l  => fk_g_call [] [] rfl lm_12_188 dX12_closesSums_22 rfl ⟨rfl, by decide⟩ (by simp) fk_at_246,
  fun d L st h => fk_w_iconst dX12_closesSums_25 (by decide),
  fun d L x y st h => fk_r_icmp_eq dX12_closesSums_26 (by decide),
  fun d a1 x st h => fk_w_aloadn 0 [.ref x, a1] dX12_closesSums_29 rfl,
  fun d L  N y l  => fk_g_call [] [] rfl lm_12_188 dX12_closesSums_30 rfl ⟨rfl, by decide⟩ (by simp) fk_at_246,
  fun d L st h => fk_w_iconst dX12_closesSums_33 (by decide),
  fun d L x y st h => fk_r_icmp_ne dX12_closesSums_34 (by decide),
  fun d a1 x st h => fk_w_aloadn 0 [.ref x, a1] dX12_closesSums_37 rfl,
  fun d a1 x st h => fk_w_aloadn 0 [.ref x, a1] dX12_closesSums_38 rfl,
  fun d L w0 N y l  => fk_g_call [] [w0] rfl lm_12_188 dX12_closesSums_39 rfl ⟨rfl, by decide⟩ (by simp) fk_at_246,
  fun d L st h => fk_w_iconst dX12_closesSums_42 (by decide),
  fun d L x0 x1 N y l  => fk_g_call [.int x0, .int x1] [] rfl lm_12_191 dX12_closesSums_43 rfl ⟨rfl, by decide⟩ (by simp) fk_at_246,
  fun d a1 x st h => fk_w_aloadn 0 [.ref x, a1] dX12_closesSums_46 rfl,
  fun d a1 x st h => fk_w_aloadn 0 [.ref x, a1] dX12_closesSums_47 rfl,
  fun d L st N y l => fk_g_getI rfl lf_12_185 (by decide) dX12_closesSums_48 fk_at_246,
  fun d L st h => fk_w_iconst dX12_closesSums_51 (by decide),
  fun d L x y st h => fk_r_isub dX12_closesSums_52,
  fun d L st N y l v => fk_g_putI rfl lf_12_185 (by decide) dX12_closesSums_53 rfl fk_at_246,
  fun d L st h => fk_r_goto dX12_closesSums_56 (by decide),
  fun d L h => fk_r_vret dX12_closesSums_59 rfl⟩
theorem hX12_closesSums_0 : ∀ (d : Nat) (a1 : Value) (x : Nat) (st : List Value) (h : fk_H), fk_ev d qX12_closesSums 0 [.ref x, a1] st h = fk_ev d qX12_closesSums 1 [.ref x, a1] (.ref x :: st) h := fun d a1 x st h => fk_w_aloadn 0 [.ref x, a1] dX12_closesSums_0 rfl
theorem dX12_readsFactor_0 : decode cX12_readsFactor 0 = .ok (.aload_n 0, 1) := by decide +kernel
theorem dX12_readsFactor_1 : decode cX12_readsFactor 1 = .ok (.invokevirtual 161, 3) := by decide +kernel
theorem dX12_readsFactor_4 : decode cX12_readsFactor 4 = .ok (.bipush 91, 2) := by decide +kernel
theorem dX12_readsFactor_6 : decode cX12_readsFactor 6 = .ok (.if_icmp .ne 14, 3) := by decide +kernel
theorem dX12_readsFactor_9 : decode cX12_readsFactor 9 = .ok (.aload_n 0, 1) := by decide +kernel
theorem dX12_readsFactor_10 : decode cX12_readsFactor 10 = .ok (.bipush 14, 2) := by decide +kernel
theorem dX12_readsFactor_12 : decode cX12_readsFactor 12 = .ok (.invokevirtual 195, 3) := by decide +kernel
theorem dX12_readsFactor_15 : decode cX12_readsFactor 15 = .ok (.ifCond .ne (-15), 3) := by decide +kernel
theorem dX12_readsFactor_18 : decode cX12_readsFactor 18 = .ok (.iconst 0, 1) := by decide +kernel
theorem dX12_readsFactor_19 : decode cX12_readsFactor 19 = .ok (.ireturn, 1) := by decide +kernel
theorem dX12_readsFactor_20 : decode cX12_readsFactor 20 = .ok (.aload_n 0, 1) := by decide +kernel
theorem dX12_readsFactor_21 : decode cX12_readsFactor 21 = .ok (.invokevirtual 174, 3) := by decide +kernel
theorem dX12_readsFactor_24 : decode cX12_readsFactor 24 = .ok (.ifCond .eq 23, 3) := by decide +kernel
theorem dX12_readsFactor_27 : decode cX12_readsFactor 27 = .ok (.aload_n 0, 1) := by decide +kernel
theorem dX12_readsFactor_28 : decode cX12_readsFactor 28 = .ok (.invokevirtual 198, 3) := by decide +kernel
theorem dX12_readsFactor_31 : decode cX12_readsFactor 31 = .ok (.ifCond .ne 5, 3) := by decide +kernel
theorem dX12_readsFactor_34 : decode cX12_readsFactor 34 = .ok (.iconst 0, 1) := by decide +kernel
theorem dX12_readsFactor_35 : decode cX12_readsFactor 35 = .ok (.ireturn, 1) := by decide +kernel
theorem dX12_readsFactor_36 : decode cX12_readsFactor 36 = .ok (.aload_n 0, 1) := by decide +kernel
theorem dX12_readsFactor_37 : decode cX12_readsFactor 37 = .ok (.iconst 0, 1) := by decide +kernel
theorem dX12_readsFactor_38 : decode cX12_readsFactor 38 = .ok (.aload_n 0, 1) := by decide +kernel
theorem dX12_readsFactor_39 : decode cX12_readsFactor 39 = .ok (.getfield 171, 3) := by decide +kernel
theorem dX12_readsFactor_42 : decode cX12_readsFactor 42 = .ok (.invokevirtual 191, 3) := by decide +kernel
theorem dX12_readsFactor_45 : decode cX12_readsFactor 45 = .ok (.iconst 1, 1) := by decide +kernel
theorem dX12_readsFactor_46 : decode cX12_readsFactor 46 = .ok (.ireturn, 1) := by decide +kernel
theorem dX12_readsFactor_47 : decode cX12_readsFactor 47 = .ok (.aload_n 0, 1) := by decide +kernel
theorem dX12_readsFactor_48 : decode cX12_readsFactor 48 = .ok (.invokevirtual 161, 3) := by decide +kernel
theorem dX12_readsFactor_51 : decode cX12_readsFactor 51 = .ok (.invokestatic 201, 3) := by decide +kernel
theorem dX12_readsFactor_54 : decode cX12_readsFactor 54 = .ok (.istore_n 1, 1) := by decide +kernel
theorem dX12_readsFactor_55 : decode cX12_readsFactor 55 = .ok (.iload_n 1, 1) := by decide +kernel
theorem dX12_readsFactor_56 : decode cX12_readsFactor 56 = .ok (.iconst (-1), 1) := by decide +kernel
theorem dX12_readsFactor_57 : decode cX12_readsFactor 57 = .ok (.if_icmp .ne 13, 3) := by decide +kernel
theorem dX12_readsFactor_60 : decode cX12_readsFactor 60 = .ok (.aload_n 0, 1) := by decide +kernel
theorem dX12_readsFactor_61 : decode cX12_readsFactor 61 = .ok (.iconst 1, 1) := by decide +kernel
theorem dX12_readsFactor_62 : decode cX12_readsFactor 62 = .ok (.aload_n 0, 1) := by decide +kernel
theorem dX12_readsFactor_63 : decode cX12_readsFactor 63 = .ok (.getfield 155, 3) := by decide +kernel
theorem dX12_readsFactor_66 : decode cX12_readsFactor 66 = .ok (.invokevirtual 168, 3) := by decide +kernel
theorem dX12_readsFactor_69 : decode cX12_readsFactor 69 = .ok (.ireturn, 1) := by decide +kernel
theorem dX12_readsFactor_70 : decode cX12_readsFactor 70 = .ok (.aload_n 0, 1) := by decide +kernel
theorem dX12_readsFactor_71 : decode cX12_readsFactor 71 = .ok (.iconst 1, 1) := by decide +kernel
theorem dX12_readsFactor_72 : decode cX12_readsFactor 72 = .ok (.iload_n 1, 1) := by decide +kernel
theorem dX12_readsFactor_73 : decode cX12_readsFactor 73 = .ok (.invokevirtual 191, 3) := by decide +kernel
theorem dX12_readsFactor_76 : decode cX12_readsFactor 76 = .ok (.aload_n 0, 1) := by decide +kernel
theorem dX12_readsFactor_77 : decode cX12_readsFactor 77 = .ok (.aload_n 0, 1) := by decide +kernel
theorem dX12_readsFactor_78 : decode cX12_readsFactor 78 = .ok (.getfield 155, 3) := by decide +kernel
theorem dX12_readsFactor_81 : decode cX12_readsFactor 81 = .ok (.iconst 1, 1) := by decide +kernel
theorem dX12_readsFactor_82 : decode cX12_readsFactor 82 = .ok (.iadd, 1) := by decide +kernel
theorem dX12_readsFactor_83 : decode cX12_readsFactor 83 = .ok (.putfield 155, 3) := by decide +kernel
theorem dX12_readsFactor_86 : decode cX12_readsFactor 86 = .ok (.iconst 1, 1) := by decide +kernel
theorem dX12_readsFactor_87 : decode cX12_readsFactor 87 = .ok (.ireturn, 1) := by decide +kernel
theorem rX12_readsFactor : (∀ (d : Nat) (L : List Value)   (N : Nat) (y : Nat → Nat → Int32) (l : Nat → Nat → Int64), fk_ev (d + 1) qX12_readsFactor 1 L (.ref 246 :: []) (fk_E N y l) = (fk_ev d qX12_here 0 [.ref 246] [] (fk_E N y l)).bind fun o => fk_ev (d + 1) qX12_readsFactor 4 L (o.1.toList ++ []) o.2) ∧
  (∀ (d : Nat) (L st : List Value) (h : fk_H), fk_ev d qX12_readsFactor 4 L st h = fk_ev d qX12_readsFactor 6 L (.int (nI 91) :: st) h) ∧
  (∀ (d : Nat) (L : List Value) (x y : Int32) (st : List Value) (h : fk_H), fk_ev d qX12_readsFactor 6 L (.int y :: .int x :: st) h = if ¬ x = y then fk_ev d qX12_readsFactor 20 L st h else fk_ev d qX12_readsFactor 9 L st h) ∧
  (∀ (d : Nat) (a1 : Value) (x : Nat) (st : List Value) (h : fk_H), fk_ev d qX12_readsFactor 9 [.ref x, a1] st h = fk_ev d qX12_readsFactor 10 [.ref x, a1] (.ref x :: st) h) ∧
  (∀ (d : Nat) (L st : List Value) (h : fk_H), fk_ev d qX12_readsFactor 10 L st h = fk_ev d qX12_readsFactor 12 L (.int (nI 14) :: st) h) ∧
  (∀ (d : Nat) (L : List Value) (x0 : Int32)  (N : Nat) (y : Nat → Nat → Int32) (l : Nat → Nat → Int64), fk_ev (d + 1) qX12_readsFactor 12 L (.int x0 :: .ref 246 :: []) (fk_E N y l) = (fk_ev d qX12_opens 0 [.ref 246, .int x0] [] (fk_E N y l)).bind fun o => fk_ev (d + 1) qX12_readsFactor 15 L (o.1.toList ++ []) o.2) ∧
  (∀ (d : Nat) (L : List Value) (x : Int32) (st : List Value) (h : fk_H), fk_ev d qX12_readsFactor 15 L (.int x :: st) h = if ¬ x = nI 0 then fk_ev d qX12_readsFactor 0 L st h else fk_ev d qX12_readsFactor 18 L st h) ∧
  (∀ (d : Nat) (L st : List Value) (h : fk_H), fk_ev d qX12_readsFactor 18 L st h = fk_ev d qX12_readsFactor 19 L (.int (nI 0) :: st) h) ∧
  (∀ (d : Nat) (L : List Value) (h : fk_H), fk_ev d qX12_readsFactor 19 L [.int (nI 0)] h = some (some (.int (nI 0)), h)) ∧
  (∀ (d : Nat) (L : List Value) (h : fk_H), fk_ev d qX12_readsFactor 19 L [.int (nI 1)] h = some (some (.int (nI 1)), h)) ∧
  (∀ (d : Nat) (L : List Value) (p : Prop) [Decidable p] (h : fk_H), fk_ev d qX12_readsFactor 19 L [.int (fk_b p)] h = some (some (.int (fk_b p)), h)) ∧
  (∀ (d : Nat) (L : List Value) (x : Int32) (h : fk_H), (x = nI 0 ∨ x = nI 1) → fk_ev d qX12_readsFactor 19 L [.int x] h = some (some (.int x), h)) ∧
  (∀ (d : Nat) (a1 : Value) (x : Nat) (st : List Value) (h : fk_H), fk_ev d qX12_readsFactor 20 [.ref x, a1] st h = fk_ev d qX12_readsFactor 21 [.ref x, a1] (.ref x :: st) h) ∧
  (∀ (d : Nat) (L : List Value)   (N : Nat) (y : Nat → Nat → Int32) (l : Nat → Nat → Int64), fk_ev (d + 1) qX12_readsFactor 21 L (.ref 246 :: []) (fk_E N y l) = (fk_ev d qX12_isDigit 0 [.ref 246] [] (fk_E N y l)).bind fun o => fk_ev (d + 1) qX12_readsFactor 24 L (o.1.toList ++ []) o.2) ∧
  (∀ (d : Nat) (L : List Value) (x : Int32) (st : List Value) (h : fk_H), fk_ev d qX12_readsFactor 24 L (.int x :: st) h = if x = nI 0 then fk_ev d qX12_readsFactor 47 L st h else fk_ev d qX12_readsFactor 27 L st h) ∧
  (∀ (d : Nat) (a1 : Value) (x : Nat) (st : List Value) (h : fk_H), fk_ev d qX12_readsFactor 27 [.ref x, a1] st h = fk_ev d qX12_readsFactor 28 [.ref x, a1] (.ref x :: st) h) ∧
  (∀ (d : Nat) (L : List Value)   (N : Nat) (y : Nat → Nat → Int32) (l : Nat → Nat → Int64), fk_ev (d + 1) qX12_readsFactor 28 L (.ref 246 :: []) (fk_E N y l) = (fk_ev d qX12_readsNumber 0 [.ref 246, .null] [] (fk_E N y l)).bind fun o => fk_ev (d + 1) qX12_readsFactor 31 L (o.1.toList ++ []) o.2) ∧
  (∀ (d : Nat) (L : List Value) (x : Int32) (st : List Value) (h : fk_H), fk_ev d qX12_readsFactor 31 L (.int x :: st) h = if ¬ x = nI 0 then fk_ev d qX12_readsFactor 36 L st h else fk_ev d qX12_readsFactor 34 L st h) ∧
  (∀ (d : Nat) (L st : List Value) (h : fk_H), fk_ev d qX12_readsFactor 34 L st h = fk_ev d qX12_readsFactor 35 L (.int (nI 0) :: st) h) ∧
  (∀ (d : Nat) (L : List Value) (h : fk_H), fk_ev d qX12_readsFactor 35 L [.int (nI 0)] h = some (some (.int (nI 0)), h)) ∧
  (∀ (d : Nat) (L : List Value) (h : fk_H), fk_ev d qX12_readsFactor 35 L [.int (nI 1)] h = some (some (.int (nI 1)), h)) ∧
  (∀ (d : Nat) (L : List Value) (p : Prop) [Decidable p] (h : fk_H), fk_ev d qX12_readsFactor 35 L [.int (fk_b p)] h = some (some (.int (fk_b p)), h)) ∧
  (∀ (d : Nat) (L : List Value) (x : Int32) (h : fk_H), (x = nI 0 ∨ x = nI 1) → fk_ev d qX12_readsFactor 35 L [.int x] h = some (some (.int x), h)) ∧
  (∀ (d : Nat) (a1 : Value) (x : Nat) (st : List Value) (h : fk_H), fk_ev d qX12_readsFactor 36 [.ref x, a1] st h = fk_ev d qX12_readsFactor 37 [.ref x, a1] (.ref x :: st) h) ∧
  (∀ (d : Nat) (L st : List Value) (h : fk_H), fk_ev d qX12_readsFactor 37 L st h = fk_ev d qX12_readsFactor 38 L (.int (nI 0) :: st) h) ∧
  (∀ (d : Nat) (a1 : Value) (x : Nat) (st : List Value) (h : fk_H), fk_ev d qX12_readsFactor 38 [.ref x, a1] st h = fk_ev d qX12_readsFactor 39 [.ref x, a1] (.ref x :: st) h) ∧
  (∀ (d : Nat) (L st : List Value) (N : Nat) (y : Nat → Nat → Int32) (l : Nat → Nat → Int64), fk_ev d qX12_readsFactor 39 L (.ref 246 :: st) (fk_E N y l) = fk_ev d qX12_readsFactor 42 L (.int (y 246 14) :: st) (fk_E N y l)) ∧
  (∀ (d : Nat) (L : List Value) (x0 : Int32) (x1 : Int32)  (N : Nat) (y : Nat → Nat → Int32) (l : Nat → Nat → Int64), fk_ev (d + 1) qX12_readsFactor 42 L (.int x1 :: .int x0 :: .ref 246 :: []) (fk_E N y l) = (fk_ev d qX12_notes 0 [.ref 246, .int x0, .int x1] [] (fk_E N y l)).bind fun o => fk_ev (d + 1) qX12_readsFactor 45 L (o.1.toList ++ []) o.2) ∧
  (∀ (d : Nat) (L st : List Value) (h : fk_H), fk_ev d qX12_readsFactor 45 L st h = fk_ev d qX12_readsFactor 46 L (.int (nI 1) :: st) h) ∧
  (∀ (d : Nat) (L : List Value) (h : fk_H), fk_ev d qX12_readsFactor 46 L [.int (nI 0)] h = some (some (.int (nI 0)), h)) ∧
  (∀ (d : Nat) (L : List Value) (h : fk_H), fk_ev d qX12_readsFactor 46 L [.int (nI 1)] h = some (some (.int (nI 1)), h)) ∧
  (∀ (d : Nat) (L : List Value) (p : Prop) [Decidable p] (h : fk_H), fk_ev d qX12_readsFactor 46 L [.int (fk_b p)] h = some (some (.int (fk_b p)), h)) ∧
  (∀ (d : Nat) (L : List Value) (x : Int32) (h : fk_H), (x = nI 0 ∨ x = nI 1) → fk_ev d qX12_readsFactor 46 L [.int x] h = some (some (.int x), h)) ∧
  (∀ (d : Nat) (a1 : Value) (x : Nat) (st : List Value) (h : fk_H), fk_ev d qX12_readsFactor 47 [.ref x, a1] st h = fk_ev d qX12_readsFactor 48 [.ref x, a1] (.ref x :: st) h) ∧
  (∀ (d : Nat) (L : List Value)   (N : Nat) (y : Nat → Nat → Int32) (l : Nat → Nat → Int64), fk_ev (d + 1) qX12_readsFactor 48 L (.ref 246 :: []) (fk_E N y l) = (fk_ev d qX12_here 0 [.ref 246] [] (fk_E N y l)).bind fun o => fk_ev (d + 1) qX12_readsFactor 51 L (o.1.toList ++ []) o.2) ∧
  (∀ (d : Nat) (L : List Value) (x0 : Int32)  (h : fk_H), fk_ev (d + 1) qX12_readsFactor 51 L (.int x0 :: []) h = (fk_ev d qX12_factOf 0 [.int x0] [] h).bind fun o => fk_ev (d + 1) qX12_readsFactor 54 L (o.1.toList ++ []) o.2) ∧
  (∀ (d : Nat) (a0 a1 : Value) (x : Int32) (st : List Value) (h : fk_H), fk_ev d qX12_readsFactor 54 [a0, a1] (.int x :: st) h = fk_ev d qX12_readsFactor 55 [a0, .int x] st h) ∧
  (∀ (d : Nat) (a0 : Value) (x : Int32) (st : List Value) (h : fk_H), fk_ev d qX12_readsFactor 55 [a0, .int x] st h = fk_ev d qX12_readsFactor 56 [a0, .int x] (.int x :: st) h) ∧
  (∀ (d : Nat) (L st : List Value) (h : fk_H), fk_ev d qX12_readsFactor 56 L st h = fk_ev d qX12_readsFactor 57 L (.int ((-1 : Int32)) :: st) h) ∧
  (∀ (d : Nat) (L : List Value) (x y : Int32) (st : List Value) (h : fk_H), fk_ev d qX12_readsFactor 57 L (.int y :: .int x :: st) h = if ¬ x = y then fk_ev d qX12_readsFactor 70 L st h else fk_ev d qX12_readsFactor 60 L st h) ∧
  (∀ (d : Nat) (a1 : Value) (x : Nat) (st : List Value) (h : fk_H), fk_ev d qX12_readsFactor 60 [.ref x, a1] st h = fk_ev d qX12_readsFactor 61 [.ref x, a1] (.ref x :: st) h) ∧
  (∀ (d : Nat) (L st : List Value) (h : fk_H), fk_ev d qX12_readsFactor 61 L st h = fk_ev d qX12_readsFactor 62 L (.int (nI 1) :: st) h) ∧
  (∀ (d : Nat) (a1 : Value) (x : Nat) (st : List Value) (h : fk_H), fk_ev d qX12_readsFactor 62 [.ref x, a1] st h = fk_ev d qX12_readsFactor 63 [.ref x, a1] (.ref x :: st) h) ∧
  (∀ (d : Nat) (L st : List Value) (N : Nat) (y : Nat → Nat → Int32) (l : Nat → Nat → Int64), fk_ev d qX12_readsFactor 63 L (.ref 246 :: st) (fk_E N y l) = fk_ev d qX12_readsFactor 66 L (.int (y 246 11) :: st) (fk_E N y l)) ∧
  (∀ (d : Nat) (L : List Value) (x0 : Int32) (x1 : Int32)  (N : Nat) (y : Nat → Nat → Int32) (l : Nat → Nat → Int64), fk_ev (d + 1) qX12_readsFactor 66 L (.int x1 :: .int x0 :: .ref 246 :: []) (fk_E N y l) = (fk_ev d qX12_wrongAt 0 [.ref 246, .int x0, .int x1] [] (fk_E N y l)).bind fun o => fk_ev (d + 1) qX12_readsFactor 69 L (o.1.toList ++ []) o.2) ∧
  (∀ (d : Nat) (L : List Value) (h : fk_H), fk_ev d qX12_readsFactor 69 L [.int (nI 0)] h = some (some (.int (nI 0)), h)) ∧
  (∀ (d : Nat) (L : List Value) (h : fk_H), fk_ev d qX12_readsFactor 69 L [.int (nI 1)] h = some (some (.int (nI 1)), h)) ∧
  (∀ (d : Nat) (L : List Value) (p : Prop) [Decidable p] (h : fk_H), fk_ev d qX12_readsFactor 69 L [.int (fk_b p)] h = some (some (.int (fk_b p)), h)) ∧
  (∀ (d : Nat) (L : List Value) (x : Int32) (h : fk_H), (x = nI 0 ∨ x = nI 1) → fk_ev d qX12_readsFactor 69 L [.int x] h = some (some (.int x), h)) ∧
  (∀ (d : Nat) (a1 : Value) (x : Nat) (st : List Value) (h : fk_H), fk_ev d qX12_readsFactor 70 [.ref x, a1] st h = fk_ev d qX12_readsFactor 71 [.ref x, a1] (.ref x :: st) h) ∧
  (∀ (d : Nat) (L st : List Value) (h : fk_H), fk_ev d qX12_readsFactor 71 L st h = fk_ev d qX12_readsFactor 72 L (.int (nI 1) :: st) h) ∧
  (∀ (d : Nat) (a0 : Value) (x : Int32) (st : List Value) (h : fk_H), fk_ev d qX12_readsFactor 72 [a0, .int x] st h = fk_ev d qX12_readsFactor 73 [a0, .int x] (.int x :: st) h) ∧
  (∀ (d : Nat) (L : List Value) (x0 : Int32) (x1 : Int32)  (N : Nat) (y : Nat → Nat → Int32) (l : Nat → Nat → Int64), fk_ev (d + 1) qX12_readsFactor 73 L (.int x1 :: .int x0 :: .ref 246 :: []) (fk_E N y l) = (fk_ev d qX12_notes 0 [.ref 246, .int x0, .int x1] [] (fk_E N y l)).bind fun o => fk_ev (d + 1) qX12_readsFactor 76 L (o.1.toList ++ []) o.2) ∧
  (∀ (d : Nat) (a1 : Value) (x : Nat) (st : List Value) (h : fk_H), fk_ev d qX12_readsFactor 76 [.ref x, a1] st h = fk_ev d qX12_readsFactor 77 [.ref x, a1] (.ref x :: st) h) ∧
  (∀ (d : Nat) (a1 : Value) (x : Nat) (st : List Value) (h : fk_H), fk_ev d qX12_readsFactor 77 [.ref x, a1] st h = fk_ev d qX12_readsFactor 78 [.ref x, a1] (.ref x :: st) h) ∧
  (∀ (d : Nat) (L st : List Value) (N : Nat) (y : Nat → Nat → Int32) (l : Nat → Nat → Int64), fk_ev d qX12_readsFactor 78 L (.ref 246 :: st) (fk_E N y l) = fk_ev d qX12_readsFactor 81 L (.int (y 246 11) :: st) (fk_E N y l)) ∧
  (∀ (d : Nat) (L st : List Value) (h : fk_H), fk_ev d qX12_readsFactor 81 L st h = fk_ev d qX12_readsFactor 82 L (.int (nI 1) :: st) h) ∧
  (∀ (d : Nat) (L : List Value) (x y : Int32) (st : List Value) (h : fk_H), fk_ev d qX12_readsFactor 82 L (.int y :: .int x :: st) h = fk_ev d qX12_readsFactor 83 L (.int (x + y) :: st) h) ∧
  (∀ (d : Nat) (L st : List Value) (N : Nat) (y : Nat → Nat → Int32) (l : Nat → Nat → Int64) (v : Int32), fk_ev d qX12_readsFactor 83 L (.int v :: .ref 246 :: st) (fk_E N y l) = fk_ev d qX12_readsFactor 86 L st (fk_E N (fk_u y 246 11 v) l)) ∧
  (∀ (d : Nat) (L st : List Value) (h : fk_H), fk_ev d qX12_readsFactor 86 L st h = fk_ev d qX12_readsFactor 87 L (.int (nI 1) :: st) h) ∧
  (∀ (d : Nat) (L : List Value) (h : fk_H), fk_ev d qX12_readsFactor 87 L [.int (nI 0)] h = some (some (.int (nI 0)), h)) ∧
  (∀ (d : Nat) (L : List Value) (h : fk_H), fk_ev d qX12_readsFactor 87 L [.int (nI 1)] h = some (some (.int (nI 1)), h)) ∧
  (∀ (d : Nat) (L : List Value) (p : Prop) [Decidable p] (h : fk_H), fk_ev d qX12_readsFactor 87 L [.int (fk_b p)] h = some (some (.int (fk_b p)), h)) ∧
  (∀ (d : Nat) (L : List Value) (x : Int32) (h : fk_H), (x = nI 0 ∨ x = nI 1) → fk_ev d qX12_readsFactor 87 L [.int x] h = some (some (.int x), h)) := ⟨fun d L  N y l  => fk_g_call [] [] rfl lm_12_161 dX12_readsFactor_1 rfl ⟨rfl, by decide⟩ (by simp) fk_at_246,
  fun d L st h => fk_w_bipush dX12_readsFactor_4 (by decide),
  fun d L x y st h => fk_r_icmp_ne dX12_readsFactor_6 (by decide),
  fun d a1 x st h => fk_w_aloadn 0 [.ref x, a1] dX12_readsFactor_9 rfl,
  fun d L st h => fk_w_bipush dX12_readsFactor_10 (by decide),
  fun d L x0 N y l  => fk_g_call [.int x0] [] rfl lm_12_195 dX12_readsFactor_12 rfl ⟨rfl, by decide⟩ (by simp) fk_at_246,
  fun d L x st h => fk_r_if_ne dX12_readsFactor_15 (by decide),
  fun d L st h => fk_w_iconst dX12_readsFactor_18 (by decide),
  fun d L h => fk_r_ret dX12_readsFactor_19 (Or.inr (Or.inl ⟨rfl, by decide⟩)),
  fun d L h => fk_r_ret dX12_readsFactor_19 (Or.inr (Or.inl ⟨rfl, by decide⟩)),
  fun d L p _ h => fk_r_ret dX12_readsFactor_19 (Or.inr (Or.inl ⟨rfl, fk_b_01⟩)),
  fun d L x h hx => fk_r_ret dX12_readsFactor_19 (Or.inr (Or.inl ⟨rfl, hx⟩)),
  fun d a1 x st h => fk_w_aloadn 0 [.ref x, a1] dX12_readsFactor_20 rfl,
  fun d L  N y l  => fk_g_call [] [] rfl lm_12_174 dX12_readsFactor_21 rfl ⟨rfl, by decide⟩ (by simp) fk_at_246,
  fun d L x st h => fk_r_if_eq dX12_readsFactor_24 (by decide),
  fun d a1 x st h => fk_w_aloadn 0 [.ref x, a1] dX12_readsFactor_27 rfl,
  fun d L  N y l  => fk_g_call [] [] rfl lm_12_198 dX12_readsFactor_28 rfl ⟨rfl, by decide⟩ (by simp) fk_at_246,
  fun d L x st h => fk_r_if_ne dX12_readsFactor_31 (by decide),
  fun d L st h => fk_w_iconst dX12_readsFactor_34 (by decide),
  fun d L h => fk_r_ret dX12_readsFactor_35 (Or.inr (Or.inl ⟨rfl, by decide⟩)),
  fun d L h => fk_r_ret dX12_readsFactor_35 (Or.inr (Or.inl ⟨rfl, by decide⟩)),
  fun d L p _ h => fk_r_ret dX12_readsFactor_35 (Or.inr (Or.inl ⟨rfl, fk_b_01⟩)),
  fun d L x h hx => fk_r_ret dX12_readsFactor_35 (Or.inr (Or.inl ⟨rfl, hx⟩)),
  fun d a1 x st h => fk_w_aloadn 0 [.ref x, a1] dX12_readsFactor_36 rfl,
  fun d L st h => fk_w_iconst dX12_readsFactor_37 (by decide),
  fun d a1 x st h => fk_w_aloadn 0 [.ref x, a1] dX12_readsFactor_38 rfl,
  fun d L st N y l => fk_g_getI rfl lf_12_171 (by decide) dX12_readsFactor_39 fk_at_246,
  fun d L x0 x1 N y l  => fk_g_call [.int x0, .int x1] [] rfl lm_12_191 dX12_readsFactor_42 rfl ⟨rfl, by decide⟩ (by simp) fk_at_246,
  fun d L st h => fk_w_iconst dX12_readsFactor_45 (by decide),
  fun d L h => fk_r_ret dX12_readsFactor_46 (Or.inr (Or.inl ⟨rfl, by decide⟩)),
  fun d L h => fk_r_ret dX12_readsFactor_46 (Or.inr (Or.inl ⟨rfl, by decide⟩)),
  fun d L p _ h => fk_r_ret dX12_readsFactor_46 (Or.inr (Or.inl ⟨rfl, fk_b_01⟩)),
  fun d L x h hx => fk_r_ret dX12_readsFactor_46 (Or.inr (Or.inl ⟨rfl, hx⟩)),
  fun d a1 x st h => fk_w_aloadn 0 [.ref x, a1] dX12_readsFactor_47 rfl,
  fun d L  N y l  => fk_g_call [] [] rfl lm_12_161 dX12_readsFactor_48 rfl ⟨rfl, by decide⟩ (by simp) fk_at_246,
  fun d L x0 h => fk_g_calls [.int x0] [] rfl lm_12_201 dX12_readsFactor_51 rfl ⟨rfl, by decide⟩ (by simp),
  fun d a0 a1 x st h => fk_w_istoren 1 2 [] [a0, a1] [a0, .int x] dX12_readsFactor_54 rfl rfl (by decide) rfl,
  fun d a0 x st h => fk_w_iloadn 1 [a0, .int x] dX12_readsFactor_55 rfl,
  fun d L st h => fk_w_iconst dX12_readsFactor_56 (by decide),
  fun d L x y st h => fk_r_icmp_ne dX12_readsFactor_57 (by decide),
  fun d a1 x st h => fk_w_aloadn 0 [.ref x, a1] dX12_readsFactor_60 rfl,
  fun d L st h => fk_w_iconst dX12_readsFactor_61 (by decide),
  fun d a1 x st h => fk_w_aloadn 0 [.ref x, a1] dX12_readsFactor_62 rfl,
  fun d L st N y l => fk_g_getI rfl lf_12_155 (by decide) dX12_readsFactor_63 fk_at_246,
  fun d L x0 x1 N y l  => fk_g_call [.int x0, .int x1] [] rfl lm_12_168 dX12_readsFactor_66 rfl ⟨rfl, by decide⟩ (by simp) fk_at_246,
  fun d L h => fk_r_ret dX12_readsFactor_69 (Or.inr (Or.inl ⟨rfl, by decide⟩)),
  fun d L h => fk_r_ret dX12_readsFactor_69 (Or.inr (Or.inl ⟨rfl, by decide⟩)),
  fun d L p _ h => fk_r_ret dX12_readsFactor_69 (Or.inr (Or.inl ⟨rfl, fk_b_01⟩)),
  fun d L x h hx => fk_r_ret dX12_readsFactor_69 (Or.inr (Or.inl ⟨rfl, hx⟩)),
  fun d a1 x st h => fk_w_aloadn 0 [.ref x, a1] dX12_readsFactor_70 rfl,
  fun d L st h => fk_w_iconst dX12_readsFactor_71 (by decide),
  fun d a0 x st h => fk_w_iloadn 1 [a0, .int x] dX12_readsFactor_72 rfl,
  fun d L x0 x1 N y l  => fk_g_call [.int x0, .int x1] [] rfl lm_12_191 dX12_readsFactor_73 rfl ⟨rfl, by decide⟩ (by simp) fk_at_246,
  fun d a1 x st h => fk_w_aloadn 0 [.ref x, a1] dX12_readsFactor_76 rfl,
  fun d a1 x st h => fk_w_aloadn 0 [.ref x, a1] dX12_readsFactor_77 rfl,
  fun d L st N y l => fk_g_getI rfl lf_12_155 (by decide) dX12_readsFactor_78 fk_at_246,
  fun d L st h => fk_w_iconst dX12_readsFactor_81 (by decide),
  fun d L x y st h => fk_r_iadd dX12_readsFactor_82,
  fun d L st N y l v => fk_g_putI rfl lf_12_155 (by decide) dX12_readsFactor_83 rfl fk_at_246,
  fun d L st h => fk_w_iconst dX12_readsFactor_86 (by decide),
  fun d L h => fk_r_ret dX12_readsFactor_87 (Or.inr (Or.inl ⟨rfl, by decide⟩)),
  fun d L h => fk_r_ret dX12_readsFactor_87 (Or.inr (Or.inl ⟨rfl, by decide⟩)),
  fun d L p _ h => fk_r_ret dX12_readsFactor_87 (Or.inr (Or.inl ⟨rfl, fk_b_01⟩)),
  fun d L x h hx => fk_r_ret dX12_readsFactor_87 (Or.inr (Or.inl ⟨rfl, hx⟩))⟩
theorem hX12_readsFactor_0 : ∀ (d : Nat) (a1 : Value) (x : Nat) (st : List Value) (h : fk_H), fk_ev d qX12_readsFactor 0 [.ref x, a1] st h = fk_ev d qX12_readsFactor 1 [.ref x, a1] (.ref x :: st) h := fun d a1 x st h => fk_w_aloadn 0 [.ref x, a1] dX12_readsFactor_0 rfl
theorem dX12_hasOpenSum_0 : decode cX12_hasOpenSum 0 = .ok (.iload_n 1, 1) := by decide +kernel
theorem dX12_hasOpenSum_1 : decode cX12_hasOpenSum 1 = .ok (.istore_n 2, 1) := by decide +kernel
theorem dX12_hasOpenSum_2 : decode cX12_hasOpenSum 2 = .ok (.iload_n 2, 1) := by decide +kernel
theorem dX12_hasOpenSum_3 : decode cX12_hasOpenSum 3 = .ok (.aload_n 0, 1) := by decide +kernel
theorem dX12_hasOpenSum_4 : decode cX12_hasOpenSum 4 = .ok (.getfield 185, 3) := by decide +kernel
theorem dX12_hasOpenSum_7 : decode cX12_hasOpenSum 7 = .ok (.if_icmp .ge 25, 3) := by decide +kernel
theorem dX12_hasOpenSum_10 : decode cX12_hasOpenSum 10 = .ok (.aload_n 0, 1) := by decide +kernel
theorem dX12_hasOpenSum_11 : decode cX12_hasOpenSum 11 = .ok (.getfield 42, 3) := by decide +kernel
theorem dX12_hasOpenSum_14 : decode cX12_hasOpenSum 14 = .ok (.iload_n 2, 1) := by decide +kernel
theorem dX12_hasOpenSum_15 : decode cX12_hasOpenSum 15 = .ok (.iaload, 1) := by decide +kernel
theorem dX12_hasOpenSum_16 : decode cX12_hasOpenSum 16 = .ok (.ldc 181, 2) := by decide +kernel
theorem dX12_hasOpenSum_18 : decode cX12_hasOpenSum 18 = .ok (.idiv, 1) := by decide +kernel
theorem dX12_hasOpenSum_19 : decode cX12_hasOpenSum 19 = .ok (.bipush 14, 2) := by decide +kernel
theorem dX12_hasOpenSum_21 : decode cX12_hasOpenSum 21 = .ok (.if_icmp .ne 5, 3) := by decide +kernel
theorem dX12_hasOpenSum_24 : decode cX12_hasOpenSum 24 = .ok (.iconst 1, 1) := by decide +kernel
theorem dX12_hasOpenSum_25 : decode cX12_hasOpenSum 25 = .ok (.ireturn, 1) := by decide +kernel
theorem dX12_hasOpenSum_26 : decode cX12_hasOpenSum 26 = .ok (.iinc 2 1, 3) := by decide +kernel
theorem dX12_hasOpenSum_29 : decode cX12_hasOpenSum 29 = .ok (.goto (-27), 3) := by decide +kernel
theorem dX12_hasOpenSum_32 : decode cX12_hasOpenSum 32 = .ok (.iconst 0, 1) := by decide +kernel
theorem dX12_hasOpenSum_33 : decode cX12_hasOpenSum 33 = .ok (.ireturn, 1) := by decide +kernel
theorem rX12_hasOpenSum : (∀ (d : Nat) (a0 a2 : Value) (x : Int32) (st : List Value) (h : fk_H), fk_ev d qX12_hasOpenSum 0 [a0, .int x, a2] st h = fk_ev d qX12_hasOpenSum 1 [a0, .int x, a2] (.int x :: st) h) ∧
  (∀ (d : Nat) (a0 a1 a2 : Value) (x : Int32) (st : List Value) (h : fk_H), fk_ev d qX12_hasOpenSum 1 [a0, a1, a2] (.int x :: st) h = fk_ev d qX12_hasOpenSum 2 [a0, a1, .int x] st h) ∧
  (∀ (d : Nat) (a1 a2 : Value) (x : Nat) (st : List Value) (h : fk_H), fk_ev d qX12_hasOpenSum 3 [.ref x, a1, a2] st h = fk_ev d qX12_hasOpenSum 4 [.ref x, a1, a2] (.ref x :: st) h) ∧
  (∀ (d : Nat) (L st : List Value) (N : Nat) (y : Nat → Nat → Int32) (l : Nat → Nat → Int64), fk_ev d qX12_hasOpenSum 4 L (.ref 246 :: st) (fk_E N y l) = fk_ev d qX12_hasOpenSum 7 L (.int (y 246 17) :: st) (fk_E N y l)) ∧
  (∀ (d : Nat) (L : List Value) (x y : Int32) (st : List Value) (h : fk_H), fk_ev d qX12_hasOpenSum 7 L (.int y :: .int x :: st) h = if y ≤ x then fk_ev d qX12_hasOpenSum 32 L st h else fk_ev d qX12_hasOpenSum 10 L st h) ∧
  (∀ (d : Nat) (a1 a2 : Value) (x : Nat) (st : List Value) (h : fk_H), fk_ev d qX12_hasOpenSum 10 [.ref x, a1, a2] st h = fk_ev d qX12_hasOpenSum 11 [.ref x, a1, a2] (.ref x :: st) h) ∧
  (∀ (d : Nat) (L st : List Value) (N : Nat) (y : Nat → Nat → Int32) (l : Nat → Nat → Int64), fk_ev d qX12_hasOpenSum 11 L (.ref 246 :: st) (fk_E N y l) = fk_ev d qX12_hasOpenSum 14 L (.ref 257 :: st) (fk_E N y l)) ∧
  (∀ (d : Nat) (a0 a1 : Value) (x : Int32) (st : List Value) (h : fk_H), fk_ev d qX12_hasOpenSum 14 [a0, a1, .int x] st h = fk_ev d qX12_hasOpenSum 15 [a0, a1, .int x] (.int x :: st) h) ∧
  (∀ (d : Nat) (L st : List Value) (N : Nat) (y : Nat → Nat → Int32) (l : Nat → Nat → Int64) (i : Nat), i < 260 → fk_ev d qX12_hasOpenSum 15 L (.int (nI i) :: .ref 257 :: st) (fk_E N y l) = fk_ev d qX12_hasOpenSum 16 L (.int (y 257 i) :: st) (fk_E N y l)) ∧
  (∀ (d : Nat) (L st : List Value) (h : fk_H), fk_ev d qX12_hasOpenSum 16 L st h = fk_ev d qX12_hasOpenSum 18 L (.int (nI 1048576) :: st) h) ∧
  (∀ (d : Nat) (L : List Value) (x y : Int32) (st : List Value) (h : fk_H), fk_ev d qX12_hasOpenSum 18 L (.int y :: .int x :: st) h = if y = 0 then none else fk_ev d qX12_hasOpenSum 19 L (.int (x / y) :: st) h) ∧
  (∀ (d : Nat) (L st : List Value) (h : fk_H), fk_ev d qX12_hasOpenSum 19 L st h = fk_ev d qX12_hasOpenSum 21 L (.int (nI 14) :: st) h) ∧
  (∀ (d : Nat) (L : List Value) (x y : Int32) (st : List Value) (h : fk_H), fk_ev d qX12_hasOpenSum 21 L (.int y :: .int x :: st) h = if ¬ x = y then fk_ev d qX12_hasOpenSum 26 L st h else fk_ev d qX12_hasOpenSum 24 L st h) ∧
  (∀ (d : Nat) (L st : List Value) (h : fk_H), fk_ev d qX12_hasOpenSum 24 L st h = fk_ev d qX12_hasOpenSum 25 L (.int (nI 1) :: st) h) ∧
  (∀ (d : Nat) (L : List Value) (h : fk_H), fk_ev d qX12_hasOpenSum 25 L [.int (nI 0)] h = some (some (.int (nI 0)), h)) ∧
  (∀ (d : Nat) (L : List Value) (h : fk_H), fk_ev d qX12_hasOpenSum 25 L [.int (nI 1)] h = some (some (.int (nI 1)), h)) ∧
  (∀ (d : Nat) (L : List Value) (p : Prop) [Decidable p] (h : fk_H), fk_ev d qX12_hasOpenSum 25 L [.int (fk_b p)] h = some (some (.int (fk_b p)), h)) ∧
  (∀ (d : Nat) (L : List Value) (x : Int32) (h : fk_H), (x = nI 0 ∨ x = nI 1) → fk_ev d qX12_hasOpenSum 25 L [.int x] h = some (some (.int x), h)) ∧
  (∀ (d : Nat) (a0 a1 : Value) (x : Int32) (st : List Value) (h : fk_H), fk_ev d qX12_hasOpenSum 26 [a0, a1, .int x] st h = fk_ev d qX12_hasOpenSum 29 [a0, a1, .int (x + nI 1)] st h) ∧
  (∀ (d : Nat) (L st : List Value) (h : fk_H), fk_ev d qX12_hasOpenSum 29 L st h = fk_ev d qX12_hasOpenSum 2 L st h) ∧
  (∀ (d : Nat) (L st : List Value) (h : fk_H), fk_ev d qX12_hasOpenSum 32 L st h = fk_ev d qX12_hasOpenSum 33 L (.int (nI 0) :: st) h) ∧
  (∀ (d : Nat) (L : List Value) (h : fk_H), fk_ev d qX12_hasOpenSum 33 L [.int (nI 0)] h = some (some (.int (nI 0)), h)) ∧
  (∀ (d : Nat) (L : List Value) (h : fk_H), fk_ev d qX12_hasOpenSum 33 L [.int (nI 1)] h = some (some (.int (nI 1)), h)) ∧
  (∀ (d : Nat) (L : List Value) (p : Prop) [Decidable p] (h : fk_H), fk_ev d qX12_hasOpenSum 33 L [.int (fk_b p)] h = some (some (.int (fk_b p)), h)) ∧
  (∀ (d : Nat) (L : List Value) (x : Int32) (h : fk_H), (x = nI 0 ∨ x = nI 1) → fk_ev d qX12_hasOpenSum 33 L [.int x] h = some (some (.int x), h)) := ⟨fun d a0 a2 x st h => fk_w_iloadn 1 [a0, .int x, a2] dX12_hasOpenSum_0 rfl,
  fun d a0 a1 a2 x st h => fk_w_istoren 2 3 [] [a0, a1, a2] [a0, a1, .int x] dX12_hasOpenSum_1 rfl rfl (by decide) rfl,
  fun d a1 a2 x st h => fk_w_aloadn 0 [.ref x, a1, a2] dX12_hasOpenSum_3 rfl,
  fun d L st N y l => fk_g_getI rfl lf_12_185 (by decide) dX12_hasOpenSum_4 fk_at_246,
  fun d L x y st h => fk_r_icmp_ge dX12_hasOpenSum_7 (by decide),
  fun d a1 a2 x st h => fk_w_aloadn 0 [.ref x, a1, a2] dX12_hasOpenSum_10 rfl,
  fun d L st N y l => fk_g_getC rfl lf_12_42 (by decide) rfl dX12_hasOpenSum_11 fk_at_246,
  fun d a0 a1 x st h => fk_w_iloadn 2 [a0, a1, .int x] dX12_hasOpenSum_14 rfl,
  fun d L st N y l i hi => fk_g_iald fk_at_257 fk_ln_257 (by decide) dX12_hasOpenSum_15 hi,
  fun d L st h => fk_g_ldc rfl lc_12_181 (by decide) dX12_hasOpenSum_16,
  fun d L x y st h => fk_r_idiv dX12_hasOpenSum_18,
  fun d L st h => fk_w_bipush dX12_hasOpenSum_19 (by decide),
  fun d L x y st h => fk_r_icmp_ne dX12_hasOpenSum_21 (by decide),
  fun d L st h => fk_w_iconst dX12_hasOpenSum_24 (by decide),
  fun d L h => fk_r_ret dX12_hasOpenSum_25 (Or.inr (Or.inl ⟨rfl, by decide⟩)),
  fun d L h => fk_r_ret dX12_hasOpenSum_25 (Or.inr (Or.inl ⟨rfl, by decide⟩)),
  fun d L p _ h => fk_r_ret dX12_hasOpenSum_25 (Or.inr (Or.inl ⟨rfl, fk_b_01⟩)),
  fun d L x h hx => fk_r_ret dX12_hasOpenSum_25 (Or.inr (Or.inl ⟨rfl, hx⟩)),
  fun d a0 a1 x st h => fk_w_iinc 2 3 (1) [] [a0, a1, .int x] [a0, a1, .int (x + nI 1)] dX12_hasOpenSum_26 rfl rfl rfl (by decide) rfl,
  fun d L st h => fk_r_goto dX12_hasOpenSum_29 (by decide),
  fun d L st h => fk_w_iconst dX12_hasOpenSum_32 (by decide),
  fun d L h => fk_r_ret dX12_hasOpenSum_33 (Or.inr (Or.inl ⟨rfl, by decide⟩)),
  fun d L h => fk_r_ret dX12_hasOpenSum_33 (Or.inr (Or.inl ⟨rfl, by decide⟩)),
  fun d L p _ h => fk_r_ret dX12_hasOpenSum_33 (Or.inr (Or.inl ⟨rfl, fk_b_01⟩)),
  fun d L x h hx => fk_r_ret dX12_hasOpenSum_33 (Or.inr (Or.inl ⟨rfl, hx⟩))⟩
theorem hX12_hasOpenSum_2 : ∀ (d : Nat) (a0 a1 : Value) (x : Int32) (st : List Value) (h : fk_H), fk_ev d qX12_hasOpenSum 2 [a0, a1, .int x] st h = fk_ev d qX12_hasOpenSum 3 [a0, a1, .int x] (.int x :: st) h := fun d a0 a1 x st h => fk_w_iloadn 2 [a0, a1, .int x] dX12_hasOpenSum_2 rfl
theorem dX12_readsSum_0 : decode cX12_readsSum 0 = .ok (.aload_n 0, 1) := by decide +kernel
theorem dX12_readsSum_1 : decode cX12_readsSum 1 = .ok (.getfield 185, 3) := by decide +kernel
theorem dX12_readsSum_4 : decode cX12_readsSum 4 = .ok (.istore_n 1, 1) := by decide +kernel
theorem dX12_readsSum_5 : decode cX12_readsSum 5 = .ok (.aload_n 0, 1) := by decide +kernel
theorem dX12_readsSum_6 : decode cX12_readsSum 6 = .ok (.invokevirtual 204, 3) := by decide +kernel
theorem dX12_readsSum_9 : decode cX12_readsSum 9 = .ok (.ifCond .ne 5, 3) := by decide +kernel
theorem dX12_readsSum_12 : decode cX12_readsSum 12 = .ok (.iconst 0, 1) := by decide +kernel
theorem dX12_readsSum_13 : decode cX12_readsSum 13 = .ok (.ireturn, 1) := by decide +kernel
theorem dX12_readsSum_14 : decode cX12_readsSum 14 = .ok (.aload_n 0, 1) := by decide +kernel
theorem dX12_readsSum_15 : decode cX12_readsSum 15 = .ok (.invokevirtual 161, 3) := by decide +kernel
theorem dX12_readsSum_18 : decode cX12_readsSum 18 = .ok (.invokestatic 207, 3) := by decide +kernel
theorem dX12_readsSum_21 : decode cX12_readsSum 21 = .ok (.istore_n 2, 1) := by decide +kernel
theorem dX12_readsSum_22 : decode cX12_readsSum 22 = .ok (.iload_n 2, 1) := by decide +kernel
theorem dX12_readsSum_23 : decode cX12_readsSum 23 = .ok (.iconst (-1), 1) := by decide +kernel
theorem dX12_readsSum_24 : decode cX12_readsSum 24 = .ok (.if_icmp .eq 59, 3) := by decide +kernel
theorem dX12_readsSum_27 : decode cX12_readsSum 27 = .ok (.aload_n 0, 1) := by decide +kernel
theorem dX12_readsSum_28 : decode cX12_readsSum 28 = .ok (.iload_n 2, 1) := by decide +kernel
theorem dX12_readsSum_29 : decode cX12_readsSum 29 = .ok (.iconst 4, 1) := by decide +kernel
theorem dX12_readsSum_30 : decode cX12_readsSum 30 = .ok (.if_icmp .ge 7, 3) := by decide +kernel
theorem dX12_readsSum_33 : decode cX12_readsSum 33 = .ok (.iconst 1, 1) := by decide +kernel
theorem dX12_readsSum_34 : decode cX12_readsSum 34 = .ok (.goto 4, 3) := by decide +kernel
theorem dX12_readsSum_37 : decode cX12_readsSum 37 = .ok (.iconst 0, 1) := by decide +kernel
theorem dX12_readsSum_38 : decode cX12_readsSum 38 = .ok (.invokevirtual 210, 3) := by decide +kernel
theorem dX12_readsSum_41 : decode cX12_readsSum 41 = .ok (.aload_n 0, 1) := by decide +kernel
theorem dX12_readsSum_42 : decode cX12_readsSum 42 = .ok (.getfield 42, 3) := by decide +kernel
theorem dX12_readsSum_45 : decode cX12_readsSum 45 = .ok (.aload_n 0, 1) := by decide +kernel
theorem dX12_readsSum_46 : decode cX12_readsSum 46 = .ok (.getfield 185, 3) := by decide +kernel
theorem dX12_readsSum_49 : decode cX12_readsSum 49 = .ok (.ldc 181, 2) := by decide +kernel
theorem dX12_readsSum_51 : decode cX12_readsSum 51 = .ok (.iload_n 2, 1) := by decide +kernel
theorem dX12_readsSum_52 : decode cX12_readsSum 52 = .ok (.imul, 1) := by decide +kernel
theorem dX12_readsSum_53 : decode cX12_readsSum 53 = .ok (.iastore, 1) := by decide +kernel
theorem dX12_readsSum_54 : decode cX12_readsSum 54 = .ok (.aload_n 0, 1) := by decide +kernel
theorem dX12_readsSum_55 : decode cX12_readsSum 55 = .ok (.aload_n 0, 1) := by decide +kernel
theorem dX12_readsSum_56 : decode cX12_readsSum 56 = .ok (.getfield 185, 3) := by decide +kernel
theorem dX12_readsSum_59 : decode cX12_readsSum 59 = .ok (.iconst 1, 1) := by decide +kernel
theorem dX12_readsSum_60 : decode cX12_readsSum 60 = .ok (.iadd, 1) := by decide +kernel
theorem dX12_readsSum_61 : decode cX12_readsSum 61 = .ok (.putfield 185, 3) := by decide +kernel
theorem dX12_readsSum_64 : decode cX12_readsSum 64 = .ok (.aload_n 0, 1) := by decide +kernel
theorem dX12_readsSum_65 : decode cX12_readsSum 65 = .ok (.aload_n 0, 1) := by decide +kernel
theorem dX12_readsSum_66 : decode cX12_readsSum 66 = .ok (.getfield 155, 3) := by decide +kernel
theorem dX12_readsSum_69 : decode cX12_readsSum 69 = .ok (.iconst 1, 1) := by decide +kernel
theorem dX12_readsSum_70 : decode cX12_readsSum 70 = .ok (.iadd, 1) := by decide +kernel
theorem dX12_readsSum_71 : decode cX12_readsSum 71 = .ok (.putfield 155, 3) := by decide +kernel
theorem dX12_readsSum_74 : decode cX12_readsSum 74 = .ok (.aload_n 0, 1) := by decide +kernel
theorem dX12_readsSum_75 : decode cX12_readsSum 75 = .ok (.invokevirtual 204, 3) := by decide +kernel
theorem dX12_readsSum_78 : decode cX12_readsSum 78 = .ok (.ifCond .ne 85, 3) := by decide +kernel
theorem dX12_readsSum_81 : decode cX12_readsSum 81 = .ok (.iconst 0, 1) := by decide +kernel
theorem dX12_readsSum_82 : decode cX12_readsSum 82 = .ok (.ireturn, 1) := by decide +kernel
theorem dX12_readsSum_83 : decode cX12_readsSum 83 = .ok (.aload_n 0, 1) := by decide +kernel
theorem dX12_readsSum_84 : decode cX12_readsSum 84 = .ok (.invokevirtual 161, 3) := by decide +kernel
theorem dX12_readsSum_87 : decode cX12_readsSum 87 = .ok (.bipush 93, 2) := by decide +kernel
theorem dX12_readsSum_89 : decode cX12_readsSum 89 = .ok (.if_icmp .ne 49, 3) := by decide +kernel
theorem dX12_readsSum_92 : decode cX12_readsSum 92 = .ok (.aload_n 0, 1) := by decide +kernel
theorem dX12_readsSum_93 : decode cX12_readsSum 93 = .ok (.iload_n 1, 1) := by decide +kernel
theorem dX12_readsSum_94 : decode cX12_readsSum 94 = .ok (.invokevirtual 214, 3) := by decide +kernel
theorem dX12_readsSum_97 : decode cX12_readsSum 97 = .ok (.ifCond .eq 41, 3) := by decide +kernel
theorem dX12_readsSum_100 : decode cX12_readsSum 100 = .ok (.aload_n 0, 1) := by decide +kernel
theorem dX12_readsSum_101 : decode cX12_readsSum 101 = .ok (.iconst 1, 1) := by decide +kernel
theorem dX12_readsSum_102 : decode cX12_readsSum 102 = .ok (.invokevirtual 210, 3) := by decide +kernel
theorem dX12_readsSum_105 : decode cX12_readsSum 105 = .ok (.aload_n 0, 1) := by decide +kernel
theorem dX12_readsSum_106 : decode cX12_readsSum 106 = .ok (.aload_n 0, 1) := by decide +kernel
theorem dX12_readsSum_107 : decode cX12_readsSum 107 = .ok (.getfield 185, 3) := by decide +kernel
theorem dX12_readsSum_110 : decode cX12_readsSum 110 = .ok (.iconst 1, 1) := by decide +kernel
theorem dX12_readsSum_111 : decode cX12_readsSum 111 = .ok (.isub, 1) := by decide +kernel
theorem dX12_readsSum_112 : decode cX12_readsSum 112 = .ok (.putfield 185, 3) := by decide +kernel
theorem dX12_readsSum_115 : decode cX12_readsSum 115 = .ok (.aload_n 0, 1) := by decide +kernel
theorem dX12_readsSum_116 : decode cX12_readsSum 116 = .ok (.aload_n 0, 1) := by decide +kernel
theorem dX12_readsSum_117 : decode cX12_readsSum 117 = .ok (.getfield 182, 3) := by decide +kernel
theorem dX12_readsSum_120 : decode cX12_readsSum 120 = .ok (.iconst 1, 1) := by decide +kernel
theorem dX12_readsSum_121 : decode cX12_readsSum 121 = .ok (.isub, 1) := by decide +kernel
theorem dX12_readsSum_122 : decode cX12_readsSum 122 = .ok (.putfield 182, 3) := by decide +kernel
theorem dX12_readsSum_125 : decode cX12_readsSum 125 = .ok (.aload_n 0, 1) := by decide +kernel
theorem dX12_readsSum_126 : decode cX12_readsSum 126 = .ok (.aload_n 0, 1) := by decide +kernel
theorem dX12_readsSum_127 : decode cX12_readsSum 127 = .ok (.getfield 155, 3) := by decide +kernel
theorem dX12_readsSum_130 : decode cX12_readsSum 130 = .ok (.iconst 1, 1) := by decide +kernel
theorem dX12_readsSum_131 : decode cX12_readsSum 131 = .ok (.iadd, 1) := by decide +kernel
theorem dX12_readsSum_132 : decode cX12_readsSum 132 = .ok (.putfield 155, 3) := by decide +kernel
theorem dX12_readsSum_135 : decode cX12_readsSum 135 = .ok (.goto 28, 3) := by decide +kernel
theorem dX12_readsSum_138 : decode cX12_readsSum 138 = .ok (.aload_n 0, 1) := by decide +kernel
theorem dX12_readsSum_139 : decode cX12_readsSum 139 = .ok (.iload_n 1, 1) := by decide +kernel
theorem dX12_readsSum_140 : decode cX12_readsSum 140 = .ok (.invokevirtual 214, 3) := by decide +kernel
theorem dX12_readsSum_143 : decode cX12_readsSum 143 = .ok (.ifCond .eq 13, 3) := by decide +kernel
theorem dX12_readsSum_146 : decode cX12_readsSum 146 = .ok (.aload_n 0, 1) := by decide +kernel
theorem dX12_readsSum_147 : decode cX12_readsSum 147 = .ok (.iconst 1, 1) := by decide +kernel
theorem dX12_readsSum_148 : decode cX12_readsSum 148 = .ok (.aload_n 0, 1) := by decide +kernel
theorem dX12_readsSum_149 : decode cX12_readsSum 149 = .ok (.getfield 155, 3) := by decide +kernel
theorem dX12_readsSum_152 : decode cX12_readsSum 152 = .ok (.invokevirtual 168, 3) := by decide +kernel
theorem dX12_readsSum_155 : decode cX12_readsSum 155 = .ok (.ireturn, 1) := by decide +kernel
theorem dX12_readsSum_156 : decode cX12_readsSum 156 = .ok (.aload_n 0, 1) := by decide +kernel
theorem dX12_readsSum_157 : decode cX12_readsSum 157 = .ok (.iconst 1, 1) := by decide +kernel
theorem dX12_readsSum_158 : decode cX12_readsSum 158 = .ok (.invokevirtual 210, 3) := by decide +kernel
theorem dX12_readsSum_161 : decode cX12_readsSum 161 = .ok (.iconst 1, 1) := by decide +kernel
theorem dX12_readsSum_162 : decode cX12_readsSum 162 = .ok (.ireturn, 1) := by decide +kernel
theorem dX12_readsSum_163 : decode cX12_readsSum 163 = .ok (.goto (-149), 3) := by decide +kernel
theorem rX12_readsSum : (∀ (d : Nat) (a1 a2 : Value) (x : Nat) (st : List Value) (h : fk_H), fk_ev d qX12_readsSum 0 [.ref x, a1, a2] st h = fk_ev d qX12_readsSum 1 [.ref x, a1, a2] (.ref x :: st) h) ∧
  (∀ (d : Nat) (L st : List Value) (N : Nat) (y : Nat → Nat → Int32) (l : Nat → Nat → Int64), fk_ev d qX12_readsSum 1 L (.ref 246 :: st) (fk_E N y l) = fk_ev d qX12_readsSum 4 L (.int (y 246 17) :: st) (fk_E N y l)) ∧
  (∀ (d : Nat) (a0 a1 a2 : Value) (x : Int32) (st : List Value) (h : fk_H), fk_ev d qX12_readsSum 4 [a0, a1, a2] (.int x :: st) h = fk_ev d qX12_readsSum 5 [a0, .int x, a2] st h) ∧
  (∀ (d : Nat) (a1 a2 : Value) (x : Nat) (st : List Value) (h : fk_H), fk_ev d qX12_readsSum 5 [.ref x, a1, a2] st h = fk_ev d qX12_readsSum 6 [.ref x, a1, a2] (.ref x :: st) h) ∧
  (∀ (d : Nat) (L : List Value)   (N : Nat) (y : Nat → Nat → Int32) (l : Nat → Nat → Int64), fk_ev (d + 1) qX12_readsSum 6 L (.ref 246 :: []) (fk_E N y l) = (fk_ev d qX12_readsFactor 0 [.ref 246, .null] [] (fk_E N y l)).bind fun o => fk_ev (d + 1) qX12_readsSum 9 L (o.1.toList ++ []) o.2) ∧
  (∀ (d : Nat) (L : List Value) (x : Int32) (st : List Value) (h : fk_H), fk_ev d qX12_readsSum 9 L (.int x :: st) h = if ¬ x = nI 0 then fk_ev d qX12_readsSum 14 L st h else fk_ev d qX12_readsSum 12 L st h) ∧
  (∀ (d : Nat) (L st : List Value) (h : fk_H), fk_ev d qX12_readsSum 12 L st h = fk_ev d qX12_readsSum 13 L (.int (nI 0) :: st) h) ∧
  (∀ (d : Nat) (L : List Value) (h : fk_H), fk_ev d qX12_readsSum 13 L [.int (nI 0)] h = some (some (.int (nI 0)), h)) ∧
  (∀ (d : Nat) (L : List Value) (h : fk_H), fk_ev d qX12_readsSum 13 L [.int (nI 1)] h = some (some (.int (nI 1)), h)) ∧
  (∀ (d : Nat) (L : List Value) (p : Prop) [Decidable p] (h : fk_H), fk_ev d qX12_readsSum 13 L [.int (fk_b p)] h = some (some (.int (fk_b p)), h)) ∧
  (∀ (d : Nat) (L : List Value) (x : Int32) (h : fk_H), (x = nI 0 ∨ x = nI 1) → fk_ev d qX12_readsSum 13 L [.int x] h = some (some (.int x), h)) ∧
  (∀ (d : Nat) (L : List Value)   (N : Nat) (y : Nat → Nat → Int32) (l : Nat → Nat → Int64), fk_ev (d + 1) qX12_readsSum 15 L (.ref 246 :: []) (fk_E N y l) = (fk_ev d qX12_here 0 [.ref 246] [] (fk_E N y l)).bind fun o => fk_ev (d + 1) qX12_readsSum 18 L (o.1.toList ++ []) o.2) ∧
  (∀ (d : Nat) (L : List Value) (x0 : Int32)  (h : fk_H), fk_ev (d + 1) qX12_readsSum 18 L (.int x0 :: []) h = (fk_ev d qX12_sumSign 0 [.int x0] [] h).bind fun o => fk_ev (d + 1) qX12_readsSum 21 L (o.1.toList ++ []) o.2) ∧
  (∀ (d : Nat) (a0 a1 a2 : Value) (x : Int32) (st : List Value) (h : fk_H), fk_ev d qX12_readsSum 21 [a0, a1, a2] (.int x :: st) h = fk_ev d qX12_readsSum 22 [a0, a1, .int x] st h) ∧
  (∀ (d : Nat) (a0 a1 : Value) (x : Int32) (st : List Value) (h : fk_H), fk_ev d qX12_readsSum 22 [a0, a1, .int x] st h = fk_ev d qX12_readsSum 23 [a0, a1, .int x] (.int x :: st) h) ∧
  (∀ (d : Nat) (L st : List Value) (h : fk_H), fk_ev d qX12_readsSum 23 L st h = fk_ev d qX12_readsSum 24 L (.int ((-1 : Int32)) :: st) h) ∧
  (∀ (d : Nat) (L : List Value) (x y : Int32) (st : List Value) (h : fk_H), fk_ev d qX12_readsSum 24 L (.int y :: .int x :: st) h = if x = y then fk_ev d qX12_readsSum 83 L st h else fk_ev d qX12_readsSum 27 L st h) ∧
  (∀ (d : Nat) (a1 a2 : Value) (x : Nat) (st : List Value) (h : fk_H), fk_ev d qX12_readsSum 27 [.ref x, a1, a2] st h = fk_ev d qX12_readsSum 28 [.ref x, a1, a2] (.ref x :: st) h) ∧
  (∀ (d : Nat) (a0 a1 : Value) (x : Int32) (st : List Value) (h : fk_H), fk_ev d qX12_readsSum 28 [a0, a1, .int x] st h = fk_ev d qX12_readsSum 29 [a0, a1, .int x] (.int x :: st) h) ∧
  (∀ (d : Nat) (L st : List Value) (h : fk_H), fk_ev d qX12_readsSum 29 L st h = fk_ev d qX12_readsSum 30 L (.int (nI 4) :: st) h) ∧
  (∀ (d : Nat) (L : List Value) (x y : Int32) (st : List Value) (h : fk_H), fk_ev d qX12_readsSum 30 L (.int y :: .int x :: st) h = if y ≤ x then fk_ev d qX12_readsSum 37 L st h else fk_ev d qX12_readsSum 33 L st h) ∧
  (∀ (d : Nat) (L st : List Value) (h : fk_H), fk_ev d qX12_readsSum 33 L st h = fk_ev d qX12_readsSum 34 L (.int (nI 1) :: st) h) ∧
  (∀ (d : Nat) (L st : List Value) (h : fk_H), fk_ev d qX12_readsSum 34 L st h = fk_ev d qX12_readsSum 38 L st h) ∧
  (∀ (d : Nat) (L st : List Value) (h : fk_H), fk_ev d qX12_readsSum 37 L st h = fk_ev d qX12_readsSum 38 L (.int (nI 0) :: st) h) ∧
  (∀ (d : Nat) (L : List Value) (x0 : Int32)  (N : Nat) (y : Nat → Nat → Int32) (l : Nat → Nat → Int64), fk_ev (d + 1) qX12_readsSum 38 L (.int x0 :: .ref 246 :: []) (fk_E N y l) = (fk_ev d qX12_closesSums 0 [.ref 246, .int x0] [] (fk_E N y l)).bind fun o => fk_ev (d + 1) qX12_readsSum 41 L (o.1.toList ++ []) o.2) ∧
  (∀ (d : Nat) (a1 a2 : Value) (x : Nat) (st : List Value) (h : fk_H), fk_ev d qX12_readsSum 41 [.ref x, a1, a2] st h = fk_ev d qX12_readsSum 42 [.ref x, a1, a2] (.ref x :: st) h) ∧
  (∀ (d : Nat) (L st : List Value) (N : Nat) (y : Nat → Nat → Int32) (l : Nat → Nat → Int64), fk_ev d qX12_readsSum 42 L (.ref 246 :: st) (fk_E N y l) = fk_ev d qX12_readsSum 45 L (.ref 257 :: st) (fk_E N y l)) ∧
  (∀ (d : Nat) (a1 a2 : Value) (x : Nat) (st : List Value) (h : fk_H), fk_ev d qX12_readsSum 45 [.ref x, a1, a2] st h = fk_ev d qX12_readsSum 46 [.ref x, a1, a2] (.ref x :: st) h) ∧
  (∀ (d : Nat) (L st : List Value) (N : Nat) (y : Nat → Nat → Int32) (l : Nat → Nat → Int64), fk_ev d qX12_readsSum 46 L (.ref 246 :: st) (fk_E N y l) = fk_ev d qX12_readsSum 49 L (.int (y 246 17) :: st) (fk_E N y l)) ∧
  (∀ (d : Nat) (L st : List Value) (h : fk_H), fk_ev d qX12_readsSum 49 L st h = fk_ev d qX12_readsSum 51 L (.int (nI 1048576) :: st) h) ∧
  (∀ (d : Nat) (a0 a1 : Value) (x : Int32) (st : List Value) (h : fk_H), fk_ev d qX12_readsSum 51 [a0, a1, .int x] st h = fk_ev d qX12_readsSum 52 [a0, a1, .int x] (.int x :: st) h) ∧
  (∀ (d : Nat) (L : List Value) (x y : Int32) (st : List Value) (h : fk_H), fk_ev d qX12_readsSum 52 L (.int y :: .int x :: st) h = fk_ev d qX12_readsSum 53 L (.int (x * y) :: st) h) ∧
  (∀ (d : Nat) (L st : List Value) (N : Nat) (y : Nat → Nat → Int32) (l : Nat → Nat → Int64) (i : Nat) (v : Int32), i < 260 → fk_ev d qX12_readsSum 53 L (.int v :: .int (nI i) :: .ref 257 :: st) (fk_E N y l) = fk_ev d qX12_readsSum 54 L st (fk_E N (fk_u y 257 i v) l)) ∧
  (∀ (d : Nat) (a1 a2 : Value) (x : Nat) (st : List Value) (h : fk_H), fk_ev d qX12_readsSum 54 [.ref x, a1, a2] st h = fk_ev d qX12_readsSum 55 [.ref x, a1, a2] (.ref x :: st) h) ∧
  (∀ (d : Nat) (a1 a2 : Value) (x : Nat) (st : List Value) (h : fk_H), fk_ev d qX12_readsSum 55 [.ref x, a1, a2] st h = fk_ev d qX12_readsSum 56 [.ref x, a1, a2] (.ref x :: st) h) ∧
  (∀ (d : Nat) (L st : List Value) (N : Nat) (y : Nat → Nat → Int32) (l : Nat → Nat → Int64), fk_ev d qX12_readsSum 56 L (.ref 246 :: st) (fk_E N y l) = fk_ev d qX12_readsSum 59 L (.int (y 246 17) :: st) (fk_E N y l)) ∧
  (∀ (d : Nat) (L st : List Value) (h : fk_H), fk_ev d qX12_readsSum 59 L st h = fk_ev d qX12_readsSum 60 L (.int (nI 1) :: st) h) ∧
  (∀ (d : Nat) (L : List Value) (x y : Int32) (st : List Value) (h : fk_H), fk_ev d qX12_readsSum 60 L (.int y :: .int x :: st) h = fk_ev d qX12_readsSum 61 L (.int (x + y) :: st) h) ∧
  (∀ (d : Nat) (L st : List Value) (N : Nat) (y : Nat → Nat → Int32) (l : Nat → Nat → Int64) (v : Int32), fk_ev d qX12_readsSum 61 L (.int v :: .ref 246 :: st) (fk_E N y l) = fk_ev d qX12_readsSum 64 L st (fk_E N (fk_u y 246 17 v) l)) ∧
  (∀ (d : Nat) (a1 a2 : Value) (x : Nat) (st : List Value) (h : fk_H), fk_ev d qX12_readsSum 64 [.ref x, a1, a2] st h = fk_ev d qX12_readsSum 65 [.ref x, a1, a2] (.ref x :: st) h) ∧
  (∀ (d : Nat) (a1 a2 : Value) (x : Nat) (st : List Value) (h : fk_H), fk_ev d qX12_readsSum 65 [.ref x, a1, a2] st h = fk_ev d qX12_readsSum 66 [.ref x, a1, a2] (.ref x :: st) h) ∧
  (∀ (d : Nat) (L st : List Value) (N : Nat) (y : Nat → Nat → Int32) (l : Nat → Nat → Int64), fk_ev d qX12_readsSum 66 L (.ref 246 :: st) (fk_E N y l) = fk_ev d qX12_readsSum 69 L (.int (y 246 11) :: st) (fk_E N y l)) ∧
  (∀ (d : Nat) (L st : List Value) (h : fk_H), fk_ev d qX12_readsSum 69 L st h = fk_ev d qX12_readsSum 70 L (.int (nI 1) :: st) h) ∧
  (∀ (d : Nat) (L : List Value) (x y : Int32) (st : List Value) (h : fk_H), fk_ev d qX12_readsSum 70 L (.int y :: .int x :: st) h = fk_ev d qX12_readsSum 71 L (.int (x + y) :: st) h) ∧
  (∀ (d : Nat) (L st : List Value) (N : Nat) (y : Nat → Nat → Int32) (l : Nat → Nat → Int64) (v : Int32), fk_ev d qX12_readsSum 71 L (.int v :: .ref 246 :: st) (fk_E N y l) = fk_ev d qX12_readsSum 74 L st (fk_E N (fk_u y 246 11 v) l)) ∧
  (∀ (d : Nat) (a1 a2 : Value) (x : Nat) (st : List Value) (h : fk_H), fk_ev d qX12_readsSum 74 [.ref x, a1, a2] st h = fk_ev d qX12_readsSum 75 [.ref x, a1, a2] (.ref x :: st) h) ∧
  (∀ (d : Nat) (L : List Value)   (N : Nat) (y : Nat → Nat → Int32) (l : Nat → Nat → Int64), fk_ev (d + 1) qX12_readsSum 75 L (.ref 246 :: []) (fk_E N y l) = (fk_ev d qX12_readsFactor 0 [.ref 246, .null] [] (fk_E N y l)).bind fun o => fk_ev (d + 1) qX12_readsSum 78 L (o.1.toList ++ []) o.2) ∧
  (∀ (d : Nat) (L : List Value) (x : Int32) (st : List Value) (h : fk_H), fk_ev d qX12_readsSum 78 L (.int x :: st) h = if ¬ x = nI 0 then fk_ev d qX12_readsSum 163 L st h else fk_ev d qX12_readsSum 81 L st h) ∧
  (∀ (d : Nat) (L st : List Value) (h : fk_H), fk_ev d qX12_readsSum 81 L st h = fk_ev d qX12_readsSum 82 L (.int (nI 0) :: st) h) ∧
  (∀ (d : Nat) (L : List Value) (h : fk_H), fk_ev d qX12_readsSum 82 L [.int (nI 0)] h = some (some (.int (nI 0)), h)) ∧
  (∀ (d : Nat) (L : List Value) (h : fk_H), fk_ev d qX12_readsSum 82 L [.int (nI 1)] h = some (some (.int (nI 1)), h)) ∧
  (∀ (d : Nat) (L : List Value) (p : Prop) [Decidable p] (h : fk_H), fk_ev d qX12_readsSum 82 L [.int (fk_b p)] h = some (some (.int (fk_b p)), h)) ∧
  (∀ (d : Nat) (L : List Value) (x : Int32) (h : fk_H), (x = nI 0 ∨ x = nI 1) → fk_ev d qX12_readsSum 82 L [.int x] h = some (some (.int x), h)) ∧
  (∀ (d : Nat) (a1 a2 : Value) (x : Nat) (st : List Value) (h : fk_H), fk_ev d qX12_readsSum 83 [.ref x, a1, a2] st h = fk_ev d qX12_readsSum 84 [.ref x, a1, a2] (.ref x :: st) h) ∧
  (∀ (d : Nat) (L : List Value)   (N : Nat) (y : Nat → Nat → Int32) (l : Nat → Nat → Int64), fk_ev (d + 1) qX12_readsSum 84 L (.ref 246 :: []) (fk_E N y l) = (fk_ev d qX12_here 0 [.ref 246] [] (fk_E N y l)).bind fun o => fk_ev (d + 1) qX12_readsSum 87 L (o.1.toList ++ []) o.2) ∧
  (∀ (d : Nat) (L st : List Value) (h : fk_H), fk_ev d qX12_readsSum 87 L st h = fk_ev d qX12_readsSum 89 L (.int (nI 93) :: st) h) ∧
  (∀ (d : Nat) (L : List Value) (x y : Int32) (st : List Value) (h : fk_H), fk_ev d qX12_readsSum 89 L (.int y :: .int x :: st) h = if ¬ x = y then fk_ev d qX12_readsSum 138 L st h else fk_ev d qX12_readsSum 92 L st h) ∧
  (∀ (d : Nat) (a1 a2 : Value) (x : Nat) (st : List Value) (h : fk_H), fk_ev d qX12_readsSum 92 [.ref x, a1, a2] st h = fk_ev d qX12_readsSum 93 [.ref x, a1, a2] (.ref x :: st) h) ∧
  (∀ (d : Nat) (a0 a2 : Value) (x : Int32) (st : List Value) (h : fk_H), fk_ev d qX12_readsSum 93 [a0, .int x, a2] st h = fk_ev d qX12_readsSum 94 [a0, .int x, a2] (.int x :: st) h) ∧
  (∀ (d : Nat) (L : List Value) (x0 : Int32)  (N : Nat) (y : Nat → Nat → Int32) (l : Nat → Nat → Int64), fk_ev (d + 1) qX12_readsSum 94 L (.int x0 :: .ref 246 :: []) (fk_E N y l) = (fk_ev d qX12_hasOpenSum 0 [.ref 246, .int x0, .null] [] (fk_E N y l)).bind fun o => fk_ev (d + 1) qX12_readsSum 97 L (o.1.toList ++ []) o.2) ∧
  (∀ (d : Nat) (L : List Value) (x : Int32) (st : List Value) (h : fk_H), fk_ev d qX12_readsSum 97 L (.int x :: st) h = if x = nI 0 then fk_ev d qX12_readsSum 138 L st h else fk_ev d qX12_readsSum 100 L st h) ∧
  (∀ (d : Nat) (a1 a2 : Value) (x : Nat) (st : List Value) (h : fk_H), fk_ev d qX12_readsSum 100 [.ref x, a1, a2] st h = fk_ev d qX12_readsSum 101 [.ref x, a1, a2] (.ref x :: st) h) ∧
  (∀ (d : Nat) (L st : List Value) (h : fk_H), fk_ev d qX12_readsSum 101 L st h = fk_ev d qX12_readsSum 102 L (.int (nI 1) :: st) h) ∧
  (∀ (d : Nat) (L : List Value) (x0 : Int32)  (N : Nat) (y : Nat → Nat → Int32) (l : Nat → Nat → Int64), fk_ev (d + 1) qX12_readsSum 102 L (.int x0 :: .ref 246 :: []) (fk_E N y l) = (fk_ev d qX12_closesSums 0 [.ref 246, .int x0] [] (fk_E N y l)).bind fun o => fk_ev (d + 1) qX12_readsSum 105 L (o.1.toList ++ []) o.2) ∧
  (∀ (d : Nat) (a1 a2 : Value) (x : Nat) (st : List Value) (h : fk_H), fk_ev d qX12_readsSum 105 [.ref x, a1, a2] st h = fk_ev d qX12_readsSum 106 [.ref x, a1, a2] (.ref x :: st) h) ∧
  (∀ (d : Nat) (a1 a2 : Value) (x : Nat) (st : List Value) (h : fk_H), fk_ev d qX12_readsSum 106 [.ref x, a1, a2] st h = fk_ev d qX12_readsSum 107 [.ref x, a1, a2] (.ref x :: st) h) ∧
  (∀ (d : Nat) (L st : List Value) (N : Nat) (y : Nat → Nat → Int32) (l : Nat → Nat → Int64), fk_ev d qX12_readsSum 107 L (.ref 246 :: st) (fk_E N y l) = fk_ev d qX12_readsSum 110 L (.int (y 246 17) :: st) (fk_E N y l)) ∧
  (∀ (d : Nat) (L st : List Value) (h : fk_H), fk_ev d qX12_readsSum 110 L st h = fk_ev d qX12_readsSum 111 L (.int (nI 1) :: st) h) ∧
  (∀ (d : Nat) (L : List Value) (x y : Int32) (st : List Value) (h : fk_H), fk_ev d qX12_readsSum 111 L (.int y :: .int x :: st) h = fk_ev d qX12_readsSum 112 L (.int (x - y) :: st) h) ∧
  (∀ (d : Nat) (L st : List Value) (N : Nat) (y : Nat → Nat → Int32) (l : Nat → Nat → Int64) (v : Int32), fk_ev d qX12_readsSum 112 L (.int v :: .ref 246 :: st) (fk_E N y l) = fk_ev d qX12_readsSum 115 L st (fk_E N (fk_u y 246 17 v) l)) ∧
  (∀ (d : Nat) (a1 a2 : Value) (x : Nat) (st : List Value) (h : fk_H), fk_ev d qX12_readsSum 115 [.ref x, a1, a2] st h = fk_ev d qX12_readsSum 116 [.ref x, a1, a2] (.ref x :: st) h) ∧
  (∀ (d : Nat) (a1 a2 : Value) (x : Nat) (st : List Value) (h : fk_H), fk_ev d qX12_readsSum 116 [.ref x, a1, a2] st h = fk_ev d qX12_readsSum 117 [.ref x, a1, a2] (.ref x :: st) h) ∧
  (∀ (d : Nat) (L st : List Value) (N : Nat) (y : Nat → Nat → Int32) (l : Nat → Nat → Int64), fk_ev d qX12_readsSum 117 L (.ref 246 :: st) (fk_E N y l) = fk_ev d qX12_readsSum 120 L (.int (y 246 15) :: st) (fk_E N y l)) ∧
  (∀ (d : Nat) (L st : List Value) (h : fk_H), fk_ev d qX12_readsSum 120 L st h = fk_ev d qX12_readsSum 121 L (.int (nI 1) :: st) h) ∧
  (∀ (d : Nat) (L : List Value) (x y : Int32) (st : List Value) (h : fk_H), fk_ev d qX12_readsSum 121 L (.int y :: .int x :: st) h = fk_ev d qX12_readsSum 122 L (.int (x - y) :: st) h) ∧
  (∀ (d : Nat) (L st : List Value) (N : Nat) (y : Nat → Nat → Int32) (l : Nat → Nat → Int64) (v : Int32), fk_ev d qX12_readsSum 122 L (.int v :: .ref 246 :: st) (fk_E N y l) = fk_ev d qX12_readsSum 125 L st (fk_E N (fk_u y 246 15 v) l)) ∧
  (∀ (d : Nat) (a1 a2 : Value) (x : Nat) (st : List Value) (h : fk_H), fk_ev d qX12_readsSum 125 [.ref x, a1, a2] st h = fk_ev d qX12_readsSum 126 [.ref x, a1, a2] (.ref x :: st) h) ∧
  (∀ (d : Nat) (a1 a2 : Value) (x : Nat) (st : List Value) (h : fk_H), fk_ev d qX12_readsSum 126 [.ref x, a1, a2] st h = fk_ev d qX12_readsSum 127 [.ref x, a1, a2] (.ref x :: st) h) ∧
  (∀ (d : Nat) (L st : List Value) (N : Nat) (y : Nat → Nat → Int32) (l : Nat → Nat → Int64), fk_ev d qX12_readsSum 127 L (.ref 246 :: st) (fk_E N y l) = fk_ev d qX12_readsSum 130 L (.int (y 246 11) :: st) (fk_E N y l)) ∧
  (∀ (d : Nat) (L st : List Value) (h : fk_H), fk_ev d qX12_readsSum 130 L st h = fk_ev d qX12_readsSum 131 L (.int (nI 1) :: st) h) ∧
  (∀ (d : Nat) (L : List Value) (x y : Int32) (st : List Value) (h : fk_H), fk_ev d qX12_readsSum 131 L (.int y :: .int x :: st) h = fk_ev d qX12_readsSum 132 L (.int (x + y) :: st) h) ∧
  (∀ (d : Nat) (L st : List Value) (N : Nat) (y : Nat → Nat → Int32) (l : Nat → Nat → Int64) (v : Int32), fk_ev d qX12_readsSum 132 L (.int v :: .ref 246 :: st) (fk_E N y l) = fk_ev d qX12_readsSum 135 L st (fk_E N (fk_u y 246 11 v) l)) ∧
  (∀ (d : Nat) (L st : List Value) (h : fk_H), fk_ev d qX12_readsSum 135 L st h = fk_ev d qX12_readsSum 163 L st h) ∧
  (∀ (d : Nat) (a1 a2 : Value) (x : Nat) (st : List Value) (h : fk_H), fk_ev d qX12_readsSum 138 [.ref x, a1, a2] st h = fk_ev d qX12_readsSum 139 [.ref x, a1, a2] (.ref x :: st) h) ∧
  (∀ (d : Nat) (a0 a2 : Value) (x : Int32) (st : List Value) (h : fk_H), fk_ev d qX12_readsSum 139 [a0, .int x, a2] st h = fk_ev d qX12_readsSum 140 [a0, .int x, a2] (.int x :: st) h) ∧
  (∀ (d : Nat) (L : List Value) (x0 : Int32)  (N : Nat) (y : Nat → Nat → Int32) (l : Nat → Nat → Int64), fk_ev (d + 1) qX12_readsSum 140 L (.int x0 :: .ref 246 :: []) (fk_E N y l) = (fk_ev d qX12_hasOpenSum 0 [.ref 246, .int x0, .null] [] (fk_E N y l)).bind fun o => fk_ev (d + 1) qX12_readsSum 143 L (o.1.toList ++ []) o.2) ∧
  (∀ (d : Nat) (L : List Value) (x : Int32) (st : List Value) (h : fk_H), fk_ev d qX12_readsSum 143 L (.int x :: st) h = if x = nI 0 then fk_ev d qX12_readsSum 156 L st h else fk_ev d qX12_readsSum 146 L st h) ∧
  (∀ (d : Nat) (a1 a2 : Value) (x : Nat) (st : List Value) (h : fk_H), fk_ev d qX12_readsSum 146 [.ref x, a1, a2] st h = fk_ev d qX12_readsSum 147 [.ref x, a1, a2] (.ref x :: st) h) ∧
  (∀ (d : Nat) (L st : List Value) (h : fk_H), fk_ev d qX12_readsSum 147 L st h = fk_ev d qX12_readsSum 148 L (.int (nI 1) :: st) h) ∧
  (∀ (d : Nat) (a1 a2 : Value) (x : Nat) (st : List Value) (h : fk_H), fk_ev d qX12_readsSum 148 [.ref x, a1, a2] st h = fk_ev d qX12_readsSum 149 [.ref x, a1, a2] (.ref x :: st) h) ∧
  (∀ (d : Nat) (L st : List Value) (N : Nat) (y : Nat → Nat → Int32) (l : Nat → Nat → Int64), fk_ev d qX12_readsSum 149 L (.ref 246 :: st) (fk_E N y l) = fk_ev d qX12_readsSum 152 L (.int (y 246 11) :: st) (fk_E N y l)) ∧
  (∀ (d : Nat) (L : List Value) (x0 : Int32) (x1 : Int32)  (N : Nat) (y : Nat → Nat → Int32) (l : Nat → Nat → Int64), fk_ev (d + 1) qX12_readsSum 152 L (.int x1 :: .int x0 :: .ref 246 :: []) (fk_E N y l) = (fk_ev d qX12_wrongAt 0 [.ref 246, .int x0, .int x1] [] (fk_E N y l)).bind fun o => fk_ev (d + 1) qX12_readsSum 155 L (o.1.toList ++ []) o.2) ∧
  (∀ (d : Nat) (L : List Value) (h : fk_H), fk_ev d qX12_readsSum 155 L [.int (nI 0)] h = some (some (.int (nI 0)), h)) ∧
  (∀ (d : Nat) (L : List Value) (h : fk_H), fk_ev d qX12_readsSum 155 L [.int (nI 1)] h = some (some (.int (nI 1)), h)) ∧
  (∀ (d : Nat) (L : List Value) (p : Prop) [Decidable p] (h : fk_H), fk_ev d qX12_readsSum 155 L [.int (fk_b p)] h = some (some (.int (fk_b p)), h)) ∧
  (∀ (d : Nat) (L : List Value) (x : Int32) (h : fk_H), (x = nI 0 ∨ x = nI 1) → fk_ev d qX12_readsSum 155 L [.int x] h = some (some (.int x), h)) ∧
  (∀ (d : Nat) (a1 a2 : Value) (x : Nat) (st : List Value) (h : fk_H), fk_ev d qX12_readsSum 156 [.ref x, a1, a2] st h = fk_ev d qX12_readsSum 157 [.ref x, a1, a2] (.ref x :: st) h) ∧
  (∀ (d : Nat) (L st : List Value) (h : fk_H), fk_ev d qX12_readsSum 157 L st h = fk_ev d qX12_readsSum 158 L (.int (nI 1) :: st) h) ∧
  (∀ (d : Nat) (L : List Value) (x0 : Int32)  (N : Nat) (y : Nat → Nat → Int32) (l : Nat → Nat → Int64), fk_ev (d + 1) qX12_readsSum 158 L (.int x0 :: .ref 246 :: []) (fk_E N y l) = (fk_ev d qX12_closesSums 0 [.ref 246, .int x0] [] (fk_E N y l)).bind fun o => fk_ev (d + 1) qX12_readsSum 161 L (o.1.toList ++ []) o.2) ∧
  (∀ (d : Nat) (L st : List Value) (h : fk_H), fk_ev d qX12_readsSum 161 L st h = fk_ev d qX12_readsSum 162 L (.int (nI 1) :: st) h) ∧
  (∀ (d : Nat) (L : List Value) (h : fk_H), fk_ev d qX12_readsSum 162 L [.int (nI 0)] h = some (some (.int (nI 0)), h)) ∧
  (∀ (d : Nat) (L : List Value) (h : fk_H), fk_ev d qX12_readsSum 162 L [.int (nI 1)] h = some (some (.int (nI 1)), h)) ∧
  (∀ (d : Nat) (L : List Value) (p : Prop) [Decidable p] (h : fk_H), fk_ev d qX12_readsSum 162 L [.int (fk_b p)] h = some (some (.int (fk_b p)), h)) ∧
  (∀ (d : Nat) (L : List Value) (x : Int32) (h : fk_H), (x = nI 0 ∨ x = nI 1) → fk_ev d qX12_readsSum 162 L [.int x] h = some (some (.int x), h)) ∧
  (∀ (d : Nat) (L st : List Value) (h : fk_H), fk_ev d qX12_readsSum 163 L st h = fk_ev d qX12_readsSum 14 L st h) := ⟨fun d a1 a2 x st h => fk_w_aloadn 0 [.ref x, a1, a2] dX12_readsSum_0 rfl,
  fun d L st N y l => fk_g_getI rfl lf_12_185 (by decide) dX12_readsSum_1 fk_at_246,
  fun d a0 a1 a2 x st h => fk_w_istoren 1 3 [] [a0, a1, a2] [a0, .int x, a2] dX12_readsSum_4 rfl rfl (by decide) rfl,
  fun d a1 a2 x st h => fk_w_aloadn 0 [.ref x, a1, a2] dX12_readsSum_5 rfl,
  fun d L  N y l  => fk_g_call [] [] rfl lm_12_204 dX12_readsSum_6 rfl ⟨rfl, by decide⟩ (by simp) fk_at_246,
  fun d L x st h => fk_r_if_ne dX12_readsSum_9 (by decide),
  fun d L st h => fk_w_iconst dX12_readsSum_12 (by decide),
  fun d L h => fk_r_ret dX12_readsSum_13 (Or.inr (Or.inl ⟨rfl, by decide⟩)),
  fun d L h => fk_r_ret dX12_readsSum_13 (Or.inr (Or.inl ⟨rfl, by decide⟩)),
  fun d L p _ h => fk_r_ret dX12_readsSum_13 (Or.inr (Or.inl ⟨rfl, fk_b_01⟩)),
  fun d L x h hx => fk_r_ret dX12_readsSum_13 (Or.inr (Or.inl ⟨rfl, hx⟩)),
  fun d L  N y l  => fk_g_call [] [] rfl lm_12_161 dX12_readsSum_15 rfl ⟨rfl, by decide⟩ (by simp) fk_at_246,
  fun d L x0 h => fk_g_calls [.int x0] [] rfl lm_12_207 dX12_readsSum_18 rfl ⟨rfl, by decide⟩ (by simp),
  fun d a0 a1 a2 x st h => fk_w_istoren 2 3 [] [a0, a1, a2] [a0, a1, .int x] dX12_readsSum_21 rfl rfl (by decide) rfl,
  fun d a0 a1 x st h => fk_w_iloadn 2 [a0, a1, .int x] dX12_readsSum_22 rfl,
  fun d L st h => fk_w_iconst dX12_readsSum_23 (by decide),
  fun d L x y st h => fk_r_icmp_eq dX12_readsSum_24 (by decide),
  fun d a1 a2 x st h => fk_w_aloadn 0 [.ref x, a1, a2] dX12_readsSum_27 rfl,
  fun d a0 a1 x st h => fk_w_iloadn 2 [a0, a1, .int x] dX12_readsSum_28 rfl,
  fun d L st h => fk_w_iconst dX12_readsSum_29 (by decide),
  fun d L x y st h => fk_r_icmp_ge dX12_readsSum_30 (by decide),
  fun d L st h => fk_w_iconst dX12_readsSum_33 (by decide),
  fun d L st h => fk_r_goto dX12_readsSum_34 (by decide),
  fun d L st h => fk_w_iconst dX12_readsSum_37 (by decide),
  fun d L x0 N y l  => fk_g_call [.int x0] [] rfl lm_12_210 dX12_readsSum_38 rfl ⟨rfl, by decide⟩ (by simp) fk_at_246,
  fun d a1 a2 x st h => fk_w_aloadn 0 [.ref x, a1, a2] dX12_readsSum_41 rfl,
  fun d L st N y l => fk_g_getC rfl lf_12_42 (by decide) rfl dX12_readsSum_42 fk_at_246,
  fun d a1 a2 x st h => fk_w_aloadn 0 [.ref x, a1, a2] dX12_readsSum_45 rfl,
  fun d L st N y l => fk_g_getI rfl lf_12_185 (by decide) dX12_readsSum_46 fk_at_246,
  fun d L st h => fk_g_ldc rfl lc_12_181 (by decide) dX12_readsSum_49,
  fun d a0 a1 x st h => fk_w_iloadn 2 [a0, a1, .int x] dX12_readsSum_51 rfl,
  fun d L x y st h => fk_r_imul dX12_readsSum_52,
  fun d L st N y l i v hi => fk_g_iast fk_at_257 fk_ln_257 (by decide) dX12_readsSum_53 hi,
  fun d a1 a2 x st h => fk_w_aloadn 0 [.ref x, a1, a2] dX12_readsSum_54 rfl,
  fun d a1 a2 x st h => fk_w_aloadn 0 [.ref x, a1, a2] dX12_readsSum_55 rfl,
  fun d L st N y l => fk_g_getI rfl lf_12_185 (by decide) dX12_readsSum_56 fk_at_246,
  fun d L st h => fk_w_iconst dX12_readsSum_59 (by decide),
  fun d L x y st h => fk_r_iadd dX12_readsSum_60,
  fun d L st N y l v => fk_g_putI rfl lf_12_185 (by decide) dX12_readsSum_61 rfl fk_at_246,
  fun d a1 a2 x st h => fk_w_aloadn 0 [.ref x, a1, a2] dX12_readsSum_64 rfl,
  fun d a1 a2 x st h => fk_w_aloadn 0 [.ref x, a1, a2] dX12_readsSum_65 rfl,
  fun d L st N y l => fk_g_getI rfl lf_12_155 (by decide) dX12_readsSum_66 fk_at_246,
  fun d L st h => fk_w_iconst dX12_readsSum_69 (by decide),
  fun d L x y st h => fk_r_iadd dX12_readsSum_70,
  fun d L st N y l v => fk_g_putI rfl lf_12_155 (by decide) dX12_readsSum_71 rfl fk_at_246,
  fun d a1 a2 x st h => fk_w_aloadn 0 [.ref x, a1, a2] dX12_readsSum_74 rfl,
  fun d L  N y l  => fk_g_call [] [] rfl lm_12_204 dX12_readsSum_75 rfl ⟨rfl, by decide⟩ (by simp) fk_at_246,
  fun d L x st h => fk_r_if_ne dX12_readsSum_78 (by decide),
  fun d L st h => fk_w_iconst dX12_readsSum_81 (by decide),
  fun d L h => fk_r_ret dX12_readsSum_82 (Or.inr (Or.inl ⟨rfl, by decide⟩)),
  fun d L h => fk_r_ret dX12_readsSum_82 (Or.inr (Or.inl ⟨rfl, by decide⟩)),
  fun d L p _ h => fk_r_ret dX12_readsSum_82 (Or.inr (Or.inl ⟨rfl, fk_b_01⟩)),
  fun d L x h hx => fk_r_ret dX12_readsSum_82 (Or.inr (Or.inl ⟨rfl, hx⟩)),
  fun d a1 a2 x st h => fk_w_aloadn 0 [.ref x, a1, a2] dX12_readsSum_83 rfl,
  fun d L  N y l  => fk_g_call [] [] rfl lm_12_161 dX12_readsSum_84 rfl ⟨rfl, by decide⟩ (by simp) fk_at_246,
  fun d L st h => fk_w_bipush dX12_readsSum_87 (by decide),
  fun d L x y st h => fk_r_icmp_ne dX12_readsSum_89 (by decide),
  fun d a1 a2 x st h => fk_w_aloadn 0 [.ref x, a1, a2] dX12_readsSum_92 rfl,
  fun d a0 a2 x st h => fk_w_iloadn 1 [a0, .int x, a2] dX12_readsSum_93 rfl,
  fun d L x0 N y l  => fk_g_call [.int x0] [] rfl lm_12_214 dX12_readsSum_94 rfl ⟨rfl, by decide⟩ (by simp) fk_at_246,
  fun d L x st h => fk_r_if_eq dX12_readsSum_97 (by decide),
  fun d a1 a2 x st h => fk_w_aloadn 0 [.ref x, a1, a2] dX12_readsSum_100 rfl,
  fun d L st h => fk_w_iconst dX12_readsSum_101 (by decide),
  fun d L x0 N y l  => fk_g_call [.int x0] [] rfl lm_12_210 dX12_readsSum_102 rfl ⟨rfl, by decide⟩ (by simp) fk_at_246,
  fun d a1 a2 x st h => fk_w_aloadn 0 [.ref x, a1, a2] dX12_readsSum_105 rfl,
  fun d a1 a2 x st h => fk_w_aloadn 0 [.ref x, a1, a2] dX12_readsSum_106 rfl,
  fun d L st N y l => fk_g_getI rfl lf_12_185 (by decide) dX12_readsSum_107 fk_at_246,
  fun d L st h => fk_w_iconst dX12_readsSum_110 (by decide),
  fun d L x y st h => fk_r_isub dX12_readsSum_111,
  fun d L st N y l v => fk_g_putI rfl lf_12_185 (by decide) dX12_readsSum_112 rfl fk_at_246,
  fun d a1 a2 x st h => fk_w_aloadn 0 [.ref x, a1, a2] dX12_readsSum_115 rfl,
  fun d a1 a2 x st h => fk_w_aloadn 0 [.ref x, a1, a2] dX12_readsSum_116 rfl,
  fun d L st N y l => fk_g_getI rfl lf_12_182 (by decide) dX12_readsSum_117 fk_at_246,
  fun d L st h => fk_w_iconst dX12_readsSum_120 (by decide),
  fun d L x y st h => fk_r_isub dX12_readsSum_121,
  fun d L st N y l v => fk_g_putI rfl lf_12_182 (by decide) dX12_readsSum_122 rfl fk_at_246,
  fun d a1 a2 x st h => fk_w_aloadn 0 [.ref x, a1, a2] dX12_readsSum_125 rfl,
  fun d a1 a2 x st h => fk_w_aloadn 0 [.ref x, a1, a2] dX12_readsSum_126 rfl,
  fun d L st N y l => fk_g_getI rfl lf_12_155 (by decide) dX12_readsSum_127 fk_at_246,
  fun d L st h => fk_w_iconst dX12_readsSum_130 (by decide),
  fun d L x y st h => fk_r_iadd dX12_readsSum_131,
  fun d L st N y l v => fk_g_putI rfl lf_12_155 (by decide) dX12_readsSum_132 rfl fk_at_246,
  fun d L st h => fk_r_goto dX12_readsSum_135 (by decide),
  fun d a1 a2 x st h => fk_w_aloadn 0 [.ref x, a1, a2] dX12_readsSum_138 rfl,
  fun d a0 a2 x st h => fk_w_iloadn 1 [a0, .int x, a2] dX12_readsSum_139 rfl,
  fun d L x0 N y l  => fk_g_call [.int x0] [] rfl lm_12_214 dX12_readsSum_140 rfl ⟨rfl, by decide⟩ (by simp) fk_at_246,
  fun d L x st h => fk_r_if_eq dX12_readsSum_143 (by decide),
  fun d a1 a2 x st h => fk_w_aloadn 0 [.ref x, a1, a2] dX12_readsSum_146 rfl,
  fun d L st h => fk_w_iconst dX12_readsSum_147 (by decide),
  fun d a1 a2 x st h => fk_w_aloadn 0 [.ref x, a1, a2] dX12_readsSum_148 rfl,
  fun d L st N y l => fk_g_getI rfl lf_12_155 (by decide) dX12_readsSum_149 fk_at_246,
  fun d L x0 x1 N y l  => fk_g_call [.int x0, .int x1] [] rfl lm_12_168 dX12_readsSum_152 rfl ⟨rfl, by decide⟩ (by simp) fk_at_246,
  fun d L h => fk_r_ret dX12_readsSum_155 (Or.inr (Or.inl ⟨rfl, by decide⟩)),
  fun d L h => fk_r_ret dX12_readsSum_155 (Or.inr (Or.inl ⟨rfl, by decide⟩)),
  fun d L p _ h => fk_r_ret dX12_readsSum_155 (Or.inr (Or.inl ⟨rfl, fk_b_01⟩)),
  fun d L x h hx => fk_r_ret dX12_readsSum_155 (Or.inr (Or.inl ⟨rfl, hx⟩)),
  fun d a1 a2 x st h => fk_w_aloadn 0 [.ref x, a1, a2] dX12_readsSum_156 rfl,
  fun d L st h => fk_w_iconst dX12_readsSum_157 (by decide),
  fun d L x0 N y l  => fk_g_call [.int x0] [] rfl lm_12_210 dX12_readsSum_158 rfl ⟨rfl, by decide⟩ (by simp) fk_at_246,
  fun d L st h => fk_w_iconst dX12_readsSum_161 (by decide),
  fun d L h => fk_r_ret dX12_readsSum_162 (Or.inr (Or.inl ⟨rfl, by decide⟩)),
  fun d L h => fk_r_ret dX12_readsSum_162 (Or.inr (Or.inl ⟨rfl, by decide⟩)),
  fun d L p _ h => fk_r_ret dX12_readsSum_162 (Or.inr (Or.inl ⟨rfl, fk_b_01⟩)),
  fun d L x h hx => fk_r_ret dX12_readsSum_162 (Or.inr (Or.inl ⟨rfl, hx⟩)),
  fun d L st h => fk_r_goto dX12_readsSum_163 (by decide)⟩
theorem hX12_readsSum_14 : ∀ (d : Nat) (a1 a2 : Value) (x : Nat) (st : List Value) (h : fk_H), fk_ev d qX12_readsSum 14 [.ref x, a1, a2] st h = fk_ev d qX12_readsSum 15 [.ref x, a1, a2] (.ref x :: st) h := fun d a1 a2 x st h => fk_w_aloadn 0 [.ref x, a1, a2] dX12_readsSum_14 rfl
theorem dX12_endsPiece_0 : decode cX12_endsPiece 0 = .ok (.aload_n 0, 1) := by decide +kernel
theorem dX12_endsPiece_1 : decode cX12_endsPiece 1 = .ok (.invokevirtual 188, 3) := by decide +kernel
theorem dX12_endsPiece_4 : decode cX12_endsPiece 4 = .ok (.bipush 10, 2) := by decide +kernel
theorem dX12_endsPiece_6 : decode cX12_endsPiece 6 = .ok (.if_icmp .ne 33, 3) := by decide +kernel
theorem dX12_endsPiece_9 : decode cX12_endsPiece 9 = .ok (.aload_n 0, 1) := by decide +kernel
theorem dX12_endsPiece_10 : decode cX12_endsPiece 10 = .ok (.bipush 10, 2) := by decide +kernel
theorem dX12_endsPiece_12 : decode cX12_endsPiece 12 = .ok (.iconst 0, 1) := by decide +kernel
theorem dX12_endsPiece_13 : decode cX12_endsPiece 13 = .ok (.invokevirtual 191, 3) := by decide +kernel
theorem dX12_endsPiece_16 : decode cX12_endsPiece 16 = .ok (.aload_n 0, 1) := by decide +kernel
theorem dX12_endsPiece_17 : decode cX12_endsPiece 17 = .ok (.aload_n 0, 1) := by decide +kernel
theorem dX12_endsPiece_18 : decode cX12_endsPiece 18 = .ok (.getfield 185, 3) := by decide +kernel
theorem dX12_endsPiece_21 : decode cX12_endsPiece 21 = .ok (.iconst 1, 1) := by decide +kernel
theorem dX12_endsPiece_22 : decode cX12_endsPiece 22 = .ok (.isub, 1) := by decide +kernel
theorem dX12_endsPiece_23 : decode cX12_endsPiece 23 = .ok (.putfield 185, 3) := by decide +kernel
theorem dX12_endsPiece_26 : decode cX12_endsPiece 26 = .ok (.aload_n 0, 1) := by decide +kernel
theorem dX12_endsPiece_27 : decode cX12_endsPiece 27 = .ok (.aload_n 0, 1) := by decide +kernel
theorem dX12_endsPiece_28 : decode cX12_endsPiece 28 = .ok (.getfield 182, 3) := by decide +kernel
theorem dX12_endsPiece_31 : decode cX12_endsPiece 31 = .ok (.iconst 1, 1) := by decide +kernel
theorem dX12_endsPiece_32 : decode cX12_endsPiece 32 = .ok (.isub, 1) := by decide +kernel
theorem dX12_endsPiece_33 : decode cX12_endsPiece 33 = .ok (.putfield 182, 3) := by decide +kernel
theorem dX12_endsPiece_36 : decode cX12_endsPiece 36 = .ok (.goto (-36), 3) := by decide +kernel
theorem dX12_endsPiece_39 : decode cX12_endsPiece 39 = .ok (.return_, 1) := by decide +kernel
theorem rX12_endsPiece : (∀ (d : Nat) (L : List Value)   (N : Nat) (y : Nat → Nat → Int32) (l : Nat → Nat → Int64), fk_ev (d + 1) qX12_endsPiece 1 L (.ref 246 :: []) (fk_E N y l) = (fk_ev d qX12_waitTop 0 [.ref 246] [] (fk_E N y l)).bind fun o => fk_ev (d + 1) qX12_endsPiece 4 L (o.1.toList ++ []) o.2) ∧
  (∀ (d : Nat) (L st : List Value) (h : fk_H), fk_ev d qX12_endsPiece 4 L st h = fk_ev d qX12_endsPiece 6 L (.int (nI 10) :: st) h) ∧
  (∀ (d : Nat) (L : List Value) (x y : Int32) (st : List Value) (h : fk_H), fk_ev d qX12_endsPiece 6 L (.int y :: .int x :: st) h = if ¬ x = y then fk_ev d qX12_endsPiece 39 L st h else fk_ev d qX12_endsPiece 9 L st h) ∧
  (∀ (d : Nat) (x : Nat) (st : List Value) (h : fk_H), fk_ev d qX12_endsPiece 9 [.ref x] st h = fk_ev d qX12_endsPiece 10 [.ref x] (.ref x :: st) h) ∧
  (∀ (d : Nat) (L st : List Value) (h : fk_H), fk_ev d qX12_endsPiece 10 L st h = fk_ev d qX12_endsPiece 12 L (.int (nI 10) :: st) h) ∧
  (∀ (d : Nat) (L st : List Value) (h : fk_H), fk_ev d qX12_endsPiece 12 L st h = fk_ev d qX12_endsPiece 13 L (.int (nI 0) :: st) h) ∧
  (∀ (d : Nat) (L : List Value) (x0 : Int32) (x1 : Int32)  (N : Nat) (y : Nat → Nat → Int32) (l : Nat → Nat → Int64), fk_ev (d + 1) qX12_endsPiece 13 L (.int x1 :: .int x0 :: .ref 246 :: []) (fk_E N y l) = (fk_ev d qX12_notes 0 [.ref 246, .int x0, .int x1] [] (fk_E N y l)).bind fun o => fk_ev (d + 1) qX12_endsPiece 16 L (o.1.toList ++ []) o.2) ∧
  (∀ (d : Nat) (x : Nat) (st : List Value) (h : fk_H), fk_ev d qX12_endsPiece 16 [.ref x] st h = fk_ev d qX12_endsPiece 17 [.ref x] (.ref x :: st) h) ∧
  (∀ (d : Nat) (x : Nat) (st : List Value) (h : fk_H), fk_ev d qX12_endsPiece 17 [.ref x] st h = fk_ev d qX12_endsPiece 18 [.ref x] (.ref x :: st) h) ∧
  (∀ (d : Nat) (L st : List Value) (N : Nat) (y : Nat → Nat → Int32) (l : Nat → Nat → Int64), fk_ev d qX12_endsPiece 18 L (.ref 246 :: st) (fk_E N y l) = fk_ev d qX12_endsPiece 21 L (.int (y 246 17) :: st) (fk_E N y l)) ∧
  (∀ (d : Nat) (L st : List Value) (h : fk_H), fk_ev d qX12_endsPiece 21 L st h = fk_ev d qX12_endsPiece 22 L (.int (nI 1) :: st) h) ∧
  (∀ (d : Nat) (L : List Value) (x y : Int32) (st : List Value) (h : fk_H), fk_ev d qX12_endsPiece 22 L (.int y :: .int x :: st) h = fk_ev d qX12_endsPiece 23 L (.int (x - y) :: st) h) ∧
  (∀ (d : Nat) (L st : List Value) (N : Nat) (y : Nat → Nat → Int32) (l : Nat → Nat → Int64) (v : Int32), fk_ev d qX12_endsPiece 23 L (.int v :: .ref 246 :: st) (fk_E N y l) = fk_ev d qX12_endsPiece 26 L st (fk_E N (fk_u y 246 17 v) l)) ∧
  (∀ (d : Nat) (x : Nat) (st : List Value) (h : fk_H), fk_ev d qX12_endsPiece 26 [.ref x] st h = fk_ev d qX12_endsPiece 27 [.ref x] (.ref x :: st) h) ∧
  (∀ (d : Nat) (x : Nat) (st : List Value) (h : fk_H), fk_ev d qX12_endsPiece 27 [.ref x] st h = fk_ev d qX12_endsPiece 28 [.ref x] (.ref x :: st) h) ∧
  (∀ (d : Nat) (L st : List Value) (N : Nat) (y : Nat → Nat → Int32) (l : Nat → Nat → Int64), fk_ev d qX12_endsPiece 28 L (.ref 246 :: st) (fk_E N y l) = fk_ev d qX12_endsPiece 31 L (.int (y 246 15) :: st) (fk_E N y l)) ∧
  (∀ (d : Nat) (L st : List Value) (h : fk_H), fk_ev d qX12_endsPiece 31 L st h = fk_ev d qX12_endsPiece 32 L (.int (nI 1) :: st) h) ∧
  (∀ (d : Nat) (L : List Value) (x y : Int32) (st : List Value) (h : fk_H), fk_ev d qX12_endsPiece 32 L (.int y :: .int x :: st) h = fk_ev d qX12_endsPiece 33 L (.int (x - y) :: st) h) ∧
  (∀ (d : Nat) (L st : List Value) (N : Nat) (y : Nat → Nat → Int32) (l : Nat → Nat → Int64) (v : Int32), fk_ev d qX12_endsPiece 33 L (.int v :: .ref 246 :: st) (fk_E N y l) = fk_ev d qX12_endsPiece 36 L st (fk_E N (fk_u y 246 15 v) l)) ∧
  (∀ (d : Nat) (L st : List Value) (h : fk_H), fk_ev d qX12_endsPiece 36 L st h = fk_ev d qX12_endsPiece 0 L st h) ∧
  (∀ (d : Nat) (L : List Value) (h : fk_H), fk_ev d qX12_endsPiece 39 L [] h = some (none, h)) := ⟨fun d L  N y l  => fk_g_call [] [] rfl lm_12_188 dX12_endsPiece_1 rfl ⟨rfl, by decide⟩ (by simp) fk_at_246,
  fun d L st h => fk_w_bipush dX12_endsPiece_4 (by decide),
  fun d L x y st h => fk_r_icmp_ne dX12_endsPiece_6 (by decide),
  fun d  x st h => fk_w_aloadn 0 [.ref x] dX12_endsPiece_9 rfl,
  fun d L st h => fk_w_bipush dX12_endsPiece_10 (by decide),
  fun d L st h => fk_w_iconst dX12_endsPiece_12 (by decide),
  fun d L x0 x1 N y l  => fk_g_call [.int x0, .int x1] [] rfl lm_12_191 dX12_endsPiece_13 rfl ⟨rfl, by decide⟩ (by simp) fk_at_246,
  fun d  x st h => fk_w_aloadn 0 [.ref x] dX12_endsPiece_16 rfl,
  fun d  x st h => fk_w_aloadn 0 [.ref x] dX12_endsPiece_17 rfl,
  fun d L st N y l => fk_g_getI rfl lf_12_185 (by decide) dX12_endsPiece_18 fk_at_246,
  fun d L st h => fk_w_iconst dX12_endsPiece_21 (by decide),
  fun d L x y st h => fk_r_isub dX12_endsPiece_22,
  fun d L st N y l v => fk_g_putI rfl lf_12_185 (by decide) dX12_endsPiece_23 rfl fk_at_246,
  fun d  x st h => fk_w_aloadn 0 [.ref x] dX12_endsPiece_26 rfl,
  fun d  x st h => fk_w_aloadn 0 [.ref x] dX12_endsPiece_27 rfl,
  fun d L st N y l => fk_g_getI rfl lf_12_182 (by decide) dX12_endsPiece_28 fk_at_246,
  fun d L st h => fk_w_iconst dX12_endsPiece_31 (by decide),
  fun d L x y st h => fk_r_isub dX12_endsPiece_32,
  fun d L st N y l v => fk_g_putI rfl lf_12_182 (by decide) dX12_endsPiece_33 rfl fk_at_246,
  fun d L st h => fk_r_goto dX12_endsPiece_36 (by decide),
  fun d L h => fk_r_vret dX12_endsPiece_39 rfl⟩
theorem hX12_endsPiece_0 : ∀ (d : Nat) (x : Nat) (st : List Value) (h : fk_H), fk_ev d qX12_endsPiece 0 [.ref x] st h = fk_ev d qX12_endsPiece 1 [.ref x] (.ref x :: st) h := fun d  x st h => fk_w_aloadn 0 [.ref x] dX12_endsPiece_0 rfl
theorem dX12_lands_0 : decode cX12_lands 0 = .ok (.aload_n 0, 1) := by decide +kernel
theorem dX12_lands_1 : decode cX12_lands 1 = .ok (.invokevirtual 188, 3) := by decide +kernel
theorem dX12_lands_4 : decode cX12_lands 4 = .ok (.bipush 11, 2) := by decide +kernel
theorem dX12_lands_6 : decode cX12_lands 6 = .ok (.if_icmp .eq 16, 3) := by decide +kernel
theorem dX12_lands_9 : decode cX12_lands 9 = .ok (.iload_n 1, 1) := by decide +kernel
theorem dX12_lands_10 : decode cX12_lands 10 = .ok (.ifCond .eq 63, 3) := by decide +kernel
theorem dX12_lands_13 : decode cX12_lands 13 = .ok (.aload_n 0, 1) := by decide +kernel
theorem dX12_lands_14 : decode cX12_lands 14 = .ok (.invokevirtual 188, 3) := by decide +kernel
theorem dX12_lands_17 : decode cX12_lands 17 = .ok (.bipush 12, 2) := by decide +kernel
theorem dX12_lands_19 : decode cX12_lands 19 = .ok (.if_icmp .ne 54, 3) := by decide +kernel
theorem dX12_lands_22 : decode cX12_lands 22 = .ok (.aload_n 0, 1) := by decide +kernel
theorem dX12_lands_23 : decode cX12_lands 23 = .ok (.getfield 42, 3) := by decide +kernel
theorem dX12_lands_26 : decode cX12_lands 26 = .ok (.aload_n 0, 1) := by decide +kernel
theorem dX12_lands_27 : decode cX12_lands 27 = .ok (.getfield 185, 3) := by decide +kernel
theorem dX12_lands_30 : decode cX12_lands 30 = .ok (.iconst 1, 1) := by decide +kernel
theorem dX12_lands_31 : decode cX12_lands 31 = .ok (.isub, 1) := by decide +kernel
theorem dX12_lands_32 : decode cX12_lands 32 = .ok (.iaload, 1) := by decide +kernel
theorem dX12_lands_33 : decode cX12_lands 33 = .ok (.ldc 181, 2) := by decide +kernel
theorem dX12_lands_35 : decode cX12_lands 35 = .ok (.irem, 1) := by decide +kernel
theorem dX12_lands_36 : decode cX12_lands 36 = .ok (.istore_n 2, 1) := by decide +kernel
theorem dX12_lands_37 : decode cX12_lands 37 = .ok (.aload_n 0, 1) := by decide +kernel
theorem dX12_lands_38 : decode cX12_lands 38 = .ok (.getfield 39, 3) := by decide +kernel
theorem dX12_lands_41 : decode cX12_lands 41 = .ok (.iload_n 2, 1) := by decide +kernel
theorem dX12_lands_42 : decode cX12_lands 42 = .ok (.ldc 181, 2) := by decide +kernel
theorem dX12_lands_44 : decode cX12_lands 44 = .ok (.aload_n 0, 1) := by decide +kernel
theorem dX12_lands_45 : decode cX12_lands 45 = .ok (.getfield 39, 3) := by decide +kernel
theorem dX12_lands_48 : decode cX12_lands 48 = .ok (.iload_n 2, 1) := by decide +kernel
theorem dX12_lands_49 : decode cX12_lands 49 = .ok (.iaload, 1) := by decide +kernel
theorem dX12_lands_50 : decode cX12_lands 50 = .ok (.ldc 181, 2) := by decide +kernel
theorem dX12_lands_52 : decode cX12_lands 52 = .ok (.idiv, 1) := by decide +kernel
theorem dX12_lands_53 : decode cX12_lands 53 = .ok (.imul, 1) := by decide +kernel
theorem dX12_lands_54 : decode cX12_lands 54 = .ok (.aload_n 0, 1) := by decide +kernel
theorem dX12_lands_55 : decode cX12_lands 55 = .ok (.getfield 178, 3) := by decide +kernel
theorem dX12_lands_58 : decode cX12_lands 58 = .ok (.iadd, 1) := by decide +kernel
theorem dX12_lands_59 : decode cX12_lands 59 = .ok (.iastore, 1) := by decide +kernel
theorem dX12_lands_60 : decode cX12_lands 60 = .ok (.aload_n 0, 1) := by decide +kernel
theorem dX12_lands_61 : decode cX12_lands 61 = .ok (.aload_n 0, 1) := by decide +kernel
theorem dX12_lands_62 : decode cX12_lands 62 = .ok (.getfield 185, 3) := by decide +kernel
theorem dX12_lands_65 : decode cX12_lands 65 = .ok (.iconst 1, 1) := by decide +kernel
theorem dX12_lands_66 : decode cX12_lands 66 = .ok (.isub, 1) := by decide +kernel
theorem dX12_lands_67 : decode cX12_lands 67 = .ok (.putfield 185, 3) := by decide +kernel
theorem dX12_lands_70 : decode cX12_lands 70 = .ok (.goto (-70), 3) := by decide +kernel
theorem dX12_lands_73 : decode cX12_lands 73 = .ok (.return_, 1) := by decide +kernel
theorem rX12_lands : (∀ (d : Nat) (L : List Value)   (N : Nat) (y : Nat → Nat → Int32) (l : Nat → Nat → Int64), fk_ev (d + 1) qX12_lands 1 L (.ref 246 :: []) (fk_E N y l) = (fk_ev d qX12_waitTop 0 [.ref 246] [] (fk_E N y l)).bind fun o => fk_ev (d + 1) qX12_lands 4 L (o.1.toList ++ []) o.2) ∧
  (∀ (d : Nat) (L st : List Value) (h : fk_H), fk_ev d qX12_lands 4 L st h = fk_ev d qX12_lands 6 L (.int (nI 11) :: st) h) ∧
  (∀ (d : Nat) (L : List Value) (x y : Int32) (st : List Value) (h : fk_H), fk_ev d qX12_lands 6 L (.int y :: .int x :: st) h = if x = y then fk_ev d qX12_lands 22 L st h else fk_ev d qX12_lands 9 L st h) ∧
  (∀ (d : Nat) (a0 a2 : Value) (x : Int32) (st : List Value) (h : fk_H), fk_ev d qX12_lands 9 [a0, .int x, a2] st h = fk_ev d qX12_lands 10 [a0, .int x, a2] (.int x :: st) h) ∧
  (∀ (d : Nat) (L : List Value) (x : Int32) (st : List Value) (h : fk_H), fk_ev d qX12_lands 10 L (.int x :: st) h = if x = nI 0 then fk_ev d qX12_lands 73 L st h else fk_ev d qX12_lands 13 L st h) ∧
  (∀ (d : Nat) (a1 a2 : Value) (x : Nat) (st : List Value) (h : fk_H), fk_ev d qX12_lands 13 [.ref x, a1, a2] st h = fk_ev d qX12_lands 14 [.ref x, a1, a2] (.ref x :: st) h) ∧
  (∀ (d : Nat) (L : List Value)   (N : Nat) (y : Nat → Nat → Int32) (l : Nat → Nat → Int64), fk_ev (d + 1) qX12_lands 14 L (.ref 246 :: []) (fk_E N y l) = (fk_ev d qX12_waitTop 0 [.ref 246] [] (fk_E N y l)).bind fun o => fk_ev (d + 1) qX12_lands 17 L (o.1.toList ++ []) o.2) ∧
  (∀ (d : Nat) (L st : List Value) (h : fk_H), fk_ev d qX12_lands 17 L st h = fk_ev d qX12_lands 19 L (.int (nI 12) :: st) h) ∧
  (∀ (d : Nat) (L : List Value) (x y : Int32) (st : List Value) (h : fk_H), fk_ev d qX12_lands 19 L (.int y :: .int x :: st) h = if ¬ x = y then fk_ev d qX12_lands 73 L st h else fk_ev d qX12_lands 22 L st h) ∧
  (∀ (d : Nat) (a1 a2 : Value) (x : Nat) (st : List Value) (h : fk_H), fk_ev d qX12_lands 22 [.ref x, a1, a2] st h = fk_ev d qX12_lands 23 [.ref x, a1, a2] (.ref x :: st) h) ∧
  (∀ (d : Nat) (L st : List Value) (N : Nat) (y : Nat → Nat → Int32) (l : Nat → Nat → Int64), fk_ev d qX12_lands 23 L (.ref 246 :: st) (fk_E N y l) = fk_ev d qX12_lands 26 L (.ref 257 :: st) (fk_E N y l)) ∧
  (∀ (d : Nat) (a1 a2 : Value) (x : Nat) (st : List Value) (h : fk_H), fk_ev d qX12_lands 26 [.ref x, a1, a2] st h = fk_ev d qX12_lands 27 [.ref x, a1, a2] (.ref x :: st) h) ∧
  (∀ (d : Nat) (L st : List Value) (N : Nat) (y : Nat → Nat → Int32) (l : Nat → Nat → Int64), fk_ev d qX12_lands 27 L (.ref 246 :: st) (fk_E N y l) = fk_ev d qX12_lands 30 L (.int (y 246 17) :: st) (fk_E N y l)) ∧
  (∀ (d : Nat) (L st : List Value) (h : fk_H), fk_ev d qX12_lands 30 L st h = fk_ev d qX12_lands 31 L (.int (nI 1) :: st) h) ∧
  (∀ (d : Nat) (L : List Value) (x y : Int32) (st : List Value) (h : fk_H), fk_ev d qX12_lands 31 L (.int y :: .int x :: st) h = fk_ev d qX12_lands 32 L (.int (x - y) :: st) h) ∧
  (∀ (d : Nat) (L st : List Value) (N : Nat) (y : Nat → Nat → Int32) (l : Nat → Nat → Int64) (i : Nat), i < 260 → fk_ev d qX12_lands 32 L (.int (nI i) :: .ref 257 :: st) (fk_E N y l) = fk_ev d qX12_lands 33 L (.int (y 257 i) :: st) (fk_E N y l)) ∧
  (∀ (d : Nat) (L st : List Value) (h : fk_H), fk_ev d qX12_lands 33 L st h = fk_ev d qX12_lands 35 L (.int (nI 1048576) :: st) h) ∧
  (∀ (d : Nat) (L : List Value) (x y : Int32) (st : List Value) (h : fk_H), fk_ev d qX12_lands 35 L (.int y :: .int x :: st) h = if y = 0 then none else fk_ev d qX12_lands 36 L (.int (x - x / y * y) :: st) h) ∧
  (∀ (d : Nat) (a0 a1 a2 : Value) (x : Int32) (st : List Value) (h : fk_H), fk_ev d qX12_lands 36 [a0, a1, a2] (.int x :: st) h = fk_ev d qX12_lands 37 [a0, a1, .int x] st h) ∧
  (∀ (d : Nat) (a1 a2 : Value) (x : Nat) (st : List Value) (h : fk_H), fk_ev d qX12_lands 37 [.ref x, a1, a2] st h = fk_ev d qX12_lands 38 [.ref x, a1, a2] (.ref x :: st) h) ∧
  (∀ (d : Nat) (L st : List Value) (N : Nat) (y : Nat → Nat → Int32) (l : Nat → Nat → Int64), fk_ev d qX12_lands 38 L (.ref 246 :: st) (fk_E N y l) = fk_ev d qX12_lands 41 L (.ref 256 :: st) (fk_E N y l)) ∧
  (∀ (d : Nat) (a0 a1 : Value) (x : Int32) (st : List Value) (h : fk_H), fk_ev d qX12_lands 41 [a0, a1, .int x] st h = fk_ev d qX12_lands 42 [a0, a1, .int x] (.int x :: st) h) ∧
  (∀ (d : Nat) (L st : List Value) (h : fk_H), fk_ev d qX12_lands 42 L st h = fk_ev d qX12_lands 44 L (.int (nI 1048576) :: st) h) ∧
  (∀ (d : Nat) (a1 a2 : Value) (x : Nat) (st : List Value) (h : fk_H), fk_ev d qX12_lands 44 [.ref x, a1, a2] st h = fk_ev d qX12_lands 45 [.ref x, a1, a2] (.ref x :: st) h) ∧
  (∀ (d : Nat) (L st : List Value) (N : Nat) (y : Nat → Nat → Int32) (l : Nat → Nat → Int64), fk_ev d qX12_lands 45 L (.ref 246 :: st) (fk_E N y l) = fk_ev d qX12_lands 48 L (.ref 256 :: st) (fk_E N y l)) ∧
  (∀ (d : Nat) (a0 a1 : Value) (x : Int32) (st : List Value) (h : fk_H), fk_ev d qX12_lands 48 [a0, a1, .int x] st h = fk_ev d qX12_lands 49 [a0, a1, .int x] (.int x :: st) h) ∧
  (∀ (d : Nat) (L st : List Value) (N : Nat) (y : Nat → Nat → Int32) (l : Nat → Nat → Int64) (i : Nat), i < 260 → fk_ev d qX12_lands 49 L (.int (nI i) :: .ref 256 :: st) (fk_E N y l) = fk_ev d qX12_lands 50 L (.int (y 256 i) :: st) (fk_E N y l)) ∧
  (∀ (d : Nat) (L st : List Value) (h : fk_H), fk_ev d qX12_lands 50 L st h = fk_ev d qX12_lands 52 L (.int (nI 1048576) :: st) h) ∧
  (∀ (d : Nat) (L : List Value) (x y : Int32) (st : List Value) (h : fk_H), fk_ev d qX12_lands 52 L (.int y :: .int x :: st) h = if y = 0 then none else fk_ev d qX12_lands 53 L (.int (x / y) :: st) h) ∧
  (∀ (d : Nat) (L : List Value) (x y : Int32) (st : List Value) (h : fk_H), fk_ev d qX12_lands 53 L (.int y :: .int x :: st) h = fk_ev d qX12_lands 54 L (.int (x * y) :: st) h) ∧
  (∀ (d : Nat) (a1 a2 : Value) (x : Nat) (st : List Value) (h : fk_H), fk_ev d qX12_lands 54 [.ref x, a1, a2] st h = fk_ev d qX12_lands 55 [.ref x, a1, a2] (.ref x :: st) h) ∧
  (∀ (d : Nat) (L st : List Value) (N : Nat) (y : Nat → Nat → Int32) (l : Nat → Nat → Int64), fk_ev d qX12_lands 55 L (.ref 246 :: st) (fk_E N y l) = fk_ev d qX12_lands 58 L (.int (y 246 16) :: st) (fk_E N y l)) ∧
  (∀ (d : Nat) (L : List Value) (x y : Int32) (st : List Value) (h : fk_H), fk_ev d qX12_lands 58 L (.int y :: .int x :: st) h = fk_ev d qX12_lands 59 L (.int (x + y) :: st) h) ∧
  (∀ (d : Nat) (L st : List Value) (N : Nat) (y : Nat → Nat → Int32) (l : Nat → Nat → Int64) (i : Nat) (v : Int32), i < 260 → fk_ev d qX12_lands 59 L (.int v :: .int (nI i) :: .ref 256 :: st) (fk_E N y l) = fk_ev d qX12_lands 60 L st (fk_E N (fk_u y 256 i v) l)) ∧
  (∀ (d : Nat) (a1 a2 : Value) (x : Nat) (st : List Value) (h : fk_H), fk_ev d qX12_lands 60 [.ref x, a1, a2] st h = fk_ev d qX12_lands 61 [.ref x, a1, a2] (.ref x :: st) h) ∧
  (∀ (d : Nat) (a1 a2 : Value) (x : Nat) (st : List Value) (h : fk_H), fk_ev d qX12_lands 61 [.ref x, a1, a2] st h = fk_ev d qX12_lands 62 [.ref x, a1, a2] (.ref x :: st) h) ∧
  (∀ (d : Nat) (L st : List Value) (N : Nat) (y : Nat → Nat → Int32) (l : Nat → Nat → Int64), fk_ev d qX12_lands 62 L (.ref 246 :: st) (fk_E N y l) = fk_ev d qX12_lands 65 L (.int (y 246 17) :: st) (fk_E N y l)) ∧
  (∀ (d : Nat) (L st : List Value) (h : fk_H), fk_ev d qX12_lands 65 L st h = fk_ev d qX12_lands 66 L (.int (nI 1) :: st) h) ∧
  (∀ (d : Nat) (L : List Value) (x y : Int32) (st : List Value) (h : fk_H), fk_ev d qX12_lands 66 L (.int y :: .int x :: st) h = fk_ev d qX12_lands 67 L (.int (x - y) :: st) h) ∧
  (∀ (d : Nat) (L st : List Value) (N : Nat) (y : Nat → Nat → Int32) (l : Nat → Nat → Int64) (v : Int32), fk_ev d qX12_lands 67 L (.int v :: .ref 246 :: st) (fk_E N y l) = fk_ev d qX12_lands 70 L st (fk_E N (fk_u y 246 17 v) l)) ∧
  (∀ (d : Nat) (L st : List Value) (h : fk_H), fk_ev d qX12_lands 70 L st h = fk_ev d qX12_lands 0 L st h) ∧
  (∀ (d : Nat) (L : List Value) (h : fk_H), fk_ev d qX12_lands 73 L [] h = some (none, h)) := ⟨fun d L  N y l  => fk_g_call [] [] rfl lm_12_188 dX12_lands_1 rfl ⟨rfl, by decide⟩ (by simp) fk_at_246,
  fun d L st h => fk_w_bipush dX12_lands_4 (by decide),
  fun d L x y st h => fk_r_icmp_eq dX12_lands_6 (by decide),
  fun d a0 a2 x st h => fk_w_iloadn 1 [a0, .int x, a2] dX12_lands_9 rfl,
  fun d L x st h => fk_r_if_eq dX12_lands_10 (by decide),
  fun d a1 a2 x st h => fk_w_aloadn 0 [.ref x, a1, a2] dX12_lands_13 rfl,
  fun d L  N y l  => fk_g_call [] [] rfl lm_12_188 dX12_lands_14 rfl ⟨rfl, by decide⟩ (by simp) fk_at_246,
  fun d L st h => fk_w_bipush dX12_lands_17 (by decide),
  fun d L x y st h => fk_r_icmp_ne dX12_lands_19 (by decide),
  fun d a1 a2 x st h => fk_w_aloadn 0 [.ref x, a1, a2] dX12_lands_22 rfl,
  fun d L st N y l => fk_g_getC rfl lf_12_42 (by decide) rfl dX12_lands_23 fk_at_246,
  fun d a1 a2 x st h => fk_w_aloadn 0 [.ref x, a1, a2] dX12_lands_26 rfl,
  fun d L st N y l => fk_g_getI rfl lf_12_185 (by decide) dX12_lands_27 fk_at_246,
  fun d L st h => fk_w_iconst dX12_lands_30 (by decide),
  fun d L x y st h => fk_r_isub dX12_lands_31,
  fun d L st N y l i hi => fk_g_iald fk_at_257 fk_ln_257 (by decide) dX12_lands_32 hi,
  fun d L st h => fk_g_ldc rfl lc_12_181 (by decide) dX12_lands_33,
  fun d L x y st h => fk_r_irem dX12_lands_35,
  fun d a0 a1 a2 x st h => fk_w_istoren 2 3 [] [a0, a1, a2] [a0, a1, .int x] dX12_lands_36 rfl rfl (by decide) rfl,
  fun d a1 a2 x st h => fk_w_aloadn 0 [.ref x, a1, a2] dX12_lands_37 rfl,
  fun d L st N y l => fk_g_getC rfl lf_12_39 (by decide) rfl dX12_lands_38 fk_at_246,
  fun d a0 a1 x st h => fk_w_iloadn 2 [a0, a1, .int x] dX12_lands_41 rfl,
  fun d L st h => fk_g_ldc rfl lc_12_181 (by decide) dX12_lands_42,
  fun d a1 a2 x st h => fk_w_aloadn 0 [.ref x, a1, a2] dX12_lands_44 rfl,
  fun d L st N y l => fk_g_getC rfl lf_12_39 (by decide) rfl dX12_lands_45 fk_at_246,
  fun d a0 a1 x st h => fk_w_iloadn 2 [a0, a1, .int x] dX12_lands_48 rfl,
  fun d L st N y l i hi => fk_g_iald fk_at_256 fk_ln_256 (by decide) dX12_lands_49 hi,
  fun d L st h => fk_g_ldc rfl lc_12_181 (by decide) dX12_lands_50,
  fun d L x y st h => fk_r_idiv dX12_lands_52,
  fun d L x y st h => fk_r_imul dX12_lands_53,
  fun d a1 a2 x st h => fk_w_aloadn 0 [.ref x, a1, a2] dX12_lands_54 rfl,
  fun d L st N y l => fk_g_getI rfl lf_12_178 (by decide) dX12_lands_55 fk_at_246,
  fun d L x y st h => fk_r_iadd dX12_lands_58,
  fun d L st N y l i v hi => fk_g_iast fk_at_256 fk_ln_256 (by decide) dX12_lands_59 hi,
  fun d a1 a2 x st h => fk_w_aloadn 0 [.ref x, a1, a2] dX12_lands_60 rfl,
  fun d a1 a2 x st h => fk_w_aloadn 0 [.ref x, a1, a2] dX12_lands_61 rfl,
  fun d L st N y l => fk_g_getI rfl lf_12_185 (by decide) dX12_lands_62 fk_at_246,
  fun d L st h => fk_w_iconst dX12_lands_65 (by decide),
  fun d L x y st h => fk_r_isub dX12_lands_66,
  fun d L st N y l v => fk_g_putI rfl lf_12_185 (by decide) dX12_lands_67 rfl fk_at_246,
  fun d L st h => fk_r_goto dX12_lands_70 (by decide),
  fun d L h => fk_r_vret dX12_lands_73 rfl⟩
theorem hX12_lands_0 : ∀ (d : Nat) (a1 a2 : Value) (x : Nat) (st : List Value) (h : fk_H), fk_ev d qX12_lands 0 [.ref x, a1, a2] st h = fk_ev d qX12_lands 1 [.ref x, a1, a2] (.ref x :: st) h := fun d a1 a2 x st h => fk_w_aloadn 0 [.ref x, a1, a2] dX12_lands_0 rfl
theorem dX12_jumps_0 : decode cX12_jumps 0 = .ok (.aload_n 0, 1) := by decide +kernel
theorem dX12_jumps_1 : decode cX12_jumps 1 = .ok (.getfield 42, 3) := by decide +kernel
theorem dX12_jumps_4 : decode cX12_jumps 4 = .ok (.aload_n 0, 1) := by decide +kernel
theorem dX12_jumps_5 : decode cX12_jumps 5 = .ok (.getfield 185, 3) := by decide +kernel
theorem dX12_jumps_8 : decode cX12_jumps 8 = .ok (.ldc 181, 2) := by decide +kernel
theorem dX12_jumps_10 : decode cX12_jumps 10 = .ok (.iload_n 1, 1) := by decide +kernel
theorem dX12_jumps_11 : decode cX12_jumps 11 = .ok (.imul, 1) := by decide +kernel
theorem dX12_jumps_12 : decode cX12_jumps 12 = .ok (.aload_n 0, 1) := by decide +kernel
theorem dX12_jumps_13 : decode cX12_jumps 13 = .ok (.getfield 178, 3) := by decide +kernel
theorem dX12_jumps_16 : decode cX12_jumps 16 = .ok (.iadd, 1) := by decide +kernel
theorem dX12_jumps_17 : decode cX12_jumps 17 = .ok (.iastore, 1) := by decide +kernel
theorem dX12_jumps_18 : decode cX12_jumps 18 = .ok (.aload_n 0, 1) := by decide +kernel
theorem dX12_jumps_19 : decode cX12_jumps 19 = .ok (.aload_n 0, 1) := by decide +kernel
theorem dX12_jumps_20 : decode cX12_jumps 20 = .ok (.getfield 185, 3) := by decide +kernel
theorem dX12_jumps_23 : decode cX12_jumps 23 = .ok (.iconst 1, 1) := by decide +kernel
theorem dX12_jumps_24 : decode cX12_jumps 24 = .ok (.iadd, 1) := by decide +kernel
theorem dX12_jumps_25 : decode cX12_jumps 25 = .ok (.putfield 185, 3) := by decide +kernel
theorem dX12_jumps_28 : decode cX12_jumps 28 = .ok (.aload_n 0, 1) := by decide +kernel
theorem dX12_jumps_29 : decode cX12_jumps 29 = .ok (.iload_n 1, 1) := by decide +kernel
theorem dX12_jumps_30 : decode cX12_jumps 30 = .ok (.iconst 0, 1) := by decide +kernel
theorem dX12_jumps_31 : decode cX12_jumps 31 = .ok (.invokevirtual 191, 3) := by decide +kernel
theorem dX12_jumps_34 : decode cX12_jumps 34 = .ok (.aload_n 0, 1) := by decide +kernel
theorem dX12_jumps_35 : decode cX12_jumps 35 = .ok (.aload_n 0, 1) := by decide +kernel
theorem dX12_jumps_36 : decode cX12_jumps 36 = .ok (.getfield 155, 3) := by decide +kernel
theorem dX12_jumps_39 : decode cX12_jumps 39 = .ok (.iconst 1, 1) := by decide +kernel
theorem dX12_jumps_40 : decode cX12_jumps 40 = .ok (.iadd, 1) := by decide +kernel
theorem dX12_jumps_41 : decode cX12_jumps 41 = .ok (.putfield 155, 3) := by decide +kernel
theorem dX12_jumps_44 : decode cX12_jumps 44 = .ok (.return_, 1) := by decide +kernel
theorem rX12_jumps : (∀ (d : Nat) (a1 : Value) (x : Nat) (st : List Value) (h : fk_H), fk_ev d qX12_jumps 0 [.ref x, a1] st h = fk_ev d qX12_jumps 1 [.ref x, a1] (.ref x :: st) h) ∧
  (∀ (d : Nat) (L st : List Value) (N : Nat) (y : Nat → Nat → Int32) (l : Nat → Nat → Int64), fk_ev d qX12_jumps 1 L (.ref 246 :: st) (fk_E N y l) = fk_ev d qX12_jumps 4 L (.ref 257 :: st) (fk_E N y l)) ∧
  (∀ (d : Nat) (a1 : Value) (x : Nat) (st : List Value) (h : fk_H), fk_ev d qX12_jumps 4 [.ref x, a1] st h = fk_ev d qX12_jumps 5 [.ref x, a1] (.ref x :: st) h) ∧
  (∀ (d : Nat) (L st : List Value) (N : Nat) (y : Nat → Nat → Int32) (l : Nat → Nat → Int64), fk_ev d qX12_jumps 5 L (.ref 246 :: st) (fk_E N y l) = fk_ev d qX12_jumps 8 L (.int (y 246 17) :: st) (fk_E N y l)) ∧
  (∀ (d : Nat) (L st : List Value) (h : fk_H), fk_ev d qX12_jumps 8 L st h = fk_ev d qX12_jumps 10 L (.int (nI 1048576) :: st) h) ∧
  (∀ (d : Nat) (a0 : Value) (x : Int32) (st : List Value) (h : fk_H), fk_ev d qX12_jumps 10 [a0, .int x] st h = fk_ev d qX12_jumps 11 [a0, .int x] (.int x :: st) h) ∧
  (∀ (d : Nat) (L : List Value) (x y : Int32) (st : List Value) (h : fk_H), fk_ev d qX12_jumps 11 L (.int y :: .int x :: st) h = fk_ev d qX12_jumps 12 L (.int (x * y) :: st) h) ∧
  (∀ (d : Nat) (a1 : Value) (x : Nat) (st : List Value) (h : fk_H), fk_ev d qX12_jumps 12 [.ref x, a1] st h = fk_ev d qX12_jumps 13 [.ref x, a1] (.ref x :: st) h) ∧
  (∀ (d : Nat) (L st : List Value) (N : Nat) (y : Nat → Nat → Int32) (l : Nat → Nat → Int64), fk_ev d qX12_jumps 13 L (.ref 246 :: st) (fk_E N y l) = fk_ev d qX12_jumps 16 L (.int (y 246 16) :: st) (fk_E N y l)) ∧
  (∀ (d : Nat) (L : List Value) (x y : Int32) (st : List Value) (h : fk_H), fk_ev d qX12_jumps 16 L (.int y :: .int x :: st) h = fk_ev d qX12_jumps 17 L (.int (x + y) :: st) h) ∧
  (∀ (d : Nat) (L st : List Value) (N : Nat) (y : Nat → Nat → Int32) (l : Nat → Nat → Int64) (i : Nat) (v : Int32), i < 260 → fk_ev d qX12_jumps 17 L (.int v :: .int (nI i) :: .ref 257 :: st) (fk_E N y l) = fk_ev d qX12_jumps 18 L st (fk_E N (fk_u y 257 i v) l)) ∧
  (∀ (d : Nat) (a1 : Value) (x : Nat) (st : List Value) (h : fk_H), fk_ev d qX12_jumps 18 [.ref x, a1] st h = fk_ev d qX12_jumps 19 [.ref x, a1] (.ref x :: st) h) ∧
  (∀ (d : Nat) (a1 : Value) (x : Nat) (st : List Value) (h : fk_H), fk_ev d qX12_jumps 19 [.ref x, a1] st h = fk_ev d qX12_jumps 20 [.ref x, a1] (.ref x :: st) h) ∧
  (∀ (d : Nat) (L st : List Value) (N : Nat) (y : Nat → Nat → Int32) (l : Nat → Nat → Int64), fk_ev d qX12_jumps 20 L (.ref 246 :: st) (fk_E N y l) = fk_ev d qX12_jumps 23 L (.int (y 246 17) :: st) (fk_E N y l)) ∧
  (∀ (d : Nat) (L st : List Value) (h : fk_H), fk_ev d qX12_jumps 23 L st h = fk_ev d qX12_jumps 24 L (.int (nI 1) :: st) h) ∧
  (∀ (d : Nat) (L : List Value) (x y : Int32) (st : List Value) (h : fk_H), fk_ev d qX12_jumps 24 L (.int y :: .int x :: st) h = fk_ev d qX12_jumps 25 L (.int (x + y) :: st) h) ∧
  (∀ (d : Nat) (L st : List Value) (N : Nat) (y : Nat → Nat → Int32) (l : Nat → Nat → Int64) (v : Int32), fk_ev d qX12_jumps 25 L (.int v :: .ref 246 :: st) (fk_E N y l) = fk_ev d qX12_jumps 28 L st (fk_E N (fk_u y 246 17 v) l)) ∧
  (∀ (d : Nat) (a1 : Value) (x : Nat) (st : List Value) (h : fk_H), fk_ev d qX12_jumps 28 [.ref x, a1] st h = fk_ev d qX12_jumps 29 [.ref x, a1] (.ref x :: st) h) ∧
  (∀ (d : Nat) (a0 : Value) (x : Int32) (st : List Value) (h : fk_H), fk_ev d qX12_jumps 29 [a0, .int x] st h = fk_ev d qX12_jumps 30 [a0, .int x] (.int x :: st) h) ∧
  (∀ (d : Nat) (L st : List Value) (h : fk_H), fk_ev d qX12_jumps 30 L st h = fk_ev d qX12_jumps 31 L (.int (nI 0) :: st) h) ∧
  (∀ (d : Nat) (L : List Value) (x0 : Int32) (x1 : Int32)  (N : Nat) (y : Nat → Nat → Int32) (l : Nat → Nat → Int64), fk_ev (d + 1) qX12_jumps 31 L (.int x1 :: .int x0 :: .ref 246 :: []) (fk_E N y l) = (fk_ev d qX12_notes 0 [.ref 246, .int x0, .int x1] [] (fk_E N y l)).bind fun o => fk_ev (d + 1) qX12_jumps 34 L (o.1.toList ++ []) o.2) ∧
  (∀ (d : Nat) (a1 : Value) (x : Nat) (st : List Value) (h : fk_H), fk_ev d qX12_jumps 34 [.ref x, a1] st h = fk_ev d qX12_jumps 35 [.ref x, a1] (.ref x :: st) h) ∧
  (∀ (d : Nat) (a1 : Value) (x : Nat) (st : List Value) (h : fk_H), fk_ev d qX12_jumps 35 [.ref x, a1] st h = fk_ev d qX12_jumps 36 [.ref x, a1] (.ref x :: st) h) ∧
  (∀ (d : Nat) (L st : List Value) (N : Nat) (y : Nat → Nat → Int32) (l : Nat → Nat → Int64), fk_ev d qX12_jumps 36 L (.ref 246 :: st) (fk_E N y l) = fk_ev d qX12_jumps 39 L (.int (y 246 11) :: st) (fk_E N y l)) ∧
  (∀ (d : Nat) (L st : List Value) (h : fk_H), fk_ev d qX12_jumps 39 L st h = fk_ev d qX12_jumps 40 L (.int (nI 1) :: st) h) ∧
  (∀ (d : Nat) (L : List Value) (x y : Int32) (st : List Value) (h : fk_H), fk_ev d qX12_jumps 40 L (.int y :: .int x :: st) h = fk_ev d qX12_jumps 41 L (.int (x + y) :: st) h) ∧
  (∀ (d : Nat) (L st : List Value) (N : Nat) (y : Nat → Nat → Int32) (l : Nat → Nat → Int64) (v : Int32), fk_ev d qX12_jumps 41 L (.int v :: .ref 246 :: st) (fk_E N y l) = fk_ev d qX12_jumps 44 L st (fk_E N (fk_u y 246 11 v) l)) ∧
  (∀ (d : Nat) (L : List Value) (h : fk_H), fk_ev d qX12_jumps 44 L [] h = some (none, h)) := ⟨fun d a1 x st h => fk_w_aloadn 0 [.ref x, a1] dX12_jumps_0 rfl,
  fun d L st N y l => fk_g_getC rfl lf_12_42 (by decide) rfl dX12_jumps_1 fk_at_246,
  fun d a1 x st h => fk_w_aloadn 0 [.ref x, a1] dX12_jumps_4 rfl,
  fun d L st N y l => fk_g_getI rfl lf_12_185 (by decide) dX12_jumps_5 fk_at_246,
  fun d L st h => fk_g_ldc rfl lc_12_181 (by decide) dX12_jumps_8,
  fun d a0 x st h => fk_w_iloadn 1 [a0, .int x] dX12_jumps_10 rfl,
  fun d L x y st h => fk_r_imul dX12_jumps_11,
  fun d a1 x st h => fk_w_aloadn 0 [.ref x, a1] dX12_jumps_12 rfl,
  fun d L st N y l => fk_g_getI rfl lf_12_178 (by decide) dX12_jumps_13 fk_at_246,
  fun d L x y st h => fk_r_iadd dX12_jumps_16,
  fun d L st N y l i v hi => fk_g_iast fk_at_257 fk_ln_257 (by decide) dX12_jumps_17 hi,
  fun d a1 x st h => fk_w_aloadn 0 [.ref x, a1] dX12_jumps_18 rfl,
  fun d a1 x st h => fk_w_aloadn 0 [.ref x, a1] dX12_jumps_19 rfl,
  fun d L st N y l => fk_g_getI rfl lf_12_185 (by decide) dX12_jumps_20 fk_at_246,
  fun d L st h => fk_w_iconst dX12_jumps_23 (by decide),
  fun d L x y st h => fk_r_iadd dX12_jumps_24,
  fun d L st N y l v => fk_g_putI rfl lf_12_185 (by decide) dX12_jumps_25 rfl fk_at_246,
  fun d a1 x st h => fk_w_aloadn 0 [.ref x, a1] dX12_jumps_28 rfl,
  fun d a0 x st h => fk_w_iloadn 1 [a0, .int x] dX12_jumps_29 rfl,
  fun d L st h => fk_w_iconst dX12_jumps_30 (by decide),
  fun d L x0 x1 N y l  => fk_g_call [.int x0, .int x1] [] rfl lm_12_191 dX12_jumps_31 rfl ⟨rfl, by decide⟩ (by simp) fk_at_246,
  fun d a1 x st h => fk_w_aloadn 0 [.ref x, a1] dX12_jumps_34 rfl,
  fun d a1 x st h => fk_w_aloadn 0 [.ref x, a1] dX12_jumps_35 rfl,
  fun d L st N y l => fk_g_getI rfl lf_12_155 (by decide) dX12_jumps_36 fk_at_246,
  fun d L st h => fk_w_iconst dX12_jumps_39 (by decide),
  fun d L x y st h => fk_r_iadd dX12_jumps_40,
  fun d L st N y l v => fk_g_putI rfl lf_12_155 (by decide) dX12_jumps_41 rfl fk_at_246,
  fun d L h => fk_r_vret dX12_jumps_44 rfl⟩
theorem dX12_readsCompared_0 : decode cX12_readsCompared 0 = .ok (.aload_n 0, 1) := by decide +kernel
theorem dX12_readsCompared_1 : decode cX12_readsCompared 1 = .ok (.invokevirtual 217, 3) := by decide +kernel
theorem dX12_readsCompared_4 : decode cX12_readsCompared 4 = .ok (.ifCond .ne 5, 3) := by decide +kernel
theorem dX12_readsCompared_7 : decode cX12_readsCompared 7 = .ok (.iconst 0, 1) := by decide +kernel
theorem dX12_readsCompared_8 : decode cX12_readsCompared 8 = .ok (.ireturn, 1) := by decide +kernel
theorem dX12_readsCompared_9 : decode cX12_readsCompared 9 = .ok (.aload_n 0, 1) := by decide +kernel
theorem dX12_readsCompared_10 : decode cX12_readsCompared 10 = .ok (.invokevirtual 161, 3) := by decide +kernel
theorem dX12_readsCompared_13 : decode cX12_readsCompared 13 = .ok (.bipush 60, 2) := by decide +kernel
theorem dX12_readsCompared_15 : decode cX12_readsCompared 15 = .ok (.if_icmp .ne 8, 3) := by decide +kernel
theorem dX12_readsCompared_18 : decode cX12_readsCompared 18 = .ok (.bipush 7, 2) := by decide +kernel
theorem dX12_readsCompared_20 : decode cX12_readsCompared 20 = .ok (.goto 32, 3) := by decide +kernel
theorem dX12_readsCompared_23 : decode cX12_readsCompared 23 = .ok (.aload_n 0, 1) := by decide +kernel
theorem dX12_readsCompared_24 : decode cX12_readsCompared 24 = .ok (.invokevirtual 161, 3) := by decide +kernel
theorem dX12_readsCompared_27 : decode cX12_readsCompared 27 = .ok (.bipush 62, 2) := by decide +kernel
theorem dX12_readsCompared_29 : decode cX12_readsCompared 29 = .ok (.if_icmp .ne 8, 3) := by decide +kernel
theorem dX12_readsCompared_32 : decode cX12_readsCompared 32 = .ok (.bipush 8, 2) := by decide +kernel
theorem dX12_readsCompared_34 : decode cX12_readsCompared 34 = .ok (.goto 18, 3) := by decide +kernel
theorem dX12_readsCompared_37 : decode cX12_readsCompared 37 = .ok (.aload_n 0, 1) := by decide +kernel
theorem dX12_readsCompared_38 : decode cX12_readsCompared 38 = .ok (.invokevirtual 161, 3) := by decide +kernel
theorem dX12_readsCompared_41 : decode cX12_readsCompared 41 = .ok (.bipush 61, 2) := by decide +kernel
theorem dX12_readsCompared_43 : decode cX12_readsCompared 43 = .ok (.if_icmp .ne 8, 3) := by decide +kernel
theorem dX12_readsCompared_46 : decode cX12_readsCompared 46 = .ok (.bipush 9, 2) := by decide +kernel
theorem dX12_readsCompared_48 : decode cX12_readsCompared 48 = .ok (.goto 4, 3) := by decide +kernel
theorem dX12_readsCompared_51 : decode cX12_readsCompared 51 = .ok (.iconst (-1), 1) := by decide +kernel
theorem dX12_readsCompared_52 : decode cX12_readsCompared 52 = .ok (.istore_n 1, 1) := by decide +kernel
theorem dX12_readsCompared_53 : decode cX12_readsCompared 53 = .ok (.iload_n 1, 1) := by decide +kernel
theorem dX12_readsCompared_54 : decode cX12_readsCompared 54 = .ok (.iconst (-1), 1) := by decide +kernel
theorem dX12_readsCompared_55 : decode cX12_readsCompared 55 = .ok (.if_icmp .ne 13, 3) := by decide +kernel
theorem dX12_readsCompared_58 : decode cX12_readsCompared 58 = .ok (.aload_n 0, 1) := by decide +kernel
theorem dX12_readsCompared_59 : decode cX12_readsCompared 59 = .ok (.iconst 1, 1) := by decide +kernel
theorem dX12_readsCompared_60 : decode cX12_readsCompared 60 = .ok (.aload_n 0, 1) := by decide +kernel
theorem dX12_readsCompared_61 : decode cX12_readsCompared 61 = .ok (.getfield 155, 3) := by decide +kernel
theorem dX12_readsCompared_64 : decode cX12_readsCompared 64 = .ok (.invokevirtual 168, 3) := by decide +kernel
theorem dX12_readsCompared_67 : decode cX12_readsCompared 67 = .ok (.ireturn, 1) := by decide +kernel
theorem dX12_readsCompared_68 : decode cX12_readsCompared 68 = .ok (.aload_n 0, 1) := by decide +kernel
theorem dX12_readsCompared_69 : decode cX12_readsCompared 69 = .ok (.aload_n 0, 1) := by decide +kernel
theorem dX12_readsCompared_70 : decode cX12_readsCompared 70 = .ok (.getfield 155, 3) := by decide +kernel
theorem dX12_readsCompared_73 : decode cX12_readsCompared 73 = .ok (.iconst 1, 1) := by decide +kernel
theorem dX12_readsCompared_74 : decode cX12_readsCompared 74 = .ok (.iadd, 1) := by decide +kernel
theorem dX12_readsCompared_75 : decode cX12_readsCompared 75 = .ok (.putfield 155, 3) := by decide +kernel
theorem dX12_readsCompared_78 : decode cX12_readsCompared 78 = .ok (.aload_n 0, 1) := by decide +kernel
theorem dX12_readsCompared_79 : decode cX12_readsCompared 79 = .ok (.invokevirtual 217, 3) := by decide +kernel
theorem dX12_readsCompared_82 : decode cX12_readsCompared 82 = .ok (.ifCond .ne 5, 3) := by decide +kernel
theorem dX12_readsCompared_85 : decode cX12_readsCompared 85 = .ok (.iconst 0, 1) := by decide +kernel
theorem dX12_readsCompared_86 : decode cX12_readsCompared 86 = .ok (.ireturn, 1) := by decide +kernel
theorem dX12_readsCompared_87 : decode cX12_readsCompared 87 = .ok (.aload_n 0, 1) := by decide +kernel
theorem dX12_readsCompared_88 : decode cX12_readsCompared 88 = .ok (.iload_n 1, 1) := by decide +kernel
theorem dX12_readsCompared_89 : decode cX12_readsCompared 89 = .ok (.iconst 0, 1) := by decide +kernel
theorem dX12_readsCompared_90 : decode cX12_readsCompared 90 = .ok (.invokevirtual 191, 3) := by decide +kernel
theorem dX12_readsCompared_93 : decode cX12_readsCompared 93 = .ok (.aload_n 0, 1) := by decide +kernel
theorem dX12_readsCompared_94 : decode cX12_readsCompared 94 = .ok (.invokevirtual 220, 3) := by decide +kernel
theorem dX12_readsCompared_97 : decode cX12_readsCompared 97 = .ok (.iconst 1, 1) := by decide +kernel
theorem dX12_readsCompared_98 : decode cX12_readsCompared 98 = .ok (.ireturn, 1) := by decide +kernel
theorem rX12_readsCompared : (∀ (d : Nat) (a1 : Value) (x : Nat) (st : List Value) (h : fk_H), fk_ev d qX12_readsCompared 0 [.ref x, a1] st h = fk_ev d qX12_readsCompared 1 [.ref x, a1] (.ref x :: st) h) ∧
  (∀ (d : Nat) (L : List Value)   (N : Nat) (y : Nat → Nat → Int32) (l : Nat → Nat → Int64), fk_ev (d + 1) qX12_readsCompared 1 L (.ref 246 :: []) (fk_E N y l) = (fk_ev d qX12_readsSum 0 [.ref 246, .null, .null] [] (fk_E N y l)).bind fun o => fk_ev (d + 1) qX12_readsCompared 4 L (o.1.toList ++ []) o.2) ∧
  (∀ (d : Nat) (L : List Value) (x : Int32) (st : List Value) (h : fk_H), fk_ev d qX12_readsCompared 4 L (.int x :: st) h = if ¬ x = nI 0 then fk_ev d qX12_readsCompared 9 L st h else fk_ev d qX12_readsCompared 7 L st h) ∧
  (∀ (d : Nat) (L st : List Value) (h : fk_H), fk_ev d qX12_readsCompared 7 L st h = fk_ev d qX12_readsCompared 8 L (.int (nI 0) :: st) h) ∧
  (∀ (d : Nat) (L : List Value) (h : fk_H), fk_ev d qX12_readsCompared 8 L [.int (nI 0)] h = some (some (.int (nI 0)), h)) ∧
  (∀ (d : Nat) (L : List Value) (h : fk_H), fk_ev d qX12_readsCompared 8 L [.int (nI 1)] h = some (some (.int (nI 1)), h)) ∧
  (∀ (d : Nat) (L : List Value) (p : Prop) [Decidable p] (h : fk_H), fk_ev d qX12_readsCompared 8 L [.int (fk_b p)] h = some (some (.int (fk_b p)), h)) ∧
  (∀ (d : Nat) (L : List Value) (x : Int32) (h : fk_H), (x = nI 0 ∨ x = nI 1) → fk_ev d qX12_readsCompared 8 L [.int x] h = some (some (.int x), h)) ∧
  (∀ (d : Nat) (a1 : Value) (x : Nat) (st : List Value) (h : fk_H), fk_ev d qX12_readsCompared 9 [.ref x, a1] st h = fk_ev d qX12_readsCompared 10 [.ref x, a1] (.ref x :: st) h) ∧
  (∀ (d : Nat) (L : List Value)   (N : Nat) (y : Nat → Nat → Int32) (l : Nat → Nat → Int64), fk_ev (d + 1) qX12_readsCompared 10 L (.ref 246 :: []) (fk_E N y l) = (fk_ev d qX12_here 0 [.ref 246] [] (fk_E N y l)).bind fun o => fk_ev (d + 1) qX12_readsCompared 13 L (o.1.toList ++ []) o.2) ∧
  (∀ (d : Nat) (L st : List Value) (h : fk_H), fk_ev d qX12_readsCompared 13 L st h = fk_ev d qX12_readsCompared 15 L (.int (nI 60) :: st) h) ∧
  (∀ (d : Nat) (L : List Value) (x y : Int32) (st : List Value) (h : fk_H), fk_ev d qX12_readsCompared 15 L (.int y :: .int x :: st) h = if ¬ x = y then fk_ev d qX12_readsCompared 23 L st h else fk_ev d qX12_readsCompared 18 L st h) ∧
  (∀ (d : Nat) (L st : List Value) (h : fk_H), fk_ev d qX12_readsCompared 18 L st h = fk_ev d qX12_readsCompared 20 L (.int (nI 7) :: st) h) ∧
  (∀ (d : Nat) (L st : List Value) (h : fk_H), fk_ev d qX12_readsCompared 20 L st h = fk_ev d qX12_readsCompared 52 L st h) ∧
  (∀ (d : Nat) (a1 : Value) (x : Nat) (st : List Value) (h : fk_H), fk_ev d qX12_readsCompared 23 [.ref x, a1] st h = fk_ev d qX12_readsCompared 24 [.ref x, a1] (.ref x :: st) h) ∧
  (∀ (d : Nat) (L : List Value)   (N : Nat) (y : Nat → Nat → Int32) (l : Nat → Nat → Int64), fk_ev (d + 1) qX12_readsCompared 24 L (.ref 246 :: []) (fk_E N y l) = (fk_ev d qX12_here 0 [.ref 246] [] (fk_E N y l)).bind fun o => fk_ev (d + 1) qX12_readsCompared 27 L (o.1.toList ++ []) o.2) ∧
  (∀ (d : Nat) (L st : List Value) (h : fk_H), fk_ev d qX12_readsCompared 27 L st h = fk_ev d qX12_readsCompared 29 L (.int (nI 62) :: st) h) ∧
  (∀ (d : Nat) (L : List Value) (x y : Int32) (st : List Value) (h : fk_H), fk_ev d qX12_readsCompared 29 L (.int y :: .int x :: st) h = if ¬ x = y then fk_ev d qX12_readsCompared 37 L st h else fk_ev d qX12_readsCompared 32 L st h) ∧
  (∀ (d : Nat) (L st : List Value) (h : fk_H), fk_ev d qX12_readsCompared 32 L st h = fk_ev d qX12_readsCompared 34 L (.int (nI 8) :: st) h) ∧
  (∀ (d : Nat) (L st : List Value) (h : fk_H), fk_ev d qX12_readsCompared 34 L st h = fk_ev d qX12_readsCompared 52 L st h) ∧
  (∀ (d : Nat) (a1 : Value) (x : Nat) (st : List Value) (h : fk_H), fk_ev d qX12_readsCompared 37 [.ref x, a1] st h = fk_ev d qX12_readsCompared 38 [.ref x, a1] (.ref x :: st) h) ∧
  (∀ (d : Nat) (L : List Value)   (N : Nat) (y : Nat → Nat → Int32) (l : Nat → Nat → Int64), fk_ev (d + 1) qX12_readsCompared 38 L (.ref 246 :: []) (fk_E N y l) = (fk_ev d qX12_here 0 [.ref 246] [] (fk_E N y l)).bind fun o => fk_ev (d + 1) qX12_readsCompared 41 L (o.1.toList ++ []) o.2) ∧
  (∀ (d : Nat) (L st : List Value) (h : fk_H), fk_ev d qX12_readsCompared 41 L st h = fk_ev d qX12_readsCompared 43 L (.int (nI 61) :: st) h) ∧
  (∀ (d : Nat) (L : List Value) (x y : Int32) (st : List Value) (h : fk_H), fk_ev d qX12_readsCompared 43 L (.int y :: .int x :: st) h = if ¬ x = y then fk_ev d qX12_readsCompared 51 L st h else fk_ev d qX12_readsCompared 46 L st h) ∧
  (∀ (d : Nat) (L st : List Value) (h : fk_H), fk_ev d qX12_readsCompared 46 L st h = fk_ev d qX12_readsCompared 48 L (.int (nI 9) :: st) h) ∧
  (∀ (d : Nat) (L st : List Value) (h : fk_H), fk_ev d qX12_readsCompared 48 L st h = fk_ev d qX12_readsCompared 52 L st h) ∧
  (∀ (d : Nat) (L st : List Value) (h : fk_H), fk_ev d qX12_readsCompared 51 L st h = fk_ev d qX12_readsCompared 52 L (.int ((-1 : Int32)) :: st) h) ∧
  (∀ (d : Nat) (a0 a1 : Value) (x : Int32) (st : List Value) (h : fk_H), fk_ev d qX12_readsCompared 52 [a0, a1] (.int x :: st) h = fk_ev d qX12_readsCompared 53 [a0, .int x] st h) ∧
  (∀ (d : Nat) (a0 : Value) (x : Int32) (st : List Value) (h : fk_H), fk_ev d qX12_readsCompared 53 [a0, .int x] st h = fk_ev d qX12_readsCompared 54 [a0, .int x] (.int x :: st) h) ∧
  (∀ (d : Nat) (L st : List Value) (h : fk_H), fk_ev d qX12_readsCompared 54 L st h = fk_ev d qX12_readsCompared 55 L (.int ((-1 : Int32)) :: st) h) ∧
  (∀ (d : Nat) (L : List Value) (x y : Int32) (st : List Value) (h : fk_H), fk_ev d qX12_readsCompared 55 L (.int y :: .int x :: st) h = if ¬ x = y then fk_ev d qX12_readsCompared 68 L st h else fk_ev d qX12_readsCompared 58 L st h) ∧
  (∀ (d : Nat) (a1 : Value) (x : Nat) (st : List Value) (h : fk_H), fk_ev d qX12_readsCompared 58 [.ref x, a1] st h = fk_ev d qX12_readsCompared 59 [.ref x, a1] (.ref x :: st) h) ∧
  (∀ (d : Nat) (L st : List Value) (h : fk_H), fk_ev d qX12_readsCompared 59 L st h = fk_ev d qX12_readsCompared 60 L (.int (nI 1) :: st) h) ∧
  (∀ (d : Nat) (a1 : Value) (x : Nat) (st : List Value) (h : fk_H), fk_ev d qX12_readsCompared 60 [.ref x, a1] st h = fk_ev d qX12_readsCompared 61 [.ref x, a1] (.ref x :: st) h) ∧
  (∀ (d : Nat) (L st : List Value) (N : Nat) (y : Nat → Nat → Int32) (l : Nat → Nat → Int64), fk_ev d qX12_readsCompared 61 L (.ref 246 :: st) (fk_E N y l) = fk_ev d qX12_readsCompared 64 L (.int (y 246 11) :: st) (fk_E N y l)) ∧
  (∀ (d : Nat) (L : List Value) (x0 : Int32) (x1 : Int32)  (N : Nat) (y : Nat → Nat → Int32) (l : Nat → Nat → Int64), fk_ev (d + 1) qX12_readsCompared 64 L (.int x1 :: .int x0 :: .ref 246 :: []) (fk_E N y l) = (fk_ev d qX12_wrongAt 0 [.ref 246, .int x0, .int x1] [] (fk_E N y l)).bind fun o => fk_ev (d + 1) qX12_readsCompared 67 L (o.1.toList ++ []) o.2) ∧
  (∀ (d : Nat) (L : List Value) (h : fk_H), fk_ev d qX12_readsCompared 67 L [.int (nI 0)] h = some (some (.int (nI 0)), h)) ∧
  (∀ (d : Nat) (L : List Value) (h : fk_H), fk_ev d qX12_readsCompared 67 L [.int (nI 1)] h = some (some (.int (nI 1)), h)) ∧
  (∀ (d : Nat) (L : List Value) (p : Prop) [Decidable p] (h : fk_H), fk_ev d qX12_readsCompared 67 L [.int (fk_b p)] h = some (some (.int (fk_b p)), h)) ∧
  (∀ (d : Nat) (L : List Value) (x : Int32) (h : fk_H), (x = nI 0 ∨ x = nI 1) → fk_ev d qX12_readsCompared 67 L [.int x] h = some (some (.int x), h)) ∧
  (∀ (d : Nat) (a1 : Value) (x : Nat) (st : List Value) (h : fk_H), fk_ev d qX12_readsCompared 68 [.ref x, a1] st h = fk_ev d qX12_readsCompared 69 [.ref x, a1] (.ref x :: st) h) ∧
  (∀ (d : Nat) (a1 : Value) (x : Nat) (st : List Value) (h : fk_H), fk_ev d qX12_readsCompared 69 [.ref x, a1] st h = fk_ev d qX12_readsCompared 70 [.ref x, a1] (.ref x :: st) h) ∧
  (∀ (d : Nat) (L st : List Value) (N : Nat) (y : Nat → Nat → Int32) (l : Nat → Nat → Int64), fk_ev d qX12_readsCompared 70 L (.ref 246 :: st) (fk_E N y l) = fk_ev d qX12_readsCompared 73 L (.int (y 246 11) :: st) (fk_E N y l)) ∧
  (∀ (d : Nat) (L st : List Value) (h : fk_H), fk_ev d qX12_readsCompared 73 L st h = fk_ev d qX12_readsCompared 74 L (.int (nI 1) :: st) h) ∧
  (∀ (d : Nat) (L : List Value) (x y : Int32) (st : List Value) (h : fk_H), fk_ev d qX12_readsCompared 74 L (.int y :: .int x :: st) h = fk_ev d qX12_readsCompared 75 L (.int (x + y) :: st) h) ∧
  (∀ (d : Nat) (L st : List Value) (N : Nat) (y : Nat → Nat → Int32) (l : Nat → Nat → Int64) (v : Int32), fk_ev d qX12_readsCompared 75 L (.int v :: .ref 246 :: st) (fk_E N y l) = fk_ev d qX12_readsCompared 78 L st (fk_E N (fk_u y 246 11 v) l)) ∧
  (∀ (d : Nat) (a1 : Value) (x : Nat) (st : List Value) (h : fk_H), fk_ev d qX12_readsCompared 78 [.ref x, a1] st h = fk_ev d qX12_readsCompared 79 [.ref x, a1] (.ref x :: st) h) ∧
  (∀ (d : Nat) (L : List Value)   (N : Nat) (y : Nat → Nat → Int32) (l : Nat → Nat → Int64), fk_ev (d + 1) qX12_readsCompared 79 L (.ref 246 :: []) (fk_E N y l) = (fk_ev d qX12_readsSum 0 [.ref 246, .null, .null] [] (fk_E N y l)).bind fun o => fk_ev (d + 1) qX12_readsCompared 82 L (o.1.toList ++ []) o.2) ∧
  (∀ (d : Nat) (L : List Value) (x : Int32) (st : List Value) (h : fk_H), fk_ev d qX12_readsCompared 82 L (.int x :: st) h = if ¬ x = nI 0 then fk_ev d qX12_readsCompared 87 L st h else fk_ev d qX12_readsCompared 85 L st h) ∧
  (∀ (d : Nat) (L st : List Value) (h : fk_H), fk_ev d qX12_readsCompared 85 L st h = fk_ev d qX12_readsCompared 86 L (.int (nI 0) :: st) h) ∧
  (∀ (d : Nat) (L : List Value) (h : fk_H), fk_ev d qX12_readsCompared 86 L [.int (nI 0)] h = some (some (.int (nI 0)), h)) ∧
  (∀ (d : Nat) (L : List Value) (h : fk_H), fk_ev d qX12_readsCompared 86 L [.int (nI 1)] h = some (some (.int (nI 1)), h)) ∧
  (∀ (d : Nat) (L : List Value) (p : Prop) [Decidable p] (h : fk_H), fk_ev d qX12_readsCompared 86 L [.int (fk_b p)] h = some (some (.int (fk_b p)), h)) ∧
  (∀ (d : Nat) (L : List Value) (x : Int32) (h : fk_H), (x = nI 0 ∨ x = nI 1) → fk_ev d qX12_readsCompared 86 L [.int x] h = some (some (.int x), h)) ∧
  (∀ (d : Nat) (a1 : Value) (x : Nat) (st : List Value) (h : fk_H), fk_ev d qX12_readsCompared 87 [.ref x, a1] st h = fk_ev d qX12_readsCompared 88 [.ref x, a1] (.ref x :: st) h) ∧
  (∀ (d : Nat) (a0 : Value) (x : Int32) (st : List Value) (h : fk_H), fk_ev d qX12_readsCompared 88 [a0, .int x] st h = fk_ev d qX12_readsCompared 89 [a0, .int x] (.int x :: st) h) ∧
  (∀ (d : Nat) (L st : List Value) (h : fk_H), fk_ev d qX12_readsCompared 89 L st h = fk_ev d qX12_readsCompared 90 L (.int (nI 0) :: st) h) ∧
  (∀ (d : Nat) (L : List Value) (x0 : Int32) (x1 : Int32)  (N : Nat) (y : Nat → Nat → Int32) (l : Nat → Nat → Int64), fk_ev (d + 1) qX12_readsCompared 90 L (.int x1 :: .int x0 :: .ref 246 :: []) (fk_E N y l) = (fk_ev d qX12_notes 0 [.ref 246, .int x0, .int x1] [] (fk_E N y l)).bind fun o => fk_ev (d + 1) qX12_readsCompared 93 L (o.1.toList ++ []) o.2) ∧
  (∀ (d : Nat) (a1 : Value) (x : Nat) (st : List Value) (h : fk_H), fk_ev d qX12_readsCompared 93 [.ref x, a1] st h = fk_ev d qX12_readsCompared 94 [.ref x, a1] (.ref x :: st) h) ∧
  (∀ (d : Nat) (L : List Value)   (N : Nat) (y : Nat → Nat → Int32) (l : Nat → Nat → Int64), fk_ev (d + 1) qX12_readsCompared 94 L (.ref 246 :: []) (fk_E N y l) = (fk_ev d qX12_endsPiece 0 [.ref 246] [] (fk_E N y l)).bind fun o => fk_ev (d + 1) qX12_readsCompared 97 L (o.1.toList ++ []) o.2) ∧
  (∀ (d : Nat) (L st : List Value) (h : fk_H), fk_ev d qX12_readsCompared 97 L st h = fk_ev d qX12_readsCompared 98 L (.int (nI 1) :: st) h) ∧
  (∀ (d : Nat) (L : List Value) (h : fk_H), fk_ev d qX12_readsCompared 98 L [.int (nI 0)] h = some (some (.int (nI 0)), h)) ∧
  (∀ (d : Nat) (L : List Value) (h : fk_H), fk_ev d qX12_readsCompared 98 L [.int (nI 1)] h = some (some (.int (nI 1)), h)) ∧
  (∀ (d : Nat) (L : List Value) (p : Prop) [Decidable p] (h : fk_H), fk_ev d qX12_readsCompared 98 L [.int (fk_b p)] h = some (some (.int (fk_b p)), h)) ∧
  (∀ (d : Nat) (L : List Value) (x : Int32) (h : fk_H), (x = nI 0 ∨ x = nI 1) → fk_ev d qX12_readsCompared 98 L [.int x] h = some (some (.int x), h)) := ⟨fun d a1 x st h => fk_w_aloadn 0 [.ref x, a1] dX12_readsCompared_0 rfl,
  fun d L  N y l  => fk_g_call [] [] rfl lm_12_217 dX12_readsCompared_1 rfl ⟨rfl, by decide⟩ (by simp) fk_at_246,
  fun d L x st h => fk_r_if_ne dX12_readsCompared_4 (by decide),
  fun d L st h => fk_w_iconst dX12_readsCompared_7 (by decide),
  fun d L h => fk_r_ret dX12_readsCompared_8 (Or.inr (Or.inl ⟨rfl, by decide⟩)),
  fun d L h => fk_r_ret dX12_readsCompared_8 (Or.inr (Or.inl ⟨rfl, by decide⟩)),
  fun d L p _ h => fk_r_ret dX12_readsCompared_8 (Or.inr (Or.inl ⟨rfl, fk_b_01⟩)),
  fun d L x h hx => fk_r_ret dX12_readsCompared_8 (Or.inr (Or.inl ⟨rfl, hx⟩)),
  fun d a1 x st h => fk_w_aloadn 0 [.ref x, a1] dX12_readsCompared_9 rfl,
  fun d L  N y l  => fk_g_call [] [] rfl lm_12_161 dX12_readsCompared_10 rfl ⟨rfl, by decide⟩ (by simp) fk_at_246,
  fun d L st h => fk_w_bipush dX12_readsCompared_13 (by decide),
  fun d L x y st h => fk_r_icmp_ne dX12_readsCompared_15 (by decide),
  fun d L st h => fk_w_bipush dX12_readsCompared_18 (by decide),
  fun d L st h => fk_r_goto dX12_readsCompared_20 (by decide),
  fun d a1 x st h => fk_w_aloadn 0 [.ref x, a1] dX12_readsCompared_23 rfl,
  fun d L  N y l  => fk_g_call [] [] rfl lm_12_161 dX12_readsCompared_24 rfl ⟨rfl, by decide⟩ (by simp) fk_at_246,
  fun d L st h => fk_w_bipush dX12_readsCompared_27 (by decide),
  fun d L x y st h => fk_r_icmp_ne dX12_readsCompared_29 (by decide),
  fun d L st h => fk_w_bipush dX12_readsCompared_32 (by decide),
  fun d L st h => fk_r_goto dX12_readsCompared_34 (by decide),
  fun d a1 x st h => fk_w_aloadn 0 [.ref x, a1] dX12_readsCompared_37 rfl,
  fun d L  N y l  => fk_g_call [] [] rfl lm_12_161 dX12_readsCompared_38 rfl ⟨rfl, by decide⟩ (by simp) fk_at_246,
  fun d L st h => fk_w_bipush dX12_readsCompared_41 (by decide),
  fun d L x y st h => fk_r_icmp_ne dX12_readsCompared_43 (by decide),
  fun d L st h => fk_w_bipush dX12_readsCompared_46 (by decide),
  fun d L st h => fk_r_goto dX12_readsCompared_48 (by decide),
  fun d L st h => fk_w_iconst dX12_readsCompared_51 (by decide),
  fun d a0 a1 x st h => fk_w_istoren 1 2 [] [a0, a1] [a0, .int x] dX12_readsCompared_52 rfl rfl (by decide) rfl,
  fun d a0 x st h => fk_w_iloadn 1 [a0, .int x] dX12_readsCompared_53 rfl,
  fun d L st h => fk_w_iconst dX12_readsCompared_54 (by decide),
  fun d L x y st h => fk_r_icmp_ne dX12_readsCompared_55 (by decide),
  fun d a1 x st h => fk_w_aloadn 0 [.ref x, a1] dX12_readsCompared_58 rfl,
  fun d L st h => fk_w_iconst dX12_readsCompared_59 (by decide),
  fun d a1 x st h => fk_w_aloadn 0 [.ref x, a1] dX12_readsCompared_60 rfl,
  fun d L st N y l => fk_g_getI rfl lf_12_155 (by decide) dX12_readsCompared_61 fk_at_246,
  fun d L x0 x1 N y l  => fk_g_call [.int x0, .int x1] [] rfl lm_12_168 dX12_readsCompared_64 rfl ⟨rfl, by decide⟩ (by simp) fk_at_246,
  fun d L h => fk_r_ret dX12_readsCompared_67 (Or.inr (Or.inl ⟨rfl, by decide⟩)),
  fun d L h => fk_r_ret dX12_readsCompared_67 (Or.inr (Or.inl ⟨rfl, by decide⟩)),
  fun d L p _ h => fk_r_ret dX12_readsCompared_67 (Or.inr (Or.inl ⟨rfl, fk_b_01⟩)),
  fun d L x h hx => fk_r_ret dX12_readsCompared_67 (Or.inr (Or.inl ⟨rfl, hx⟩)),
  fun d a1 x st h => fk_w_aloadn 0 [.ref x, a1] dX12_readsCompared_68 rfl,
  fun d a1 x st h => fk_w_aloadn 0 [.ref x, a1] dX12_readsCompared_69 rfl,
  fun d L st N y l => fk_g_getI rfl lf_12_155 (by decide) dX12_readsCompared_70 fk_at_246,
  fun d L st h => fk_w_iconst dX12_readsCompared_73 (by decide),
  fun d L x y st h => fk_r_iadd dX12_readsCompared_74,
  fun d L st N y l v => fk_g_putI rfl lf_12_155 (by decide) dX12_readsCompared_75 rfl fk_at_246,
  fun d a1 x st h => fk_w_aloadn 0 [.ref x, a1] dX12_readsCompared_78 rfl,
  fun d L  N y l  => fk_g_call [] [] rfl lm_12_217 dX12_readsCompared_79 rfl ⟨rfl, by decide⟩ (by simp) fk_at_246,
  fun d L x st h => fk_r_if_ne dX12_readsCompared_82 (by decide),
  fun d L st h => fk_w_iconst dX12_readsCompared_85 (by decide),
  fun d L h => fk_r_ret dX12_readsCompared_86 (Or.inr (Or.inl ⟨rfl, by decide⟩)),
  fun d L h => fk_r_ret dX12_readsCompared_86 (Or.inr (Or.inl ⟨rfl, by decide⟩)),
  fun d L p _ h => fk_r_ret dX12_readsCompared_86 (Or.inr (Or.inl ⟨rfl, fk_b_01⟩)),
  fun d L x h hx => fk_r_ret dX12_readsCompared_86 (Or.inr (Or.inl ⟨rfl, hx⟩)),
  fun d a1 x st h => fk_w_aloadn 0 [.ref x, a1] dX12_readsCompared_87 rfl,
  fun d a0 x st h => fk_w_iloadn 1 [a0, .int x] dX12_readsCompared_88 rfl,
  fun d L st h => fk_w_iconst dX12_readsCompared_89 (by decide),
  fun d L x0 x1 N y l  => fk_g_call [.int x0, .int x1] [] rfl lm_12_191 dX12_readsCompared_90 rfl ⟨rfl, by decide⟩ (by simp) fk_at_246,
  fun d a1 x st h => fk_w_aloadn 0 [.ref x, a1] dX12_readsCompared_93 rfl,
  fun d L  N y l  => fk_g_call [] [] rfl lm_12_220 dX12_readsCompared_94 rfl ⟨rfl, by decide⟩ (by simp) fk_at_246,
  fun d L st h => fk_w_iconst dX12_readsCompared_97 (by decide),
  fun d L h => fk_r_ret dX12_readsCompared_98 (Or.inr (Or.inl ⟨rfl, by decide⟩)),
  fun d L h => fk_r_ret dX12_readsCompared_98 (Or.inr (Or.inl ⟨rfl, by decide⟩)),
  fun d L p _ h => fk_r_ret dX12_readsCompared_98 (Or.inr (Or.inl ⟨rfl, fk_b_01⟩)),
  fun d L x h hx => fk_r_ret dX12_readsCompared_98 (Or.inr (Or.inl ⟨rfl, hx⟩))⟩
