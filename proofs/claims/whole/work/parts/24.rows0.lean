theorem dX12_in_0 : decode cX12_in 0 = .ok (.iload_n 0, 1) := by decide +kernel
theorem dX12_in_1 : decode cX12_in 1 = .ok (.iload_n 1, 1) := by decide +kernel
theorem dX12_in_2 : decode cX12_in 2 = .ok (.if_icmp .lt 12, 3) := by decide +kernel
theorem dX12_in_5 : decode cX12_in 5 = .ok (.iload_n 0, 1) := by decide +kernel
theorem dX12_in_6 : decode cX12_in 6 = .ok (.iload_n 2, 1) := by decide +kernel
theorem dX12_in_7 : decode cX12_in 7 = .ok (.if_icmp .gt 7, 3) := by decide +kernel
theorem dX12_in_10 : decode cX12_in 10 = .ok (.iconst 1, 1) := by decide +kernel
theorem dX12_in_11 : decode cX12_in 11 = .ok (.goto 4, 3) := by decide +kernel
theorem dX12_in_14 : decode cX12_in 14 = .ok (.iconst 0, 1) := by decide +kernel
theorem dX12_in_15 : decode cX12_in 15 = .ok (.ireturn, 1) := by decide +kernel
theorem rX12_in : (∀ (d : Nat) (a1 a2 : Value) (x : Int32) (st : List Value) (h : fk_H), fk_ev d qX12_in 0 [.int x, a1, a2] st h = fk_ev d qX12_in 1 [.int x, a1, a2] (.int x :: st) h) ∧
  (∀ (d : Nat) (a0 a2 : Value) (x : Int32) (st : List Value) (h : fk_H), fk_ev d qX12_in 1 [a0, .int x, a2] st h = fk_ev d qX12_in 2 [a0, .int x, a2] (.int x :: st) h) ∧
  (∀ (d : Nat) (L : List Value) (x y : Int32) (st : List Value) (h : fk_H), fk_ev d qX12_in 2 L (.int y :: .int x :: st) h = if x < y then fk_ev d qX12_in 14 L st h else fk_ev d qX12_in 5 L st h) ∧
  (∀ (d : Nat) (a1 a2 : Value) (x : Int32) (st : List Value) (h : fk_H), fk_ev d qX12_in 5 [.int x, a1, a2] st h = fk_ev d qX12_in 6 [.int x, a1, a2] (.int x :: st) h) ∧
  (∀ (d : Nat) (a0 a1 : Value) (x : Int32) (st : List Value) (h : fk_H), fk_ev d qX12_in 6 [a0, a1, .int x] st h = fk_ev d qX12_in 7 [a0, a1, .int x] (.int x :: st) h) ∧
  (∀ (d : Nat) (L : List Value) (x y : Int32) (st : List Value) (h : fk_H), fk_ev d qX12_in 7 L (.int y :: .int x :: st) h = if y < x then fk_ev d qX12_in 14 L st h else fk_ev d qX12_in 10 L st h) ∧
  (∀ (d : Nat) (L st : List Value) (h : fk_H), fk_ev d qX12_in 10 L st h = fk_ev d qX12_in 11 L (.int (nI 1) :: st) h) ∧
  (∀ (d : Nat) (L st : List Value) (h : fk_H), fk_ev d qX12_in 11 L st h = fk_ev d qX12_in 15 L st h) ∧
  (∀ (d : Nat) (L st : List Value) (h : fk_H), fk_ev d qX12_in 14 L st h = fk_ev d qX12_in 15 L (.int (nI 0) :: st) h) ∧
  (∀ (d : Nat) (L : List Value) (x : Int32) (h : fk_H), (x = nI 0 ∨ x = nI 1) → fk_ev d qX12_in 15 L [.int x] h = some (some (.int x), h)) := ⟨fun d a1 a2 x st h => fk_w_iloadn 0 [.int x, a1, a2] dX12_in_0 rfl,
  fun d a0 a2 x st h => fk_w_iloadn 1 [a0, .int x, a2] dX12_in_1 rfl,
  fun d L x y st h => fk_r_icmp_lt dX12_in_2 (by decide),
  fun d a1 a2 x st h => fk_w_iloadn 0 [.int x, a1, a2] dX12_in_5 rfl,
  fun d a0 a1 x st h => fk_w_iloadn 2 [a0, a1, .int x] dX12_in_6 rfl,
  fun d L x y st h => fk_r_icmp_gt dX12_in_7 (by decide),
  fun d L st h => fk_w_iconst dX12_in_10 (by decide),
  fun d L st h => fk_r_goto dX12_in_11 (by decide),
  fun d L st h => fk_w_iconst dX12_in_14 (by decide),
  fun d L x h hx => fk_r_ret dX12_in_15 (Or.inr (Or.inl ⟨rfl, hx⟩))⟩
theorem dX12_min_0 : decode cX12_min 0 = .ok (.iload_n 0, 1) := by decide +kernel
theorem dX12_min_1 : decode cX12_min 1 = .ok (.iload_n 1, 1) := by decide +kernel
theorem dX12_min_2 : decode cX12_min 2 = .ok (.if_icmp .ge 7, 3) := by decide +kernel
theorem dX12_min_5 : decode cX12_min 5 = .ok (.iload_n 0, 1) := by decide +kernel
theorem dX12_min_6 : decode cX12_min 6 = .ok (.goto 4, 3) := by decide +kernel
theorem dX12_min_9 : decode cX12_min 9 = .ok (.iload_n 1, 1) := by decide +kernel
theorem dX12_min_10 : decode cX12_min 10 = .ok (.ireturn, 1) := by decide +kernel
theorem rX12_min : (∀ (d : Nat) (a1 : Value) (x : Int32) (st : List Value) (h : fk_H), fk_ev d qX12_min 0 [.int x, a1] st h = fk_ev d qX12_min 1 [.int x, a1] (.int x :: st) h) ∧
  (∀ (d : Nat) (a0 : Value) (x : Int32) (st : List Value) (h : fk_H), fk_ev d qX12_min 1 [a0, .int x] st h = fk_ev d qX12_min 2 [a0, .int x] (.int x :: st) h) ∧
  (∀ (d : Nat) (L : List Value) (x y : Int32) (st : List Value) (h : fk_H), fk_ev d qX12_min 2 L (.int y :: .int x :: st) h = if y ≤ x then fk_ev d qX12_min 9 L st h else fk_ev d qX12_min 5 L st h) ∧
  (∀ (d : Nat) (a1 : Value) (x : Int32) (st : List Value) (h : fk_H), fk_ev d qX12_min 5 [.int x, a1] st h = fk_ev d qX12_min 6 [.int x, a1] (.int x :: st) h) ∧
  (∀ (d : Nat) (L st : List Value) (h : fk_H), fk_ev d qX12_min 6 L st h = fk_ev d qX12_min 10 L st h) ∧
  (∀ (d : Nat) (a0 : Value) (x : Int32) (st : List Value) (h : fk_H), fk_ev d qX12_min 9 [a0, .int x] st h = fk_ev d qX12_min 10 [a0, .int x] (.int x :: st) h) ∧
  (∀ (d : Nat) (L : List Value) (x : Int32) (h : fk_H), fk_ev d qX12_min 10 L [.int x] h = some (some (.int x), h)) := ⟨fun d a1 x st h => fk_w_iloadn 0 [.int x, a1] dX12_min_0 rfl,
  fun d a0 x st h => fk_w_iloadn 1 [a0, .int x] dX12_min_1 rfl,
  fun d L x y st h => fk_r_icmp_ge dX12_min_2 (by decide),
  fun d a1 x st h => fk_w_iloadn 0 [.int x, a1] dX12_min_5 rfl,
  fun d L st h => fk_r_goto dX12_min_6 (by decide),
  fun d a0 x st h => fk_w_iloadn 1 [a0, .int x] dX12_min_9 rfl,
  fun d L x h => fk_r_ret dX12_min_10 (Or.inl rfl)⟩
theorem dX12_max_0 : decode cX12_max 0 = .ok (.iload_n 0, 1) := by decide +kernel
theorem dX12_max_1 : decode cX12_max 1 = .ok (.iload_n 1, 1) := by decide +kernel
theorem dX12_max_2 : decode cX12_max 2 = .ok (.if_icmp .le 7, 3) := by decide +kernel
theorem dX12_max_5 : decode cX12_max 5 = .ok (.iload_n 0, 1) := by decide +kernel
theorem dX12_max_6 : decode cX12_max 6 = .ok (.goto 4, 3) := by decide +kernel
theorem dX12_max_9 : decode cX12_max 9 = .ok (.iload_n 1, 1) := by decide +kernel
theorem dX12_max_10 : decode cX12_max 10 = .ok (.ireturn, 1) := by decide +kernel
theorem rX12_max : (∀ (d : Nat) (a1 : Value) (x : Int32) (st : List Value) (h : fk_H), fk_ev d qX12_max 0 [.int x, a1] st h = fk_ev d qX12_max 1 [.int x, a1] (.int x :: st) h) ∧
  (∀ (d : Nat) (a0 : Value) (x : Int32) (st : List Value) (h : fk_H), fk_ev d qX12_max 1 [a0, .int x] st h = fk_ev d qX12_max 2 [a0, .int x] (.int x :: st) h) ∧
  (∀ (d : Nat) (L : List Value) (x y : Int32) (st : List Value) (h : fk_H), fk_ev d qX12_max 2 L (.int y :: .int x :: st) h = if x ≤ y then fk_ev d qX12_max 9 L st h else fk_ev d qX12_max 5 L st h) ∧
  (∀ (d : Nat) (a1 : Value) (x : Int32) (st : List Value) (h : fk_H), fk_ev d qX12_max 5 [.int x, a1] st h = fk_ev d qX12_max 6 [.int x, a1] (.int x :: st) h) ∧
  (∀ (d : Nat) (L st : List Value) (h : fk_H), fk_ev d qX12_max 6 L st h = fk_ev d qX12_max 10 L st h) ∧
  (∀ (d : Nat) (a0 : Value) (x : Int32) (st : List Value) (h : fk_H), fk_ev d qX12_max 9 [a0, .int x] st h = fk_ev d qX12_max 10 [a0, .int x] (.int x :: st) h) ∧
  (∀ (d : Nat) (L : List Value) (x : Int32) (h : fk_H), fk_ev d qX12_max 10 L [.int x] h = some (some (.int x), h)) := ⟨fun d a1 x st h => fk_w_iloadn 0 [.int x, a1] dX12_max_0 rfl,
  fun d a0 x st h => fk_w_iloadn 1 [a0, .int x] dX12_max_1 rfl,
  fun d L x y st h => fk_r_icmp_le dX12_max_2 (by decide),
  fun d a1 x st h => fk_w_iloadn 0 [.int x, a1] dX12_max_5 rfl,
  fun d L st h => fk_r_goto dX12_max_6 (by decide),
  fun d a0 x st h => fk_w_iloadn 1 [a0, .int x] dX12_max_9 rfl,
  fun d L x h => fk_r_ret dX12_max_10 (Or.inl rfl)⟩
theorem dX12_has_0 : decode cX12_has 0 = .ok (.iload_n 0, 1) := by decide +kernel
theorem dX12_has_1 : decode cX12_has 1 = .ok (.iload_n 1, 1) := by decide +kernel
theorem dX12_has_2 : decode cX12_has 2 = .ok (.ishr, 1) := by decide +kernel
theorem dX12_has_3 : decode cX12_has 3 = .ok (.iconst 1, 1) := by decide +kernel
theorem dX12_has_4 : decode cX12_has 4 = .ok (.iand, 1) := by decide +kernel
theorem dX12_has_5 : decode cX12_has 5 = .ok (.iconst 1, 1) := by decide +kernel
theorem dX12_has_6 : decode cX12_has 6 = .ok (.if_icmp .ne 7, 3) := by decide +kernel
theorem dX12_has_9 : decode cX12_has 9 = .ok (.iconst 1, 1) := by decide +kernel
theorem dX12_has_10 : decode cX12_has 10 = .ok (.goto 4, 3) := by decide +kernel
theorem dX12_has_13 : decode cX12_has 13 = .ok (.iconst 0, 1) := by decide +kernel
theorem dX12_has_14 : decode cX12_has 14 = .ok (.ireturn, 1) := by decide +kernel
theorem rX12_has : (∀ (d : Nat) (a1 : Value) (x : Int32) (st : List Value) (h : fk_H), fk_ev d qX12_has 0 [.int x, a1] st h = fk_ev d qX12_has 1 [.int x, a1] (.int x :: st) h) ∧
  (∀ (d : Nat) (a0 : Value) (x : Int32) (st : List Value) (h : fk_H), fk_ev d qX12_has 1 [a0, .int x] st h = fk_ev d qX12_has 2 [a0, .int x] (.int x :: st) h) ∧
  (∀ (d : Nat) (L : List Value) (x y : Int32) (st : List Value) (h : fk_H), fk_ev d qX12_has 2 L (.int y :: .int x :: st) h = fk_ev d qX12_has 3 L (.int (x >>> (y &&& 31)) :: st) h) ∧
  (∀ (d : Nat) (L st : List Value) (h : fk_H), fk_ev d qX12_has 3 L st h = fk_ev d qX12_has 4 L (.int (nI 1) :: st) h) ∧
  (∀ (d : Nat) (L : List Value) (x y : Int32) (st : List Value) (h : fk_H), fk_ev d qX12_has 4 L (.int y :: .int x :: st) h = fk_ev d qX12_has 5 L (.int (x &&& y) :: st) h) ∧
  (∀ (d : Nat) (L st : List Value) (h : fk_H), fk_ev d qX12_has 5 L st h = fk_ev d qX12_has 6 L (.int (nI 1) :: st) h) ∧
  (∀ (d : Nat) (L : List Value) (x y : Int32) (st : List Value) (h : fk_H), fk_ev d qX12_has 6 L (.int y :: .int x :: st) h = if ¬ x = y then fk_ev d qX12_has 13 L st h else fk_ev d qX12_has 9 L st h) ∧
  (∀ (d : Nat) (L st : List Value) (h : fk_H), fk_ev d qX12_has 9 L st h = fk_ev d qX12_has 10 L (.int (nI 1) :: st) h) ∧
  (∀ (d : Nat) (L st : List Value) (h : fk_H), fk_ev d qX12_has 10 L st h = fk_ev d qX12_has 14 L st h) ∧
  (∀ (d : Nat) (L st : List Value) (h : fk_H), fk_ev d qX12_has 13 L st h = fk_ev d qX12_has 14 L (.int (nI 0) :: st) h) ∧
  (∀ (d : Nat) (L : List Value) (x : Int32) (h : fk_H), (x = nI 0 ∨ x = nI 1) → fk_ev d qX12_has 14 L [.int x] h = some (some (.int x), h)) := ⟨fun d a1 x st h => fk_w_iloadn 0 [.int x, a1] dX12_has_0 rfl,
  fun d a0 x st h => fk_w_iloadn 1 [a0, .int x] dX12_has_1 rfl,
  fun d L x y st h => fk_r_ishr dX12_has_2,
  fun d L st h => fk_w_iconst dX12_has_3 (by decide),
  fun d L x y st h => fk_r_iand dX12_has_4,
  fun d L st h => fk_w_iconst dX12_has_5 (by decide),
  fun d L x y st h => fk_r_icmp_ne dX12_has_6 (by decide),
  fun d L st h => fk_w_iconst dX12_has_9 (by decide),
  fun d L st h => fk_r_goto dX12_has_10 (by decide),
  fun d L st h => fk_w_iconst dX12_has_13 (by decide),
  fun d L x h hx => fk_r_ret dX12_has_14 (Or.inr (Or.inl ⟨rfl, hx⟩))⟩
theorem dX12_isPlace_0 : decode cX12_isPlace 0 = .ok (.iload_n 0, 1) := by decide +kernel
theorem dX12_isPlace_1 : decode cX12_isPlace 1 = .ok (.ifCond .lt 13, 3) := by decide +kernel
theorem dX12_isPlace_4 : decode cX12_isPlace 4 = .ok (.iload_n 0, 1) := by decide +kernel
theorem dX12_isPlace_5 : decode cX12_isPlace 5 = .ok (.bipush 16, 2) := by decide +kernel
theorem dX12_isPlace_7 : decode cX12_isPlace 7 = .ok (.if_icmp .ge 7, 3) := by decide +kernel
theorem dX12_isPlace_10 : decode cX12_isPlace 10 = .ok (.iconst 1, 1) := by decide +kernel
theorem dX12_isPlace_11 : decode cX12_isPlace 11 = .ok (.goto 4, 3) := by decide +kernel
theorem dX12_isPlace_14 : decode cX12_isPlace 14 = .ok (.iconst 0, 1) := by decide +kernel
theorem dX12_isPlace_15 : decode cX12_isPlace 15 = .ok (.ireturn, 1) := by decide +kernel
theorem rX12_isPlace : (∀ (d : Nat) (x : Int32) (st : List Value) (h : fk_H), fk_ev d qX12_isPlace 0 [.int x] st h = fk_ev d qX12_isPlace 1 [.int x] (.int x :: st) h) ∧
  (∀ (d : Nat) (L : List Value) (x : Int32) (st : List Value) (h : fk_H), fk_ev d qX12_isPlace 1 L (.int x :: st) h = if x < nI 0 then fk_ev d qX12_isPlace 14 L st h else fk_ev d qX12_isPlace 4 L st h) ∧
  (∀ (d : Nat) (x : Int32) (st : List Value) (h : fk_H), fk_ev d qX12_isPlace 4 [.int x] st h = fk_ev d qX12_isPlace 5 [.int x] (.int x :: st) h) ∧
  (∀ (d : Nat) (L st : List Value) (h : fk_H), fk_ev d qX12_isPlace 5 L st h = fk_ev d qX12_isPlace 7 L (.int (nI 16) :: st) h) ∧
  (∀ (d : Nat) (L : List Value) (x y : Int32) (st : List Value) (h : fk_H), fk_ev d qX12_isPlace 7 L (.int y :: .int x :: st) h = if y ≤ x then fk_ev d qX12_isPlace 14 L st h else fk_ev d qX12_isPlace 10 L st h) ∧
  (∀ (d : Nat) (L st : List Value) (h : fk_H), fk_ev d qX12_isPlace 10 L st h = fk_ev d qX12_isPlace 11 L (.int (nI 1) :: st) h) ∧
  (∀ (d : Nat) (L st : List Value) (h : fk_H), fk_ev d qX12_isPlace 11 L st h = fk_ev d qX12_isPlace 15 L st h) ∧
  (∀ (d : Nat) (L st : List Value) (h : fk_H), fk_ev d qX12_isPlace 14 L st h = fk_ev d qX12_isPlace 15 L (.int (nI 0) :: st) h) ∧
  (∀ (d : Nat) (L : List Value) (x : Int32) (h : fk_H), (x = nI 0 ∨ x = nI 1) → fk_ev d qX12_isPlace 15 L [.int x] h = some (some (.int x), h)) := ⟨fun d  x st h => fk_w_iloadn 0 [.int x] dX12_isPlace_0 rfl,
  fun d L x st h => fk_r_if_lt dX12_isPlace_1 (by decide),
  fun d  x st h => fk_w_iloadn 0 [.int x] dX12_isPlace_4 rfl,
  fun d L st h => fk_w_bipush dX12_isPlace_5 (by decide),
  fun d L x y st h => fk_r_icmp_ge dX12_isPlace_7 (by decide),
  fun d L st h => fk_w_iconst dX12_isPlace_10 (by decide),
  fun d L st h => fk_r_goto dX12_isPlace_11 (by decide),
  fun d L st h => fk_w_iconst dX12_isPlace_14 (by decide),
  fun d L x h hx => fk_r_ret dX12_isPlace_15 (Or.inr (Or.inl ⟨rfl, hx⟩))⟩
theorem dX12_isOne_0 : decode cX12_isOne 0 = .ok (.iload_n 0, 1) := by decide +kernel
theorem dX12_isOne_1 : decode cX12_isOne 1 = .ok (.ifCond .lt 12, 3) := by decide +kernel
theorem dX12_isOne_4 : decode cX12_isOne 4 = .ok (.iload_n 0, 1) := by decide +kernel
theorem dX12_isOne_5 : decode cX12_isOne 5 = .ok (.iconst 4, 1) := by decide +kernel
theorem dX12_isOne_6 : decode cX12_isOne 6 = .ok (.if_icmp .ge 7, 3) := by decide +kernel
theorem dX12_isOne_9 : decode cX12_isOne 9 = .ok (.iconst 1, 1) := by decide +kernel
theorem dX12_isOne_10 : decode cX12_isOne 10 = .ok (.goto 4, 3) := by decide +kernel
theorem dX12_isOne_13 : decode cX12_isOne 13 = .ok (.iconst 0, 1) := by decide +kernel
theorem dX12_isOne_14 : decode cX12_isOne 14 = .ok (.ireturn, 1) := by decide +kernel
theorem rX12_isOne : (∀ (d : Nat) (x : Int32) (st : List Value) (h : fk_H), fk_ev d qX12_isOne 0 [.int x] st h = fk_ev d qX12_isOne 1 [.int x] (.int x :: st) h) ∧
  (∀ (d : Nat) (L : List Value) (x : Int32) (st : List Value) (h : fk_H), fk_ev d qX12_isOne 1 L (.int x :: st) h = if x < nI 0 then fk_ev d qX12_isOne 13 L st h else fk_ev d qX12_isOne 4 L st h) ∧
  (∀ (d : Nat) (x : Int32) (st : List Value) (h : fk_H), fk_ev d qX12_isOne 4 [.int x] st h = fk_ev d qX12_isOne 5 [.int x] (.int x :: st) h) ∧
  (∀ (d : Nat) (L st : List Value) (h : fk_H), fk_ev d qX12_isOne 5 L st h = fk_ev d qX12_isOne 6 L (.int (nI 4) :: st) h) ∧
  (∀ (d : Nat) (L : List Value) (x y : Int32) (st : List Value) (h : fk_H), fk_ev d qX12_isOne 6 L (.int y :: .int x :: st) h = if y ≤ x then fk_ev d qX12_isOne 13 L st h else fk_ev d qX12_isOne 9 L st h) ∧
  (∀ (d : Nat) (L st : List Value) (h : fk_H), fk_ev d qX12_isOne 9 L st h = fk_ev d qX12_isOne 10 L (.int (nI 1) :: st) h) ∧
  (∀ (d : Nat) (L st : List Value) (h : fk_H), fk_ev d qX12_isOne 10 L st h = fk_ev d qX12_isOne 14 L st h) ∧
  (∀ (d : Nat) (L st : List Value) (h : fk_H), fk_ev d qX12_isOne 13 L st h = fk_ev d qX12_isOne 14 L (.int (nI 0) :: st) h) ∧
  (∀ (d : Nat) (L : List Value) (x : Int32) (h : fk_H), (x = nI 0 ∨ x = nI 1) → fk_ev d qX12_isOne 14 L [.int x] h = some (some (.int x), h)) := ⟨fun d  x st h => fk_w_iloadn 0 [.int x] dX12_isOne_0 rfl,
  fun d L x st h => fk_r_if_lt dX12_isOne_1 (by decide),
  fun d  x st h => fk_w_iloadn 0 [.int x] dX12_isOne_4 rfl,
  fun d L st h => fk_w_iconst dX12_isOne_5 (by decide),
  fun d L x y st h => fk_r_icmp_ge dX12_isOne_6 (by decide),
  fun d L st h => fk_w_iconst dX12_isOne_9 (by decide),
  fun d L st h => fk_r_goto dX12_isOne_10 (by decide),
  fun d L st h => fk_w_iconst dX12_isOne_13 (by decide),
  fun d L x h hx => fk_r_ret dX12_isOne_14 (Or.inr (Or.inl ⟨rfl, hx⟩))⟩
theorem dX12_isFact_0 : decode cX12_isFact 0 = .ok (.iload_n 0, 1) := by decide +kernel
theorem dX12_isFact_1 : decode cX12_isFact 1 = .ok (.ifCond .lt 13, 3) := by decide +kernel
theorem dX12_isFact_4 : decode cX12_isFact 4 = .ok (.iload_n 0, 1) := by decide +kernel
theorem dX12_isFact_5 : decode cX12_isFact 5 = .ok (.bipush 16, 2) := by decide +kernel
theorem dX12_isFact_7 : decode cX12_isFact 7 = .ok (.if_icmp .ge 7, 3) := by decide +kernel
theorem dX12_isFact_10 : decode cX12_isFact 10 = .ok (.iconst 1, 1) := by decide +kernel
theorem dX12_isFact_11 : decode cX12_isFact 11 = .ok (.goto 4, 3) := by decide +kernel
theorem dX12_isFact_14 : decode cX12_isFact 14 = .ok (.iconst 0, 1) := by decide +kernel
theorem dX12_isFact_15 : decode cX12_isFact 15 = .ok (.ireturn, 1) := by decide +kernel
theorem rX12_isFact : (∀ (d : Nat) (x : Int32) (st : List Value) (h : fk_H), fk_ev d qX12_isFact 0 [.int x] st h = fk_ev d qX12_isFact 1 [.int x] (.int x :: st) h) ∧
  (∀ (d : Nat) (L : List Value) (x : Int32) (st : List Value) (h : fk_H), fk_ev d qX12_isFact 1 L (.int x :: st) h = if x < nI 0 then fk_ev d qX12_isFact 14 L st h else fk_ev d qX12_isFact 4 L st h) ∧
  (∀ (d : Nat) (x : Int32) (st : List Value) (h : fk_H), fk_ev d qX12_isFact 4 [.int x] st h = fk_ev d qX12_isFact 5 [.int x] (.int x :: st) h) ∧
  (∀ (d : Nat) (L st : List Value) (h : fk_H), fk_ev d qX12_isFact 5 L st h = fk_ev d qX12_isFact 7 L (.int (nI 16) :: st) h) ∧
  (∀ (d : Nat) (L : List Value) (x y : Int32) (st : List Value) (h : fk_H), fk_ev d qX12_isFact 7 L (.int y :: .int x :: st) h = if y ≤ x then fk_ev d qX12_isFact 14 L st h else fk_ev d qX12_isFact 10 L st h) ∧
  (∀ (d : Nat) (L st : List Value) (h : fk_H), fk_ev d qX12_isFact 10 L st h = fk_ev d qX12_isFact 11 L (.int (nI 1) :: st) h) ∧
  (∀ (d : Nat) (L st : List Value) (h : fk_H), fk_ev d qX12_isFact 11 L st h = fk_ev d qX12_isFact 15 L st h) ∧
  (∀ (d : Nat) (L st : List Value) (h : fk_H), fk_ev d qX12_isFact 14 L st h = fk_ev d qX12_isFact 15 L (.int (nI 0) :: st) h) ∧
  (∀ (d : Nat) (L : List Value) (x : Int32) (h : fk_H), (x = nI 0 ∨ x = nI 1) → fk_ev d qX12_isFact 15 L [.int x] h = some (some (.int x), h)) := ⟨fun d  x st h => fk_w_iloadn 0 [.int x] dX12_isFact_0 rfl,
  fun d L x st h => fk_r_if_lt dX12_isFact_1 (by decide),
  fun d  x st h => fk_w_iloadn 0 [.int x] dX12_isFact_4 rfl,
  fun d L st h => fk_w_bipush dX12_isFact_5 (by decide),
  fun d L x y st h => fk_r_icmp_ge dX12_isFact_7 (by decide),
  fun d L st h => fk_w_iconst dX12_isFact_10 (by decide),
  fun d L st h => fk_r_goto dX12_isFact_11 (by decide),
  fun d L st h => fk_w_iconst dX12_isFact_14 (by decide),
  fun d L x h hx => fk_r_ret dX12_isFact_15 (Or.inr (Or.inl ⟨rfl, hx⟩))⟩
theorem dX12_lives_0 : decode cX12_lives 0 = .ok (.aload_n 0, 1) := by decide +kernel
theorem dX12_lives_1 : decode cX12_lives 1 = .ok (.getfield 7, 3) := by decide +kernel
theorem dX12_lives_4 : decode cX12_lives 4 = .ok (.sipush 192, 3) := by decide +kernel
theorem dX12_lives_7 : decode cX12_lives 7 = .ok (.iload_n 1, 1) := by decide +kernel
theorem dX12_lives_8 : decode cX12_lives 8 = .ok (.iadd, 1) := by decide +kernel
theorem dX12_lives_9 : decode cX12_lives 9 = .ok (.iaload, 1) := by decide +kernel
theorem dX12_lives_10 : decode cX12_lives 10 = .ok (.iconst 1, 1) := by decide +kernel
theorem dX12_lives_11 : decode cX12_lives 11 = .ok (.if_icmp .ne 7, 3) := by decide +kernel
theorem dX12_lives_14 : decode cX12_lives 14 = .ok (.iconst 1, 1) := by decide +kernel
theorem dX12_lives_15 : decode cX12_lives 15 = .ok (.goto 4, 3) := by decide +kernel
theorem dX12_lives_18 : decode cX12_lives 18 = .ok (.iconst 0, 1) := by decide +kernel
theorem dX12_lives_19 : decode cX12_lives 19 = .ok (.ireturn, 1) := by decide +kernel
theorem rX12_lives : (∀ (d : Nat) (a1 : Value) (x : Nat) (st : List Value) (h : fk_H), fk_ev d qX12_lives 0 [.ref x, a1] st h = fk_ev d qX12_lives 1 [.ref x, a1] (.ref x :: st) h) ∧
  (∀ (d : Nat) (L st : List Value) (N : Nat) (y : Nat → Nat → Int32) (l : Nat → Nat → Int64), fk_ev d qX12_lives 1 L (.ref 246 :: st) (fk_E N y l) = fk_ev d qX12_lives 4 L (.ref 247 :: st) (fk_E N y l)) ∧
  (∀ (d : Nat) (L st : List Value) (h : fk_H), fk_ev d qX12_lives 4 L st h = fk_ev d qX12_lives 7 L (.int (nI 192) :: st) h) ∧
  (∀ (d : Nat) (a0 : Value) (x : Int32) (st : List Value) (h : fk_H), fk_ev d qX12_lives 7 [a0, .int x] st h = fk_ev d qX12_lives 8 [a0, .int x] (.int x :: st) h) ∧
  (∀ (d : Nat) (L : List Value) (x y : Int32) (st : List Value) (h : fk_H), fk_ev d qX12_lives 8 L (.int y :: .int x :: st) h = fk_ev d qX12_lives 9 L (.int (x + y) :: st) h) ∧
  (∀ (d : Nat) (L st : List Value) (N : Nat) (y : Nat → Nat → Int32) (l : Nat → Nat → Int64) (i : Nat), i < 3912 → fk_ev d qX12_lives 9 L (.int (nI i) :: .ref 247 :: st) (fk_E N y l) = fk_ev d qX12_lives 10 L (.int (y 247 i) :: st) (fk_E N y l)) ∧
  (∀ (d : Nat) (L st : List Value) (h : fk_H), fk_ev d qX12_lives 10 L st h = fk_ev d qX12_lives 11 L (.int (nI 1) :: st) h) ∧
  (∀ (d : Nat) (L : List Value) (x y : Int32) (st : List Value) (h : fk_H), fk_ev d qX12_lives 11 L (.int y :: .int x :: st) h = if ¬ x = y then fk_ev d qX12_lives 18 L st h else fk_ev d qX12_lives 14 L st h) ∧
  (∀ (d : Nat) (L st : List Value) (h : fk_H), fk_ev d qX12_lives 14 L st h = fk_ev d qX12_lives 15 L (.int (nI 1) :: st) h) ∧
  (∀ (d : Nat) (L st : List Value) (h : fk_H), fk_ev d qX12_lives 15 L st h = fk_ev d qX12_lives 19 L st h) ∧
  (∀ (d : Nat) (L st : List Value) (h : fk_H), fk_ev d qX12_lives 18 L st h = fk_ev d qX12_lives 19 L (.int (nI 0) :: st) h) ∧
  (∀ (d : Nat) (L : List Value) (x : Int32) (h : fk_H), (x = nI 0 ∨ x = nI 1) → fk_ev d qX12_lives 19 L [.int x] h = some (some (.int x), h)) := ⟨fun d a1 x st h => fk_w_aloadn 0 [.ref x, a1] dX12_lives_0 rfl,
  fun d L st N y l => fk_g_getC rfl lf_12_7 (by decide) rfl dX12_lives_1 fk_at_246,
  fun d L st h => fk_w_sipush dX12_lives_4 (by decide),
  fun d a0 x st h => fk_w_iloadn 1 [a0, .int x] dX12_lives_7 rfl,
  fun d L x y st h => fk_r_iadd dX12_lives_8,
  fun d L st N y l i hi => fk_h_iald dX12_lives_9 fk_at_247 hi (by decide),
  fun d L st h => fk_w_iconst dX12_lives_10 (by decide),
  fun d L x y st h => fk_r_icmp_ne dX12_lives_11 (by decide),
  fun d L st h => fk_w_iconst dX12_lives_14 (by decide),
  fun d L st h => fk_r_goto dX12_lives_15 (by decide),
  fun d L st h => fk_w_iconst dX12_lives_18 (by decide),
  fun d L x h hx => fk_r_ret dX12_lives_19 (Or.inr (Or.inl ⟨rfl, hx⟩))⟩
theorem dX12_isHalf_0 : decode cX12_isHalf 0 = .ok (.iload_n 1, 1) := by decide +kernel
theorem dX12_isHalf_1 : decode cX12_isHalf 1 = .ok (.ifCond .lt 19, 3) := by decide +kernel
theorem dX12_isHalf_4 : decode cX12_isHalf 4 = .ok (.iload_n 1, 1) := by decide +kernel
theorem dX12_isHalf_5 : decode cX12_isHalf 5 = .ok (.aload_n 0, 1) := by decide +kernel
theorem dX12_isHalf_6 : decode cX12_isHalf 6 = .ok (.getfield 7, 3) := by decide +kernel
theorem dX12_isHalf_9 : decode cX12_isHalf 9 = .ok (.sipush 833, 3) := by decide +kernel
theorem dX12_isHalf_12 : decode cX12_isHalf 12 = .ok (.iaload, 1) := by decide +kernel
theorem dX12_isHalf_13 : decode cX12_isHalf 13 = .ok (.if_icmp .ge 7, 3) := by decide +kernel
theorem dX12_isHalf_16 : decode cX12_isHalf 16 = .ok (.iconst 1, 1) := by decide +kernel
theorem dX12_isHalf_17 : decode cX12_isHalf 17 = .ok (.goto 4, 3) := by decide +kernel
theorem dX12_isHalf_20 : decode cX12_isHalf 20 = .ok (.iconst 0, 1) := by decide +kernel
theorem dX12_isHalf_21 : decode cX12_isHalf 21 = .ok (.ireturn, 1) := by decide +kernel
theorem rX12_isHalf : (∀ (d : Nat) (a0 : Value) (x : Int32) (st : List Value) (h : fk_H), fk_ev d qX12_isHalf 0 [a0, .int x] st h = fk_ev d qX12_isHalf 1 [a0, .int x] (.int x :: st) h) ∧
  (∀ (d : Nat) (L : List Value) (x : Int32) (st : List Value) (h : fk_H), fk_ev d qX12_isHalf 1 L (.int x :: st) h = if x < nI 0 then fk_ev d qX12_isHalf 20 L st h else fk_ev d qX12_isHalf 4 L st h) ∧
  (∀ (d : Nat) (a0 : Value) (x : Int32) (st : List Value) (h : fk_H), fk_ev d qX12_isHalf 4 [a0, .int x] st h = fk_ev d qX12_isHalf 5 [a0, .int x] (.int x :: st) h) ∧
  (∀ (d : Nat) (a1 : Value) (x : Nat) (st : List Value) (h : fk_H), fk_ev d qX12_isHalf 5 [.ref x, a1] st h = fk_ev d qX12_isHalf 6 [.ref x, a1] (.ref x :: st) h) ∧
  (∀ (d : Nat) (L st : List Value) (N : Nat) (y : Nat → Nat → Int32) (l : Nat → Nat → Int64), fk_ev d qX12_isHalf 6 L (.ref 246 :: st) (fk_E N y l) = fk_ev d qX12_isHalf 9 L (.ref 247 :: st) (fk_E N y l)) ∧
  (∀ (d : Nat) (L st : List Value) (h : fk_H), fk_ev d qX12_isHalf 9 L st h = fk_ev d qX12_isHalf 12 L (.int (nI 833) :: st) h) ∧
  (∀ (d : Nat) (L st : List Value) (N : Nat) (y : Nat → Nat → Int32) (l : Nat → Nat → Int64) (i : Nat), i < 3912 → fk_ev d qX12_isHalf 12 L (.int (nI i) :: .ref 247 :: st) (fk_E N y l) = fk_ev d qX12_isHalf 13 L (.int (y 247 i) :: st) (fk_E N y l)) ∧
  (∀ (d : Nat) (L : List Value) (x y : Int32) (st : List Value) (h : fk_H), fk_ev d qX12_isHalf 13 L (.int y :: .int x :: st) h = if y ≤ x then fk_ev d qX12_isHalf 20 L st h else fk_ev d qX12_isHalf 16 L st h) ∧
  (∀ (d : Nat) (L st : List Value) (h : fk_H), fk_ev d qX12_isHalf 16 L st h = fk_ev d qX12_isHalf 17 L (.int (nI 1) :: st) h) ∧
  (∀ (d : Nat) (L st : List Value) (h : fk_H), fk_ev d qX12_isHalf 17 L st h = fk_ev d qX12_isHalf 21 L st h) ∧
  (∀ (d : Nat) (L st : List Value) (h : fk_H), fk_ev d qX12_isHalf 20 L st h = fk_ev d qX12_isHalf 21 L (.int (nI 0) :: st) h) ∧
  (∀ (d : Nat) (L : List Value) (x : Int32) (h : fk_H), (x = nI 0 ∨ x = nI 1) → fk_ev d qX12_isHalf 21 L [.int x] h = some (some (.int x), h)) := ⟨fun d a0 x st h => fk_w_iloadn 1 [a0, .int x] dX12_isHalf_0 rfl,
  fun d L x st h => fk_r_if_lt dX12_isHalf_1 (by decide),
  fun d a0 x st h => fk_w_iloadn 1 [a0, .int x] dX12_isHalf_4 rfl,
  fun d a1 x st h => fk_w_aloadn 0 [.ref x, a1] dX12_isHalf_5 rfl,
  fun d L st N y l => fk_g_getC rfl lf_12_7 (by decide) rfl dX12_isHalf_6 fk_at_246,
  fun d L st h => fk_w_sipush dX12_isHalf_9 (by decide),
  fun d L st N y l i hi => fk_h_iald dX12_isHalf_12 fk_at_247 hi (by decide),
  fun d L x y st h => fk_r_icmp_ge dX12_isHalf_13 (by decide),
  fun d L st h => fk_w_iconst dX12_isHalf_16 (by decide),
  fun d L st h => fk_r_goto dX12_isHalf_17 (by decide),
  fun d L st h => fk_w_iconst dX12_isHalf_20 (by decide),
  fun d L x h hx => fk_r_ret dX12_isHalf_21 (Or.inr (Or.inl ⟨rfl, hx⟩))⟩
theorem dX12_isLiving_0 : decode cX12_isLiving 0 = .ok (.aload_n 0, 1) := by decide +kernel
theorem dX12_isLiving_1 : decode cX12_isLiving 1 = .ok (.iload_n 1, 1) := by decide +kernel
theorem dX12_isLiving_2 : decode cX12_isLiving 2 = .ok (.invokevirtual 123, 3) := by decide +kernel
theorem dX12_isLiving_5 : decode cX12_isLiving 5 = .ok (.ifCond .eq 15, 3) := by decide +kernel
theorem dX12_isLiving_8 : decode cX12_isLiving 8 = .ok (.aload_n 0, 1) := by decide +kernel
theorem dX12_isLiving_9 : decode cX12_isLiving 9 = .ok (.iload_n 1, 1) := by decide +kernel
theorem dX12_isLiving_10 : decode cX12_isLiving 10 = .ok (.invokevirtual 126, 3) := by decide +kernel
theorem dX12_isLiving_13 : decode cX12_isLiving 13 = .ok (.ifCond .eq 7, 3) := by decide +kernel
theorem dX12_isLiving_16 : decode cX12_isLiving 16 = .ok (.iconst 1, 1) := by decide +kernel
theorem dX12_isLiving_17 : decode cX12_isLiving 17 = .ok (.goto 4, 3) := by decide +kernel
theorem dX12_isLiving_20 : decode cX12_isLiving 20 = .ok (.iconst 0, 1) := by decide +kernel
theorem dX12_isLiving_21 : decode cX12_isLiving 21 = .ok (.ireturn, 1) := by decide +kernel
theorem rX12_isLiving : (∀ (d : Nat) (a1 : Value) (x : Nat) (st : List Value) (h : fk_H), fk_ev d qX12_isLiving 0 [.ref x, a1] st h = fk_ev d qX12_isLiving 1 [.ref x, a1] (.ref x :: st) h) ∧
  (∀ (d : Nat) (a0 : Value) (x : Int32) (st : List Value) (h : fk_H), fk_ev d qX12_isLiving 1 [a0, .int x] st h = fk_ev d qX12_isLiving 2 [a0, .int x] (.int x :: st) h) ∧
  (∀ (d : Nat) (L : List Value) (x0 : Int32)  (N : Nat) (y : Nat → Nat → Int32) (l : Nat → Nat → Int64), fk_ev (d + 1) qX12_isLiving 2 L (.int x0 :: .ref 246 :: []) (fk_E N y l) = (fk_ev d qX12_isHalf 0 [.ref 246, .int x0] [] (fk_E N y l)).bind fun o => fk_ev (d + 1) qX12_isLiving 5 L (o.1.toList ++ []) o.2) ∧
  (∀ (d : Nat) (L : List Value) (x : Int32) (st : List Value) (h : fk_H), fk_ev d qX12_isLiving 5 L (.int x :: st) h = if x = nI 0 then fk_ev d qX12_isLiving 20 L st h else fk_ev d qX12_isLiving 8 L st h) ∧
  (∀ (d : Nat) (a1 : Value) (x : Nat) (st : List Value) (h : fk_H), fk_ev d qX12_isLiving 8 [.ref x, a1] st h = fk_ev d qX12_isLiving 9 [.ref x, a1] (.ref x :: st) h) ∧
  (∀ (d : Nat) (a0 : Value) (x : Int32) (st : List Value) (h : fk_H), fk_ev d qX12_isLiving 9 [a0, .int x] st h = fk_ev d qX12_isLiving 10 [a0, .int x] (.int x :: st) h) ∧
  (∀ (d : Nat) (L : List Value) (x0 : Int32)  (N : Nat) (y : Nat → Nat → Int32) (l : Nat → Nat → Int64), fk_ev (d + 1) qX12_isLiving 10 L (.int x0 :: .ref 246 :: []) (fk_E N y l) = (fk_ev d qX12_lives 0 [.ref 246, .int x0] [] (fk_E N y l)).bind fun o => fk_ev (d + 1) qX12_isLiving 13 L (o.1.toList ++ []) o.2) ∧
  (∀ (d : Nat) (L : List Value) (x : Int32) (st : List Value) (h : fk_H), fk_ev d qX12_isLiving 13 L (.int x :: st) h = if x = nI 0 then fk_ev d qX12_isLiving 20 L st h else fk_ev d qX12_isLiving 16 L st h) ∧
  (∀ (d : Nat) (L st : List Value) (h : fk_H), fk_ev d qX12_isLiving 16 L st h = fk_ev d qX12_isLiving 17 L (.int (nI 1) :: st) h) ∧
  (∀ (d : Nat) (L st : List Value) (h : fk_H), fk_ev d qX12_isLiving 17 L st h = fk_ev d qX12_isLiving 21 L st h) ∧
  (∀ (d : Nat) (L st : List Value) (h : fk_H), fk_ev d qX12_isLiving 20 L st h = fk_ev d qX12_isLiving 21 L (.int (nI 0) :: st) h) ∧
  (∀ (d : Nat) (L : List Value) (x : Int32) (h : fk_H), (x = nI 0 ∨ x = nI 1) → fk_ev d qX12_isLiving 21 L [.int x] h = some (some (.int x), h)) := ⟨fun d a1 x st h => fk_w_aloadn 0 [.ref x, a1] dX12_isLiving_0 rfl,
  fun d a0 x st h => fk_w_iloadn 1 [a0, .int x] dX12_isLiving_1 rfl,
  fun d L x0 N y l  => fk_g_call [.int x0] [] rfl lm_12_123 dX12_isLiving_2 rfl ⟨rfl, by decide⟩ (by simp) fk_at_246,
  fun d L x st h => fk_r_if_eq dX12_isLiving_5 (by decide),
  fun d a1 x st h => fk_w_aloadn 0 [.ref x, a1] dX12_isLiving_8 rfl,
  fun d a0 x st h => fk_w_iloadn 1 [a0, .int x] dX12_isLiving_9 rfl,
  fun d L x0 N y l  => fk_g_call [.int x0] [] rfl lm_12_126 dX12_isLiving_10 rfl ⟨rfl, by decide⟩ (by simp) fk_at_246,
  fun d L x st h => fk_r_if_eq dX12_isLiving_13 (by decide),
  fun d L st h => fk_w_iconst dX12_isLiving_16 (by decide),
  fun d L st h => fk_r_goto dX12_isLiving_17 (by decide),
  fun d L st h => fk_w_iconst dX12_isLiving_20 (by decide),
  fun d L x h hx => fk_r_ret dX12_isLiving_21 (Or.inr (Or.inl ⟨rfl, hx⟩))⟩
theorem dX12_isAt_0 : decode cX12_isAt 0 = .ok (.aload_n 0, 1) := by decide +kernel
theorem dX12_isAt_1 : decode cX12_isAt 1 = .ok (.iload_n 1, 1) := by decide +kernel
theorem dX12_isAt_2 : decode cX12_isAt 2 = .ok (.invokevirtual 129, 3) := by decide +kernel
theorem dX12_isAt_5 : decode cX12_isAt 5 = .ok (.ifCond .eq 20, 3) := by decide +kernel
theorem dX12_isAt_8 : decode cX12_isAt 8 = .ok (.aload_n 0, 1) := by decide +kernel
theorem dX12_isAt_9 : decode cX12_isAt 9 = .ok (.getfield 7, 3) := by decide +kernel
theorem dX12_isAt_12 : decode cX12_isAt 12 = .ok (.sipush 320, 3) := by decide +kernel
theorem dX12_isAt_15 : decode cX12_isAt 15 = .ok (.iload_n 1, 1) := by decide +kernel
theorem dX12_isAt_16 : decode cX12_isAt 16 = .ok (.iadd, 1) := by decide +kernel
theorem dX12_isAt_17 : decode cX12_isAt 17 = .ok (.iaload, 1) := by decide +kernel
theorem dX12_isAt_18 : decode cX12_isAt 18 = .ok (.ifCond .lt 7, 3) := by decide +kernel
theorem dX12_isAt_21 : decode cX12_isAt 21 = .ok (.iconst 1, 1) := by decide +kernel
theorem dX12_isAt_22 : decode cX12_isAt 22 = .ok (.goto 4, 3) := by decide +kernel
theorem dX12_isAt_25 : decode cX12_isAt 25 = .ok (.iconst 0, 1) := by decide +kernel
theorem dX12_isAt_26 : decode cX12_isAt 26 = .ok (.ireturn, 1) := by decide +kernel
theorem rX12_isAt : (∀ (d : Nat) (a1 : Value) (x : Nat) (st : List Value) (h : fk_H), fk_ev d qX12_isAt 0 [.ref x, a1] st h = fk_ev d qX12_isAt 1 [.ref x, a1] (.ref x :: st) h) ∧
  (∀ (d : Nat) (a0 : Value) (x : Int32) (st : List Value) (h : fk_H), fk_ev d qX12_isAt 1 [a0, .int x] st h = fk_ev d qX12_isAt 2 [a0, .int x] (.int x :: st) h) ∧
  (∀ (d : Nat) (L : List Value) (x0 : Int32)  (N : Nat) (y : Nat → Nat → Int32) (l : Nat → Nat → Int64), fk_ev (d + 1) qX12_isAt 2 L (.int x0 :: .ref 246 :: []) (fk_E N y l) = (fk_ev d qX12_isLiving 0 [.ref 246, .int x0] [] (fk_E N y l)).bind fun o => fk_ev (d + 1) qX12_isAt 5 L (o.1.toList ++ []) o.2) ∧
  (∀ (d : Nat) (L : List Value) (x : Int32) (st : List Value) (h : fk_H), fk_ev d qX12_isAt 5 L (.int x :: st) h = if x = nI 0 then fk_ev d qX12_isAt 25 L st h else fk_ev d qX12_isAt 8 L st h) ∧
  (∀ (d : Nat) (a1 : Value) (x : Nat) (st : List Value) (h : fk_H), fk_ev d qX12_isAt 8 [.ref x, a1] st h = fk_ev d qX12_isAt 9 [.ref x, a1] (.ref x :: st) h) ∧
  (∀ (d : Nat) (L st : List Value) (N : Nat) (y : Nat → Nat → Int32) (l : Nat → Nat → Int64), fk_ev d qX12_isAt 9 L (.ref 246 :: st) (fk_E N y l) = fk_ev d qX12_isAt 12 L (.ref 247 :: st) (fk_E N y l)) ∧
  (∀ (d : Nat) (L st : List Value) (h : fk_H), fk_ev d qX12_isAt 12 L st h = fk_ev d qX12_isAt 15 L (.int (nI 320) :: st) h) ∧
  (∀ (d : Nat) (a0 : Value) (x : Int32) (st : List Value) (h : fk_H), fk_ev d qX12_isAt 15 [a0, .int x] st h = fk_ev d qX12_isAt 16 [a0, .int x] (.int x :: st) h) ∧
  (∀ (d : Nat) (L : List Value) (x y : Int32) (st : List Value) (h : fk_H), fk_ev d qX12_isAt 16 L (.int y :: .int x :: st) h = fk_ev d qX12_isAt 17 L (.int (x + y) :: st) h) ∧
  (∀ (d : Nat) (L st : List Value) (N : Nat) (y : Nat → Nat → Int32) (l : Nat → Nat → Int64) (i : Nat), i < 3912 → fk_ev d qX12_isAt 17 L (.int (nI i) :: .ref 247 :: st) (fk_E N y l) = fk_ev d qX12_isAt 18 L (.int (y 247 i) :: st) (fk_E N y l)) ∧
  (∀ (d : Nat) (L : List Value) (x : Int32) (st : List Value) (h : fk_H), fk_ev d qX12_isAt 18 L (.int x :: st) h = if x < nI 0 then fk_ev d qX12_isAt 25 L st h else fk_ev d qX12_isAt 21 L st h) ∧
  (∀ (d : Nat) (L st : List Value) (h : fk_H), fk_ev d qX12_isAt 21 L st h = fk_ev d qX12_isAt 22 L (.int (nI 1) :: st) h) ∧
  (∀ (d : Nat) (L st : List Value) (h : fk_H), fk_ev d qX12_isAt 22 L st h = fk_ev d qX12_isAt 26 L st h) ∧
  (∀ (d : Nat) (L st : List Value) (h : fk_H), fk_ev d qX12_isAt 25 L st h = fk_ev d qX12_isAt 26 L (.int (nI 0) :: st) h) ∧
  (∀ (d : Nat) (L : List Value) (x : Int32) (h : fk_H), (x = nI 0 ∨ x = nI 1) → fk_ev d qX12_isAt 26 L [.int x] h = some (some (.int x), h)) := ⟨fun d a1 x st h => fk_w_aloadn 0 [.ref x, a1] dX12_isAt_0 rfl,
  fun d a0 x st h => fk_w_iloadn 1 [a0, .int x] dX12_isAt_1 rfl,
  fun d L x0 N y l  => fk_g_call [.int x0] [] rfl lm_12_129 dX12_isAt_2 rfl ⟨rfl, by decide⟩ (by simp) fk_at_246,
  fun d L x st h => fk_r_if_eq dX12_isAt_5 (by decide),
  fun d a1 x st h => fk_w_aloadn 0 [.ref x, a1] dX12_isAt_8 rfl,
  fun d L st N y l => fk_g_getC rfl lf_12_7 (by decide) rfl dX12_isAt_9 fk_at_246,
  fun d L st h => fk_w_sipush dX12_isAt_12 (by decide),
  fun d a0 x st h => fk_w_iloadn 1 [a0, .int x] dX12_isAt_15 rfl,
  fun d L x y st h => fk_r_iadd dX12_isAt_16,
  fun d L st N y l i hi => fk_h_iald dX12_isAt_17 fk_at_247 hi (by decide),
  fun d L x st h => fk_r_if_lt dX12_isAt_18 (by decide),
  fun d L st h => fk_w_iconst dX12_isAt_21 (by decide),
  fun d L st h => fk_r_goto dX12_isAt_22 (by decide),
  fun d L st h => fk_w_iconst dX12_isAt_25 (by decide),
  fun d L x h hx => fk_r_ret dX12_isAt_26 (Or.inr (Or.inl ⟨rfl, hx⟩))⟩
theorem dX12_livingOf_0 : decode cX12_livingOf 0 = .ok (.iconst 0, 1) := by decide +kernel
theorem dX12_livingOf_1 : decode cX12_livingOf 1 = .ok (.istore_n 2, 1) := by decide +kernel
theorem dX12_livingOf_2 : decode cX12_livingOf 2 = .ok (.iconst 0, 1) := by decide +kernel
theorem dX12_livingOf_3 : decode cX12_livingOf 3 = .ok (.istore_n 3, 1) := by decide +kernel
theorem dX12_livingOf_4 : decode cX12_livingOf 4 = .ok (.iload_n 3, 1) := by decide +kernel
theorem dX12_livingOf_5 : decode cX12_livingOf 5 = .ok (.aload_n 0, 1) := by decide +kernel
theorem dX12_livingOf_6 : decode cX12_livingOf 6 = .ok (.getfield 7, 3) := by decide +kernel
theorem dX12_livingOf_9 : decode cX12_livingOf 9 = .ok (.sipush 833, 3) := by decide +kernel
theorem dX12_livingOf_12 : decode cX12_livingOf 12 = .ok (.iaload, 1) := by decide +kernel
theorem dX12_livingOf_13 : decode cX12_livingOf 13 = .ok (.if_icmp .ge 37, 3) := by decide +kernel
theorem dX12_livingOf_16 : decode cX12_livingOf 16 = .ok (.iload_n 2, 1) := by decide +kernel
theorem dX12_livingOf_17 : decode cX12_livingOf 17 = .ok (.aload_n 0, 1) := by decide +kernel
theorem dX12_livingOf_18 : decode cX12_livingOf 18 = .ok (.iload_n 3, 1) := by decide +kernel
theorem dX12_livingOf_19 : decode cX12_livingOf 19 = .ok (.invokevirtual 126, 3) := by decide +kernel
theorem dX12_livingOf_22 : decode cX12_livingOf 22 = .ok (.ifCond .eq 19, 3) := by decide +kernel
theorem dX12_livingOf_25 : decode cX12_livingOf 25 = .ok (.aload_n 0, 1) := by decide +kernel
theorem dX12_livingOf_26 : decode cX12_livingOf 26 = .ok (.getfield 7, 3) := by decide +kernel
theorem dX12_livingOf_29 : decode cX12_livingOf 29 = .ok (.iconst 0, 1) := by decide +kernel
theorem dX12_livingOf_30 : decode cX12_livingOf 30 = .ok (.iload_n 3, 1) := by decide +kernel
theorem dX12_livingOf_31 : decode cX12_livingOf 31 = .ok (.iadd, 1) := by decide +kernel
theorem dX12_livingOf_32 : decode cX12_livingOf 32 = .ok (.iaload, 1) := by decide +kernel
theorem dX12_livingOf_33 : decode cX12_livingOf 33 = .ok (.iload_n 1, 1) := by decide +kernel
theorem dX12_livingOf_34 : decode cX12_livingOf 34 = .ok (.if_icmp .ne 7, 3) := by decide +kernel
theorem dX12_livingOf_37 : decode cX12_livingOf 37 = .ok (.iconst 1, 1) := by decide +kernel
theorem dX12_livingOf_38 : decode cX12_livingOf 38 = .ok (.goto 4, 3) := by decide +kernel
theorem dX12_livingOf_41 : decode cX12_livingOf 41 = .ok (.iconst 0, 1) := by decide +kernel
theorem dX12_livingOf_42 : decode cX12_livingOf 42 = .ok (.iadd, 1) := by decide +kernel
theorem dX12_livingOf_43 : decode cX12_livingOf 43 = .ok (.istore_n 2, 1) := by decide +kernel
theorem dX12_livingOf_44 : decode cX12_livingOf 44 = .ok (.iinc 3 1, 3) := by decide +kernel
theorem dX12_livingOf_47 : decode cX12_livingOf 47 = .ok (.goto (-43), 3) := by decide +kernel
theorem dX12_livingOf_50 : decode cX12_livingOf 50 = .ok (.iload_n 2, 1) := by decide +kernel
theorem dX12_livingOf_51 : decode cX12_livingOf 51 = .ok (.ireturn, 1) := by decide +kernel
theorem rX12_livingOf : (∀ (d : Nat) (L st : List Value) (h : fk_H), fk_ev d qX12_livingOf 0 L st h = fk_ev d qX12_livingOf 1 L (.int (nI 0) :: st) h) ∧
  (∀ (d : Nat) (a0 a1 a2 a3 : Value) (x : Int32) (st : List Value) (h : fk_H), fk_ev d qX12_livingOf 1 [a0, a1, a2, a3] (.int x :: st) h = fk_ev d qX12_livingOf 2 [a0, a1, .int x, a3] st h) ∧
  (∀ (d : Nat) (L st : List Value) (h : fk_H), fk_ev d qX12_livingOf 2 L st h = fk_ev d qX12_livingOf 3 L (.int (nI 0) :: st) h) ∧
  (∀ (d : Nat) (a0 a1 a2 a3 : Value) (x : Int32) (st : List Value) (h : fk_H), fk_ev d qX12_livingOf 3 [a0, a1, a2, a3] (.int x :: st) h = fk_ev d qX12_livingOf 4 [a0, a1, a2, .int x] st h) ∧
  (∀ (d : Nat) (a1 a2 a3 : Value) (x : Nat) (st : List Value) (h : fk_H), fk_ev d qX12_livingOf 5 [.ref x, a1, a2, a3] st h = fk_ev d qX12_livingOf 6 [.ref x, a1, a2, a3] (.ref x :: st) h) ∧
  (∀ (d : Nat) (L st : List Value) (N : Nat) (y : Nat → Nat → Int32) (l : Nat → Nat → Int64), fk_ev d qX12_livingOf 6 L (.ref 246 :: st) (fk_E N y l) = fk_ev d qX12_livingOf 9 L (.ref 247 :: st) (fk_E N y l)) ∧
  (∀ (d : Nat) (L st : List Value) (h : fk_H), fk_ev d qX12_livingOf 9 L st h = fk_ev d qX12_livingOf 12 L (.int (nI 833) :: st) h) ∧
  (∀ (d : Nat) (L st : List Value) (N : Nat) (y : Nat → Nat → Int32) (l : Nat → Nat → Int64) (i : Nat), i < 3912 → fk_ev d qX12_livingOf 12 L (.int (nI i) :: .ref 247 :: st) (fk_E N y l) = fk_ev d qX12_livingOf 13 L (.int (y 247 i) :: st) (fk_E N y l)) ∧
  (∀ (d : Nat) (L : List Value) (x y : Int32) (st : List Value) (h : fk_H), fk_ev d qX12_livingOf 13 L (.int y :: .int x :: st) h = if y ≤ x then fk_ev d qX12_livingOf 50 L st h else fk_ev d qX12_livingOf 16 L st h) ∧
  (∀ (d : Nat) (a0 a1 a3 : Value) (x : Int32) (st : List Value) (h : fk_H), fk_ev d qX12_livingOf 16 [a0, a1, .int x, a3] st h = fk_ev d qX12_livingOf 17 [a0, a1, .int x, a3] (.int x :: st) h) ∧
  (∀ (d : Nat) (a1 a2 a3 : Value) (x : Nat) (st : List Value) (h : fk_H), fk_ev d qX12_livingOf 17 [.ref x, a1, a2, a3] st h = fk_ev d qX12_livingOf 18 [.ref x, a1, a2, a3] (.ref x :: st) h) ∧
  (∀ (d : Nat) (a0 a1 a2 : Value) (x : Int32) (st : List Value) (h : fk_H), fk_ev d qX12_livingOf 18 [a0, a1, a2, .int x] st h = fk_ev d qX12_livingOf 19 [a0, a1, a2, .int x] (.int x :: st) h) ∧
  (∀ (d : Nat) (L : List Value) (x0 : Int32) (w0 : Value) (N : Nat) (y : Nat → Nat → Int32) (l : Nat → Nat → Int64), fk_ev (d + 1) qX12_livingOf 19 L (.int x0 :: .ref 246 :: [w0]) (fk_E N y l) = (fk_ev d qX12_lives 0 [.ref 246, .int x0] [] (fk_E N y l)).bind fun o => fk_ev (d + 1) qX12_livingOf 22 L (o.1.toList ++ [w0]) o.2) ∧
  (∀ (d : Nat) (L : List Value) (x : Int32) (st : List Value) (h : fk_H), fk_ev d qX12_livingOf 22 L (.int x :: st) h = if x = nI 0 then fk_ev d qX12_livingOf 41 L st h else fk_ev d qX12_livingOf 25 L st h) ∧
  (∀ (d : Nat) (a1 a2 a3 : Value) (x : Nat) (st : List Value) (h : fk_H), fk_ev d qX12_livingOf 25 [.ref x, a1, a2, a3] st h = fk_ev d qX12_livingOf 26 [.ref x, a1, a2, a3] (.ref x :: st) h) ∧
  (∀ (d : Nat) (L st : List Value) (N : Nat) (y : Nat → Nat → Int32) (l : Nat → Nat → Int64), fk_ev d qX12_livingOf 26 L (.ref 246 :: st) (fk_E N y l) = fk_ev d qX12_livingOf 29 L (.ref 247 :: st) (fk_E N y l)) ∧
  (∀ (d : Nat) (L st : List Value) (h : fk_H), fk_ev d qX12_livingOf 29 L st h = fk_ev d qX12_livingOf 30 L (.int (nI 0) :: st) h) ∧
  (∀ (d : Nat) (a0 a1 a2 : Value) (x : Int32) (st : List Value) (h : fk_H), fk_ev d qX12_livingOf 30 [a0, a1, a2, .int x] st h = fk_ev d qX12_livingOf 31 [a0, a1, a2, .int x] (.int x :: st) h) ∧
  (∀ (d : Nat) (L : List Value) (x y : Int32) (st : List Value) (h : fk_H), fk_ev d qX12_livingOf 31 L (.int y :: .int x :: st) h = fk_ev d qX12_livingOf 32 L (.int (x + y) :: st) h) ∧
  (∀ (d : Nat) (L st : List Value) (N : Nat) (y : Nat → Nat → Int32) (l : Nat → Nat → Int64) (i : Nat), i < 3912 → fk_ev d qX12_livingOf 32 L (.int (nI i) :: .ref 247 :: st) (fk_E N y l) = fk_ev d qX12_livingOf 33 L (.int (y 247 i) :: st) (fk_E N y l)) ∧
  (∀ (d : Nat) (a0 a2 a3 : Value) (x : Int32) (st : List Value) (h : fk_H), fk_ev d qX12_livingOf 33 [a0, .int x, a2, a3] st h = fk_ev d qX12_livingOf 34 [a0, .int x, a2, a3] (.int x :: st) h) ∧
  (∀ (d : Nat) (L : List Value) (x y : Int32) (st : List Value) (h : fk_H), fk_ev d qX12_livingOf 34 L (.int y :: .int x :: st) h = if ¬ x = y then fk_ev d qX12_livingOf 41 L st h else fk_ev d qX12_livingOf 37 L st h) ∧
  (∀ (d : Nat) (L st : List Value) (h : fk_H), fk_ev d qX12_livingOf 37 L st h = fk_ev d qX12_livingOf 38 L (.int (nI 1) :: st) h) ∧
  (∀ (d : Nat) (L st : List Value) (h : fk_H), fk_ev d qX12_livingOf 38 L st h = fk_ev d qX12_livingOf 42 L st h) ∧
  (∀ (d : Nat) (L st : List Value) (h : fk_H), fk_ev d qX12_livingOf 41 L st h = fk_ev d qX12_livingOf 42 L (.int (nI 0) :: st) h) ∧
  (∀ (d : Nat) (L : List Value) (x y : Int32) (st : List Value) (h : fk_H), fk_ev d qX12_livingOf 42 L (.int y :: .int x :: st) h = fk_ev d qX12_livingOf 43 L (.int (x + y) :: st) h) ∧
  (∀ (d : Nat) (a0 a1 a2 a3 : Value) (x : Int32) (st : List Value) (h : fk_H), fk_ev d qX12_livingOf 43 [a0, a1, a2, a3] (.int x :: st) h = fk_ev d qX12_livingOf 44 [a0, a1, .int x, a3] st h) ∧
  (∀ (d : Nat) (a0 a1 a2 : Value) (x : Int32) (st : List Value) (h : fk_H), fk_ev d qX12_livingOf 44 [a0, a1, a2, .int x] st h = fk_ev d qX12_livingOf 47 [a0, a1, a2, .int (x + nI 1)] st h) ∧
  (∀ (d : Nat) (L st : List Value) (h : fk_H), fk_ev d qX12_livingOf 47 L st h = fk_ev d qX12_livingOf 4 L st h) ∧
  (∀ (d : Nat) (a0 a1 a3 : Value) (x : Int32) (st : List Value) (h : fk_H), fk_ev d qX12_livingOf 50 [a0, a1, .int x, a3] st h = fk_ev d qX12_livingOf 51 [a0, a1, .int x, a3] (.int x :: st) h) ∧
  (∀ (d : Nat) (L : List Value) (x : Int32) (h : fk_H), fk_ev d qX12_livingOf 51 L [.int x] h = some (some (.int x), h)) := ⟨fun d L st h => fk_w_iconst dX12_livingOf_0 (by decide),
  fun d a0 a1 a2 a3 x st h => fk_w_istoren 2 4 [] [a0, a1, a2, a3] [a0, a1, .int x, a3] dX12_livingOf_1 rfl rfl (by decide) rfl,
  fun d L st h => fk_w_iconst dX12_livingOf_2 (by decide),
  fun d a0 a1 a2 a3 x st h => fk_w_istoren 3 4 [] [a0, a1, a2, a3] [a0, a1, a2, .int x] dX12_livingOf_3 rfl rfl (by decide) rfl,
  fun d a1 a2 a3 x st h => fk_w_aloadn 0 [.ref x, a1, a2, a3] dX12_livingOf_5 rfl,
  fun d L st N y l => fk_g_getC rfl lf_12_7 (by decide) rfl dX12_livingOf_6 fk_at_246,
  fun d L st h => fk_w_sipush dX12_livingOf_9 (by decide),
  fun d L st N y l i hi => fk_h_iald dX12_livingOf_12 fk_at_247 hi (by decide),
  fun d L x y st h => fk_r_icmp_ge dX12_livingOf_13 (by decide),
  fun d a0 a1 a3 x st h => fk_w_iloadn 2 [a0, a1, .int x, a3] dX12_livingOf_16 rfl,
  fun d a1 a2 a3 x st h => fk_w_aloadn 0 [.ref x, a1, a2, a3] dX12_livingOf_17 rfl,
  fun d a0 a1 a2 x st h => fk_w_iloadn 3 [a0, a1, a2, .int x] dX12_livingOf_18 rfl,
  fun d L x0 w0 N y l  => fk_g_call [.int x0] [w0] rfl lm_12_126 dX12_livingOf_19 rfl ⟨rfl, by decide⟩ (by simp) fk_at_246,
  fun d L x st h => fk_r_if_eq dX12_livingOf_22 (by decide),
  fun d a1 a2 a3 x st h => fk_w_aloadn 0 [.ref x, a1, a2, a3] dX12_livingOf_25 rfl,
  fun d L st N y l => fk_g_getC rfl lf_12_7 (by decide) rfl dX12_livingOf_26 fk_at_246,
  fun d L st h => fk_w_iconst dX12_livingOf_29 (by decide),
  fun d a0 a1 a2 x st h => fk_w_iloadn 3 [a0, a1, a2, .int x] dX12_livingOf_30 rfl,
  fun d L x y st h => fk_r_iadd dX12_livingOf_31,
  fun d L st N y l i hi => fk_h_iald dX12_livingOf_32 fk_at_247 hi (by decide),
  fun d a0 a2 a3 x st h => fk_w_iloadn 1 [a0, .int x, a2, a3] dX12_livingOf_33 rfl,
  fun d L x y st h => fk_r_icmp_ne dX12_livingOf_34 (by decide),
  fun d L st h => fk_w_iconst dX12_livingOf_37 (by decide),
  fun d L st h => fk_r_goto dX12_livingOf_38 (by decide),
  fun d L st h => fk_w_iconst dX12_livingOf_41 (by decide),
  fun d L x y st h => fk_r_iadd dX12_livingOf_42,
  fun d a0 a1 a2 a3 x st h => fk_w_istoren 2 4 [] [a0, a1, a2, a3] [a0, a1, .int x, a3] dX12_livingOf_43 rfl rfl (by decide) rfl,
  fun d a0 a1 a2 x st h => fk_w_iinc 3 4 (1) [] [a0, a1, a2, .int x] [a0, a1, a2, .int (x + nI 1)] dX12_livingOf_44 rfl rfl rfl (by decide) rfl,
  fun d L st h => fk_r_goto dX12_livingOf_47 (by decide),
  fun d a0 a1 a3 x st h => fk_w_iloadn 2 [a0, a1, .int x, a3] dX12_livingOf_50 rfl,
  fun d L x h => fk_r_ret dX12_livingOf_51 (Or.inl rfl)⟩
theorem hX12_livingOf_4 : ∀ (d : Nat) (a0 a1 a2 : Value) (x : Int32) (st : List Value) (h : fk_H), fk_ev d qX12_livingOf 4 [a0, a1, a2, .int x] st h = fk_ev d qX12_livingOf 5 [a0, a1, a2, .int x] (.int x :: st) h := fun d a0 a1 a2 x st h => fk_w_iloadn 3 [a0, a1, a2, .int x] dX12_livingOf_4 rfl
theorem dX12_living_0 : decode cX12_living 0 = .ok (.iconst 0, 1) := by decide +kernel
theorem dX12_living_1 : decode cX12_living 1 = .ok (.istore_n 1, 1) := by decide +kernel
theorem dX12_living_2 : decode cX12_living 2 = .ok (.iconst 0, 1) := by decide +kernel
theorem dX12_living_3 : decode cX12_living 3 = .ok (.istore_n 2, 1) := by decide +kernel
theorem dX12_living_4 : decode cX12_living 4 = .ok (.iload_n 2, 1) := by decide +kernel
theorem dX12_living_5 : decode cX12_living 5 = .ok (.aload_n 0, 1) := by decide +kernel
theorem dX12_living_6 : decode cX12_living 6 = .ok (.getfield 7, 3) := by decide +kernel
theorem dX12_living_9 : decode cX12_living 9 = .ok (.sipush 833, 3) := by decide +kernel
theorem dX12_living_12 : decode cX12_living 12 = .ok (.iaload, 1) := by decide +kernel
theorem dX12_living_13 : decode cX12_living 13 = .ok (.if_icmp .ge 25, 3) := by decide +kernel
theorem dX12_living_16 : decode cX12_living 16 = .ok (.iload_n 1, 1) := by decide +kernel
theorem dX12_living_17 : decode cX12_living 17 = .ok (.aload_n 0, 1) := by decide +kernel
theorem dX12_living_18 : decode cX12_living 18 = .ok (.iload_n 2, 1) := by decide +kernel
theorem dX12_living_19 : decode cX12_living 19 = .ok (.invokevirtual 126, 3) := by decide +kernel
theorem dX12_living_22 : decode cX12_living 22 = .ok (.ifCond .eq 7, 3) := by decide +kernel
theorem dX12_living_25 : decode cX12_living 25 = .ok (.iconst 1, 1) := by decide +kernel
theorem dX12_living_26 : decode cX12_living 26 = .ok (.goto 4, 3) := by decide +kernel
theorem dX12_living_29 : decode cX12_living 29 = .ok (.iconst 0, 1) := by decide +kernel
theorem dX12_living_30 : decode cX12_living 30 = .ok (.iadd, 1) := by decide +kernel
theorem dX12_living_31 : decode cX12_living 31 = .ok (.istore_n 1, 1) := by decide +kernel
theorem dX12_living_32 : decode cX12_living 32 = .ok (.iinc 2 1, 3) := by decide +kernel
theorem dX12_living_35 : decode cX12_living 35 = .ok (.goto (-31), 3) := by decide +kernel
theorem dX12_living_38 : decode cX12_living 38 = .ok (.iload_n 1, 1) := by decide +kernel
theorem dX12_living_39 : decode cX12_living 39 = .ok (.ireturn, 1) := by decide +kernel
theorem rX12_living : (∀ (d : Nat) (L st : List Value) (h : fk_H), fk_ev d qX12_living 0 L st h = fk_ev d qX12_living 1 L (.int (nI 0) :: st) h) ∧
  (∀ (d : Nat) (a0 a1 a2 : Value) (x : Int32) (st : List Value) (h : fk_H), fk_ev d qX12_living 1 [a0, a1, a2] (.int x :: st) h = fk_ev d qX12_living 2 [a0, .int x, a2] st h) ∧
  (∀ (d : Nat) (L st : List Value) (h : fk_H), fk_ev d qX12_living 2 L st h = fk_ev d qX12_living 3 L (.int (nI 0) :: st) h) ∧
  (∀ (d : Nat) (a0 a1 a2 : Value) (x : Int32) (st : List Value) (h : fk_H), fk_ev d qX12_living 3 [a0, a1, a2] (.int x :: st) h = fk_ev d qX12_living 4 [a0, a1, .int x] st h) ∧
  (∀ (d : Nat) (a1 a2 : Value) (x : Nat) (st : List Value) (h : fk_H), fk_ev d qX12_living 5 [.ref x, a1, a2] st h = fk_ev d qX12_living 6 [.ref x, a1, a2] (.ref x :: st) h) ∧
  (∀ (d : Nat) (L st : List Value) (N : Nat) (y : Nat → Nat → Int32) (l : Nat → Nat → Int64), fk_ev d qX12_living 6 L (.ref 246 :: st) (fk_E N y l) = fk_ev d qX12_living 9 L (.ref 247 :: st) (fk_E N y l)) ∧
  (∀ (d : Nat) (L st : List Value) (h : fk_H), fk_ev d qX12_living 9 L st h = fk_ev d qX12_living 12 L (.int (nI 833) :: st) h) ∧
  (∀ (d : Nat) (L st : List Value) (N : Nat) (y : Nat → Nat → Int32) (l : Nat → Nat → Int64) (i : Nat), i < 3912 → fk_ev d qX12_living 12 L (.int (nI i) :: .ref 247 :: st) (fk_E N y l) = fk_ev d qX12_living 13 L (.int (y 247 i) :: st) (fk_E N y l)) ∧
  (∀ (d : Nat) (L : List Value) (x y : Int32) (st : List Value) (h : fk_H), fk_ev d qX12_living 13 L (.int y :: .int x :: st) h = if y ≤ x then fk_ev d qX12_living 38 L st h else fk_ev d qX12_living 16 L st h) ∧
  (∀ (d : Nat) (a0 a2 : Value) (x : Int32) (st : List Value) (h : fk_H), fk_ev d qX12_living 16 [a0, .int x, a2] st h = fk_ev d qX12_living 17 [a0, .int x, a2] (.int x :: st) h) ∧
  (∀ (d : Nat) (a1 a2 : Value) (x : Nat) (st : List Value) (h : fk_H), fk_ev d qX12_living 17 [.ref x, a1, a2] st h = fk_ev d qX12_living 18 [.ref x, a1, a2] (.ref x :: st) h) ∧
  (∀ (d : Nat) (a0 a1 : Value) (x : Int32) (st : List Value) (h : fk_H), fk_ev d qX12_living 18 [a0, a1, .int x] st h = fk_ev d qX12_living 19 [a0, a1, .int x] (.int x :: st) h) ∧
  (∀ (d : Nat) (L : List Value) (x0 : Int32) (w0 : Value) (N : Nat) (y : Nat → Nat → Int32) (l : Nat → Nat → Int64), fk_ev (d + 1) qX12_living 19 L (.int x0 :: .ref 246 :: [w0]) (fk_E N y l) = (fk_ev d qX12_lives 0 [.ref 246, .int x0] [] (fk_E N y l)).bind fun o => fk_ev (d + 1) qX12_living 22 L (o.1.toList ++ [w0]) o.2) ∧
  (∀ (d : Nat) (L : List Value) (x : Int32) (st : List Value) (h : fk_H), fk_ev d qX12_living 22 L (.int x :: st) h = if x = nI 0 then fk_ev d qX12_living 29 L st h else fk_ev d qX12_living 25 L st h) ∧
  (∀ (d : Nat) (L st : List Value) (h : fk_H), fk_ev d qX12_living 25 L st h = fk_ev d qX12_living 26 L (.int (nI 1) :: st) h) ∧
  (∀ (d : Nat) (L st : List Value) (h : fk_H), fk_ev d qX12_living 26 L st h = fk_ev d qX12_living 30 L st h) ∧
  (∀ (d : Nat) (L st : List Value) (h : fk_H), fk_ev d qX12_living 29 L st h = fk_ev d qX12_living 30 L (.int (nI 0) :: st) h) ∧
  (∀ (d : Nat) (L : List Value) (x y : Int32) (st : List Value) (h : fk_H), fk_ev d qX12_living 30 L (.int y :: .int x :: st) h = fk_ev d qX12_living 31 L (.int (x + y) :: st) h) ∧
  (∀ (d : Nat) (a0 a1 a2 : Value) (x : Int32) (st : List Value) (h : fk_H), fk_ev d qX12_living 31 [a0, a1, a2] (.int x :: st) h = fk_ev d qX12_living 32 [a0, .int x, a2] st h) ∧
  (∀ (d : Nat) (a0 a1 : Value) (x : Int32) (st : List Value) (h : fk_H), fk_ev d qX12_living 32 [a0, a1, .int x] st h = fk_ev d qX12_living 35 [a0, a1, .int (x + nI 1)] st h) ∧
  (∀ (d : Nat) (L st : List Value) (h : fk_H), fk_ev d qX12_living 35 L st h = fk_ev d qX12_living 4 L st h) ∧
  (∀ (d : Nat) (a0 a2 : Value) (x : Int32) (st : List Value) (h : fk_H), fk_ev d qX12_living 38 [a0, .int x, a2] st h = fk_ev d qX12_living 39 [a0, .int x, a2] (.int x :: st) h) ∧
  (∀ (d : Nat) (L : List Value) (x : Int32) (h : fk_H), fk_ev d qX12_living 39 L [.int x] h = some (some (.int x), h)) := ⟨fun d L st h => fk_w_iconst dX12_living_0 (by decide),
  fun d a0 a1 a2 x st h => fk_w_istoren 1 3 [] [a0, a1, a2] [a0, .int x, a2] dX12_living_1 rfl rfl (by decide) rfl,
  fun d L st h => fk_w_iconst dX12_living_2 (by decide),
  fun d a0 a1 a2 x st h => fk_w_istoren 2 3 [] [a0, a1, a2] [a0, a1, .int x] dX12_living_3 rfl rfl (by decide) rfl,
  fun d a1 a2 x st h => fk_w_aloadn 0 [.ref x, a1, a2] dX12_living_5 rfl,
  fun d L st N y l => fk_g_getC rfl lf_12_7 (by decide) rfl dX12_living_6 fk_at_246,
  fun d L st h => fk_w_sipush dX12_living_9 (by decide),
  fun d L st N y l i hi => fk_h_iald dX12_living_12 fk_at_247 hi (by decide),
  fun d L x y st h => fk_r_icmp_ge dX12_living_13 (by decide),
  fun d a0 a2 x st h => fk_w_iloadn 1 [a0, .int x, a2] dX12_living_16 rfl,
  fun d a1 a2 x st h => fk_w_aloadn 0 [.ref x, a1, a2] dX12_living_17 rfl,
  fun d a0 a1 x st h => fk_w_iloadn 2 [a0, a1, .int x] dX12_living_18 rfl,
  fun d L x0 w0 N y l  => fk_g_call [.int x0] [w0] rfl lm_12_126 dX12_living_19 rfl ⟨rfl, by decide⟩ (by simp) fk_at_246,
  fun d L x st h => fk_r_if_eq dX12_living_22 (by decide),
  fun d L st h => fk_w_iconst dX12_living_25 (by decide),
  fun d L st h => fk_r_goto dX12_living_26 (by decide),
  fun d L st h => fk_w_iconst dX12_living_29 (by decide),
  fun d L x y st h => fk_r_iadd dX12_living_30,
  fun d a0 a1 a2 x st h => fk_w_istoren 1 3 [] [a0, a1, a2] [a0, .int x, a2] dX12_living_31 rfl rfl (by decide) rfl,
  fun d a0 a1 x st h => fk_w_iinc 2 3 (1) [] [a0, a1, .int x] [a0, a1, .int (x + nI 1)] dX12_living_32 rfl rfl rfl (by decide) rfl,
  fun d L st h => fk_r_goto dX12_living_35 (by decide),
  fun d a0 a2 x st h => fk_w_iloadn 1 [a0, .int x, a2] dX12_living_38 rfl,
  fun d L x h => fk_r_ret dX12_living_39 (Or.inl rfl)⟩
theorem hX12_living_4 : ∀ (d : Nat) (a0 a1 : Value) (x : Int32) (st : List Value) (h : fk_H), fk_ev d qX12_living 4 [a0, a1, .int x] st h = fk_ev d qX12_living 5 [a0, a1, .int x] (.int x :: st) h := fun d a0 a1 x st h => fk_w_iloadn 2 [a0, a1, .int x] dX12_living_4 rfl
