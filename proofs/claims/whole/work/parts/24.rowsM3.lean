theorem dX12_forksOf_0 : decode cX12_forksOf 0 = .ok (.iconst 0, 1) := by decide +kernel
theorem dX12_forksOf_1 : decode cX12_forksOf 1 = .ok (.istore_n 1, 1) := by decide +kernel
theorem dX12_forksOf_2 : decode cX12_forksOf 2 = .ok (.iconst 0, 1) := by decide +kernel
theorem dX12_forksOf_3 : decode cX12_forksOf 3 = .ok (.istore_n 2, 1) := by decide +kernel
theorem dX12_forksOf_4 : decode cX12_forksOf 4 = .ok (.iload_n 2, 1) := by decide +kernel
theorem dX12_forksOf_5 : decode cX12_forksOf 5 = .ok (.bipush 16, 2) := by decide +kernel
theorem dX12_forksOf_7 : decode cX12_forksOf 7 = .ok (.if_icmp .ge 75, 3) := by decide +kernel
theorem dX12_forksOf_10 : decode cX12_forksOf 10 = .ok (.iload_n 1, 1) := by decide +kernel
theorem dX12_forksOf_11 : decode cX12_forksOf 11 = .ok (.invokestatic 260, 3) := by decide +kernel
theorem dX12_forksOf_14 : decode cX12_forksOf 14 = .ok (.bipush 8, 2) := by decide +kernel
theorem dX12_forksOf_16 : decode cX12_forksOf 16 = .ok (.if_icmp .ge 66, 3) := by decide +kernel
theorem dX12_forksOf_19 : decode cX12_forksOf 19 = .ok (.iconst 0, 1) := by decide +kernel
theorem dX12_forksOf_20 : decode cX12_forksOf 20 = .ok (.istore_n 3, 1) := by decide +kernel
theorem dX12_forksOf_21 : decode cX12_forksOf 21 = .ok (.iconst 0, 1) := by decide +kernel
theorem dX12_forksOf_22 : decode cX12_forksOf 22 = .ok (.istore 4, 2) := by decide +kernel
theorem dX12_forksOf_24 : decode cX12_forksOf 24 = .ok (.iload 4, 2) := by decide +kernel
theorem dX12_forksOf_26 : decode cX12_forksOf 26 = .ok (.bipush 32, 2) := by decide +kernel
theorem dX12_forksOf_28 : decode cX12_forksOf 28 = .ok (.if_icmp .ge 37, 3) := by decide +kernel
theorem dX12_forksOf_31 : decode cX12_forksOf 31 = .ok (.iload_n 3, 1) := by decide +kernel
theorem dX12_forksOf_32 : decode cX12_forksOf 32 = .ok (.aload_n 0, 1) := by decide +kernel
theorem dX12_forksOf_33 : decode cX12_forksOf 33 = .ok (.iload 4, 2) := by decide +kernel
theorem dX12_forksOf_35 : decode cX12_forksOf 35 = .ok (.invokevirtual 289, 3) := by decide +kernel
theorem dX12_forksOf_38 : decode cX12_forksOf 38 = .ok (.ifCond .eq 18, 3) := by decide +kernel
theorem dX12_forksOf_41 : decode cX12_forksOf 41 = .ok (.aload_n 0, 1) := by decide +kernel
theorem dX12_forksOf_42 : decode cX12_forksOf 42 = .ok (.getfield 19, 3) := by decide +kernel
theorem dX12_forksOf_45 : decode cX12_forksOf 45 = .ok (.iload 4, 2) := by decide +kernel
theorem dX12_forksOf_47 : decode cX12_forksOf 47 = .ok (.iaload, 1) := by decide +kernel
theorem dX12_forksOf_48 : decode cX12_forksOf 48 = .ok (.iload_n 2, 1) := by decide +kernel
theorem dX12_forksOf_49 : decode cX12_forksOf 49 = .ok (.if_icmp .ne 7, 3) := by decide +kernel
theorem dX12_forksOf_52 : decode cX12_forksOf 52 = .ok (.iconst 1, 1) := by decide +kernel
theorem dX12_forksOf_53 : decode cX12_forksOf 53 = .ok (.goto 4, 3) := by decide +kernel
theorem dX12_forksOf_56 : decode cX12_forksOf 56 = .ok (.iconst 0, 1) := by decide +kernel
theorem dX12_forksOf_57 : decode cX12_forksOf 57 = .ok (.iadd, 1) := by decide +kernel
theorem dX12_forksOf_58 : decode cX12_forksOf 58 = .ok (.istore_n 3, 1) := by decide +kernel
theorem dX12_forksOf_59 : decode cX12_forksOf 59 = .ok (.iinc 4 1, 3) := by decide +kernel
theorem dX12_forksOf_62 : decode cX12_forksOf 62 = .ok (.goto (-38), 3) := by decide +kernel
theorem dX12_forksOf_65 : decode cX12_forksOf 65 = .ok (.iload_n 3, 1) := by decide +kernel
theorem dX12_forksOf_66 : decode cX12_forksOf 66 = .ok (.iconst 1, 1) := by decide +kernel
theorem dX12_forksOf_67 : decode cX12_forksOf 67 = .ok (.if_icmp .le 9, 3) := by decide +kernel
theorem dX12_forksOf_70 : decode cX12_forksOf 70 = .ok (.iload_n 1, 1) := by decide +kernel
theorem dX12_forksOf_71 : decode cX12_forksOf 71 = .ok (.iconst 1, 1) := by decide +kernel
theorem dX12_forksOf_72 : decode cX12_forksOf 72 = .ok (.iload_n 2, 1) := by decide +kernel
theorem dX12_forksOf_73 : decode cX12_forksOf 73 = .ok (.ishl, 1) := by decide +kernel
theorem dX12_forksOf_74 : decode cX12_forksOf 74 = .ok (.ior, 1) := by decide +kernel
theorem dX12_forksOf_75 : decode cX12_forksOf 75 = .ok (.istore_n 1, 1) := by decide +kernel
theorem dX12_forksOf_76 : decode cX12_forksOf 76 = .ok (.iinc 2 1, 3) := by decide +kernel
theorem dX12_forksOf_79 : decode cX12_forksOf 79 = .ok (.goto (-75), 3) := by decide +kernel
theorem dX12_forksOf_82 : decode cX12_forksOf 82 = .ok (.iload_n 1, 1) := by decide +kernel
theorem dX12_forksOf_83 : decode cX12_forksOf 83 = .ok (.ireturn, 1) := by decide +kernel
theorem rX12_forksOf : (∀ (d : Nat) (L st : List Value) (h : fk_H), fk_ev d qX12_forksOf 0 L st h = fk_ev d qX12_forksOf 1 L (.int (nI 0) :: st) h) ∧
  (∀ (d : Nat) (a0 a1 a2 a3 a4 : Value) (x : Int32) (st : List Value) (h : fk_H), fk_ev d qX12_forksOf 1 [a0, a1, a2, a3, a4] (.int x :: st) h = fk_ev d qX12_forksOf 2 [a0, .int x, a2, a3, a4] st h) ∧
  (∀ (d : Nat) (L st : List Value) (h : fk_H), fk_ev d qX12_forksOf 2 L st h = fk_ev d qX12_forksOf 3 L (.int (nI 0) :: st) h) ∧
  (∀ (d : Nat) (a0 a1 a2 a3 a4 : Value) (x : Int32) (st : List Value) (h : fk_H), fk_ev d qX12_forksOf 3 [a0, a1, a2, a3, a4] (.int x :: st) h = fk_ev d qX12_forksOf 4 [a0, a1, .int x, a3, a4] st h) ∧
  (∀ (d : Nat) (L st : List Value) (h : fk_H), fk_ev d qX12_forksOf 5 L st h = fk_ev d qX12_forksOf 7 L (.int (nI 16) :: st) h) ∧
  (∀ (d : Nat) (L : List Value) (x y : Int32) (st : List Value) (h : fk_H), fk_ev d qX12_forksOf 7 L (.int y :: .int x :: st) h = if y ≤ x then fk_ev d qX12_forksOf 82 L st h else fk_ev d qX12_forksOf 10 L st h) ∧
  (∀ (d : Nat) (a0 a2 a3 a4 : Value) (x : Int32) (st : List Value) (h : fk_H), fk_ev d qX12_forksOf 10 [a0, .int x, a2, a3, a4] st h = fk_ev d qX12_forksOf 11 [a0, .int x, a2, a3, a4] (.int x :: st) h) ∧
  (∀ (d : Nat) (L : List Value) (x0 : Int32)  (h : fk_H), fk_ev (d + 1) qX12_forksOf 11 L (.int x0 :: []) h = (fk_ev d qX12_bits 0 [.int x0, .null, .null] [] h).bind fun o => fk_ev (d + 1) qX12_forksOf 14 L (o.1.toList ++ []) o.2) ∧
  (∀ (d : Nat) (L st : List Value) (h : fk_H), fk_ev d qX12_forksOf 14 L st h = fk_ev d qX12_forksOf 16 L (.int (nI 8) :: st) h) ∧
  (∀ (d : Nat) (L : List Value) (x y : Int32) (st : List Value) (h : fk_H), fk_ev d qX12_forksOf 16 L (.int y :: .int x :: st) h = if y ≤ x then fk_ev d qX12_forksOf 82 L st h else fk_ev d qX12_forksOf 19 L st h) ∧
  (∀ (d : Nat) (L st : List Value) (h : fk_H), fk_ev d qX12_forksOf 19 L st h = fk_ev d qX12_forksOf 20 L (.int (nI 0) :: st) h) ∧
  (∀ (d : Nat) (a0 a1 a2 a3 a4 : Value) (x : Int32) (st : List Value) (h : fk_H), fk_ev d qX12_forksOf 20 [a0, a1, a2, a3, a4] (.int x :: st) h = fk_ev d qX12_forksOf 21 [a0, a1, a2, .int x, a4] st h) ∧
  (∀ (d : Nat) (L st : List Value) (h : fk_H), fk_ev d qX12_forksOf 21 L st h = fk_ev d qX12_forksOf 22 L (.int (nI 0) :: st) h) ∧
  (∀ (d : Nat) (a0 a1 a2 a3 a4 : Value) (x : Int32) (st : List Value) (h : fk_H), fk_ev d qX12_forksOf 22 [a0, a1, a2, a3, a4] (.int x :: st) h = fk_ev d qX12_forksOf 24 [a0, a1, a2, a3, .int x] st h) ∧
  (∀ (d : Nat) (L st : List Value) (h : fk_H), fk_ev d qX12_forksOf 26 L st h = fk_ev d qX12_forksOf 28 L (.int (nI 32) :: st) h) ∧
  (∀ (d : Nat) (L : List Value) (x y : Int32) (st : List Value) (h : fk_H), fk_ev d qX12_forksOf 28 L (.int y :: .int x :: st) h = if y ≤ x then fk_ev d qX12_forksOf 65 L st h else fk_ev d qX12_forksOf 31 L st h) ∧
  (∀ (d : Nat) (a0 a1 a2 a4 : Value) (x : Int32) (st : List Value) (h : fk_H), fk_ev d qX12_forksOf 31 [a0, a1, a2, .int x, a4] st h = fk_ev d qX12_forksOf 32 [a0, a1, a2, .int x, a4] (.int x :: st) h) ∧
  (∀ (d : Nat) (a1 a2 a3 a4 : Value) (x : Nat) (st : List Value) (h : fk_H), fk_ev d qX12_forksOf 32 [.ref x, a1, a2, a3, a4] st h = fk_ev d qX12_forksOf 33 [.ref x, a1, a2, a3, a4] (.ref x :: st) h) ∧
  (∀ (d : Nat) (a0 a1 a2 a3 : Value) (x : Int32) (st : List Value) (h : fk_H), fk_ev d qX12_forksOf 33 [a0, a1, a2, a3, .int x] st h = fk_ev d qX12_forksOf 35 [a0, a1, a2, a3, .int x] (.int x :: st) h) ∧
  (∀ (d : Nat) (L : List Value) (x0 : Int32) (w0 : Value) (N : Nat) (y : Nat → Nat → Int32) (l : Nat → Nat → Int64), fk_ev (d + 1) qX12_forksOf 35 L (.int x0 :: .ref 246 :: [w0]) (fk_E N y l) = (fk_ev d qX12_isRoad 0 [.ref 246, .int x0] [] (fk_E N y l)).bind fun o => fk_ev (d + 1) qX12_forksOf 38 L (o.1.toList ++ [w0]) o.2) ∧
  (∀ (d : Nat) (L : List Value) (x : Int32) (st : List Value) (h : fk_H), fk_ev d qX12_forksOf 38 L (.int x :: st) h = if x = nI 0 then fk_ev d qX12_forksOf 56 L st h else fk_ev d qX12_forksOf 41 L st h) ∧
  (∀ (d : Nat) (a1 a2 a3 a4 : Value) (x : Nat) (st : List Value) (h : fk_H), fk_ev d qX12_forksOf 41 [.ref x, a1, a2, a3, a4] st h = fk_ev d qX12_forksOf 42 [.ref x, a1, a2, a3, a4] (.ref x :: st) h) ∧
  (∀ (d : Nat) (L st : List Value) (N : Nat) (y : Nat → Nat → Int32) (l : Nat → Nat → Int64), fk_ev d qX12_forksOf 42 L (.ref 246 :: st) (fk_E N y l) = fk_ev d qX12_forksOf 45 L (.ref 250 :: st) (fk_E N y l)) ∧
  (∀ (d : Nat) (a0 a1 a2 a3 : Value) (x : Int32) (st : List Value) (h : fk_H), fk_ev d qX12_forksOf 45 [a0, a1, a2, a3, .int x] st h = fk_ev d qX12_forksOf 47 [a0, a1, a2, a3, .int x] (.int x :: st) h) ∧
  (∀ (d : Nat) (L st : List Value) (N : Nat) (y : Nat → Nat → Int32) (l : Nat → Nat → Int64) (i : Nat), i < 32 → fk_ev d qX12_forksOf 47 L (.int (nI i) :: .ref 250 :: st) (fk_E N y l) = fk_ev d qX12_forksOf 48 L (.int (y 250 i) :: st) (fk_E N y l)) ∧
  (∀ (d : Nat) (a0 a1 a3 a4 : Value) (x : Int32) (st : List Value) (h : fk_H), fk_ev d qX12_forksOf 48 [a0, a1, .int x, a3, a4] st h = fk_ev d qX12_forksOf 49 [a0, a1, .int x, a3, a4] (.int x :: st) h) ∧
  (∀ (d : Nat) (L : List Value) (x y : Int32) (st : List Value) (h : fk_H), fk_ev d qX12_forksOf 49 L (.int y :: .int x :: st) h = if ¬ x = y then fk_ev d qX12_forksOf 56 L st h else fk_ev d qX12_forksOf 52 L st h) ∧
  (∀ (d : Nat) (L st : List Value) (h : fk_H), fk_ev d qX12_forksOf 52 L st h = fk_ev d qX12_forksOf 53 L (.int (nI 1) :: st) h) ∧
  (∀ (d : Nat) (L st : List Value) (h : fk_H), fk_ev d qX12_forksOf 53 L st h = fk_ev d qX12_forksOf 57 L st h) ∧
  (∀ (d : Nat) (L st : List Value) (h : fk_H), fk_ev d qX12_forksOf 56 L st h = fk_ev d qX12_forksOf 57 L (.int (nI 0) :: st) h) ∧
  (∀ (d : Nat) (L : List Value) (x y : Int32) (st : List Value) (h : fk_H), fk_ev d qX12_forksOf 57 L (.int y :: .int x :: st) h = fk_ev d qX12_forksOf 58 L (.int (x + y) :: st) h) ∧
  (∀ (d : Nat) (a0 a1 a2 a3 a4 : Value) (x : Int32) (st : List Value) (h : fk_H), fk_ev d qX12_forksOf 58 [a0, a1, a2, a3, a4] (.int x :: st) h = fk_ev d qX12_forksOf 59 [a0, a1, a2, .int x, a4] st h) ∧
  (∀ (d : Nat) (a0 a1 a2 a3 : Value) (x : Int32) (st : List Value) (h : fk_H), fk_ev d qX12_forksOf 59 [a0, a1, a2, a3, .int x] st h = fk_ev d qX12_forksOf 62 [a0, a1, a2, a3, .int (x + nI 1)] st h) ∧
  (∀ (d : Nat) (L st : List Value) (h : fk_H), fk_ev d qX12_forksOf 62 L st h = fk_ev d qX12_forksOf 24 L st h) ∧
  (∀ (d : Nat) (a0 a1 a2 a4 : Value) (x : Int32) (st : List Value) (h : fk_H), fk_ev d qX12_forksOf 65 [a0, a1, a2, .int x, a4] st h = fk_ev d qX12_forksOf 66 [a0, a1, a2, .int x, a4] (.int x :: st) h) ∧
  (∀ (d : Nat) (L st : List Value) (h : fk_H), fk_ev d qX12_forksOf 66 L st h = fk_ev d qX12_forksOf 67 L (.int (nI 1) :: st) h) ∧
  (∀ (d : Nat) (L : List Value) (x y : Int32) (st : List Value) (h : fk_H), fk_ev d qX12_forksOf 67 L (.int y :: .int x :: st) h = if x ≤ y then fk_ev d qX12_forksOf 76 L st h else fk_ev d qX12_forksOf 70 L st h) ∧
  (∀ (d : Nat) (a0 a2 a3 a4 : Value) (x : Int32) (st : List Value) (h : fk_H), fk_ev d qX12_forksOf 70 [a0, .int x, a2, a3, a4] st h = fk_ev d qX12_forksOf 71 [a0, .int x, a2, a3, a4] (.int x :: st) h) ∧
  (∀ (d : Nat) (L st : List Value) (h : fk_H), fk_ev d qX12_forksOf 71 L st h = fk_ev d qX12_forksOf 72 L (.int (nI 1) :: st) h) ∧
  (∀ (d : Nat) (a0 a1 a3 a4 : Value) (x : Int32) (st : List Value) (h : fk_H), fk_ev d qX12_forksOf 72 [a0, a1, .int x, a3, a4] st h = fk_ev d qX12_forksOf 73 [a0, a1, .int x, a3, a4] (.int x :: st) h) ∧
  (∀ (d : Nat) (L : List Value) (x y : Int32) (st : List Value) (h : fk_H), fk_ev d qX12_forksOf 73 L (.int y :: .int x :: st) h = fk_ev d qX12_forksOf 74 L (.int (x <<< (y &&& 31)) :: st) h) ∧
  (∀ (d : Nat) (L : List Value) (x y : Int32) (st : List Value) (h : fk_H), fk_ev d qX12_forksOf 74 L (.int y :: .int x :: st) h = fk_ev d qX12_forksOf 75 L (.int (x ||| y) :: st) h) ∧
  (∀ (d : Nat) (a0 a1 a2 a3 a4 : Value) (x : Int32) (st : List Value) (h : fk_H), fk_ev d qX12_forksOf 75 [a0, a1, a2, a3, a4] (.int x :: st) h = fk_ev d qX12_forksOf 76 [a0, .int x, a2, a3, a4] st h) ∧
  (∀ (d : Nat) (a0 a1 a3 a4 : Value) (x : Int32) (st : List Value) (h : fk_H), fk_ev d qX12_forksOf 76 [a0, a1, .int x, a3, a4] st h = fk_ev d qX12_forksOf 79 [a0, a1, .int (x + nI 1), a3, a4] st h) ∧
  (∀ (d : Nat) (L st : List Value) (h : fk_H), fk_ev d qX12_forksOf 79 L st h = fk_ev d qX12_forksOf 4 L st h) ∧
  (∀ (d : Nat) (a0 a2 a3 a4 : Value) (x : Int32) (st : List Value) (h : fk_H), fk_ev d qX12_forksOf 82 [a0, .int x, a2, a3, a4] st h = fk_ev d qX12_forksOf 83 [a0, .int x, a2, a3, a4] (.int x :: st) h) ∧
  (∀ (d : Nat) (L : List Value) (x : Int32) (h : fk_H), fk_ev d qX12_forksOf 83 L [.int x] h = some (some (.int x), h)) := ⟨fun d L st h => fk_w_iconst dX12_forksOf_0 (by decide),
  fun d a0 a1 a2 a3 a4 x st h => fk_w_istoren 1 5 [] [a0, a1, a2, a3, a4] [a0, .int x, a2, a3, a4] dX12_forksOf_1 rfl rfl (by decide) rfl,
  fun d L st h => fk_w_iconst dX12_forksOf_2 (by decide),
  fun d a0 a1 a2 a3 a4 x st h => fk_w_istoren 2 5 [] [a0, a1, a2, a3, a4] [a0, a1, .int x, a3, a4] dX12_forksOf_3 rfl rfl (by decide) rfl,
  fun d L st h => fk_w_bipush dX12_forksOf_5 (by decide),
  fun d L x y st h => fk_r_icmp_ge dX12_forksOf_7 (by decide),
  fun d a0 a2 a3 a4 x st h => fk_w_iloadn 1 [a0, .int x, a2, a3, a4] dX12_forksOf_10 rfl,
  fun d L x0 h => fk_g_calls [.int x0] [] rfl lm_12_260 dX12_forksOf_11 rfl ⟨rfl, by decide⟩ (by simp),
  fun d L st h => fk_w_bipush dX12_forksOf_14 (by decide),
  fun d L x y st h => fk_r_icmp_ge dX12_forksOf_16 (by decide),
  fun d L st h => fk_w_iconst dX12_forksOf_19 (by decide),
  fun d a0 a1 a2 a3 a4 x st h => fk_w_istoren 3 5 [] [a0, a1, a2, a3, a4] [a0, a1, a2, .int x, a4] dX12_forksOf_20 rfl rfl (by decide) rfl,
  fun d L st h => fk_w_iconst dX12_forksOf_21 (by decide),
  fun d a0 a1 a2 a3 a4 x st h => fk_w_istore 4 5 [] [a0, a1, a2, a3, a4] [a0, a1, a2, a3, .int x] dX12_forksOf_22 rfl rfl (by decide) rfl,
  fun d L st h => fk_w_bipush dX12_forksOf_26 (by decide),
  fun d L x y st h => fk_r_icmp_ge dX12_forksOf_28 (by decide),
  fun d a0 a1 a2 a4 x st h => fk_w_iloadn 3 [a0, a1, a2, .int x, a4] dX12_forksOf_31 rfl,
  fun d a1 a2 a3 a4 x st h => fk_w_aloadn 0 [.ref x, a1, a2, a3, a4] dX12_forksOf_32 rfl,
  fun d a0 a1 a2 a3 x st h => fk_w_iload 4 [a0, a1, a2, a3, .int x] dX12_forksOf_33 rfl,
  fun d L x0 w0 N y l  => fk_g_call [.int x0] [w0] rfl lm_12_289 dX12_forksOf_35 rfl ⟨rfl, by decide⟩ (by simp) fk_at_246,
  fun d L x st h => fk_r_if_eq dX12_forksOf_38 (by decide),
  fun d a1 a2 a3 a4 x st h => fk_w_aloadn 0 [.ref x, a1, a2, a3, a4] dX12_forksOf_41 rfl,
  fun d L st N y l => fk_g_getC rfl lf_12_19 (by decide) rfl dX12_forksOf_42 fk_at_246,
  fun d a0 a1 a2 a3 x st h => fk_w_iload 4 [a0, a1, a2, a3, .int x] dX12_forksOf_45 rfl,
  fun d L st N y l i hi => fk_g_iald fk_at_250 fk_ln_250 (by decide) dX12_forksOf_47 hi,
  fun d a0 a1 a3 a4 x st h => fk_w_iloadn 2 [a0, a1, .int x, a3, a4] dX12_forksOf_48 rfl,
  fun d L x y st h => fk_r_icmp_ne dX12_forksOf_49 (by decide),
  fun d L st h => fk_w_iconst dX12_forksOf_52 (by decide),
  fun d L st h => fk_r_goto dX12_forksOf_53 (by decide),
  fun d L st h => fk_w_iconst dX12_forksOf_56 (by decide),
  fun d L x y st h => fk_r_iadd dX12_forksOf_57,
  fun d a0 a1 a2 a3 a4 x st h => fk_w_istoren 3 5 [] [a0, a1, a2, a3, a4] [a0, a1, a2, .int x, a4] dX12_forksOf_58 rfl rfl (by decide) rfl,
  fun d a0 a1 a2 a3 x st h => fk_w_iinc 4 5 (1) [] [a0, a1, a2, a3, .int x] [a0, a1, a2, a3, .int (x + nI 1)] dX12_forksOf_59 rfl rfl rfl (by decide) rfl,
  fun d L st h => fk_r_goto dX12_forksOf_62 (by decide),
  fun d a0 a1 a2 a4 x st h => fk_w_iloadn 3 [a0, a1, a2, .int x, a4] dX12_forksOf_65 rfl,
  fun d L st h => fk_w_iconst dX12_forksOf_66 (by decide),
  fun d L x y st h => fk_r_icmp_le dX12_forksOf_67 (by decide),
  fun d a0 a2 a3 a4 x st h => fk_w_iloadn 1 [a0, .int x, a2, a3, a4] dX12_forksOf_70 rfl,
  fun d L st h => fk_w_iconst dX12_forksOf_71 (by decide),
  fun d a0 a1 a3 a4 x st h => fk_w_iloadn 2 [a0, a1, .int x, a3, a4] dX12_forksOf_72 rfl,
  fun d L x y st h => fk_r_ishl dX12_forksOf_73,
  fun d L x y st h => fk_r_ior dX12_forksOf_74,
  fun d a0 a1 a2 a3 a4 x st h => fk_w_istoren 1 5 [] [a0, a1, a2, a3, a4] [a0, .int x, a2, a3, a4] dX12_forksOf_75 rfl rfl (by decide) rfl,
  fun d a0 a1 a3 a4 x st h => fk_w_iinc 2 5 (1) [] [a0, a1, .int x, a3, a4] [a0, a1, .int (x + nI 1), a3, a4] dX12_forksOf_76 rfl rfl rfl (by decide) rfl,
  fun d L st h => fk_r_goto dX12_forksOf_79 (by decide),
  fun d a0 a2 a3 a4 x st h => fk_w_iloadn 1 [a0, .int x, a2, a3, a4] dX12_forksOf_82 rfl,
  fun d L x h => fk_r_ret dX12_forksOf_83 (Or.inl rfl)⟩
theorem hX12_forksOf_4 : ∀ (d : Nat) (a0 a1 a3 a4 : Value) (x : Int32) (st : List Value) (h : fk_H), fk_ev d qX12_forksOf 4 [a0, a1, .int x, a3, a4] st h = fk_ev d qX12_forksOf 5 [a0, a1, .int x, a3, a4] (.int x :: st) h := fun d a0 a1 a3 a4 x st h => fk_w_iloadn 2 [a0, a1, .int x, a3, a4] dX12_forksOf_4 rfl
theorem hX12_forksOf_24 : ∀ (d : Nat) (a0 a1 a2 a3 : Value) (x : Int32) (st : List Value) (h : fk_H), fk_ev d qX12_forksOf 24 [a0, a1, a2, a3, .int x] st h = fk_ev d qX12_forksOf 26 [a0, a1, a2, a3, .int x] (.int x :: st) h := fun d a0 a1 a2 a3 x st h => fk_w_iload 4 [a0, a1, a2, a3, .int x] dX12_forksOf_24 rfl
theorem dX12_aliveOf_0 : decode cX12_aliveOf 0 = .ok (.iconst (-1), 1) := by decide +kernel
theorem dX12_aliveOf_1 : decode cX12_aliveOf 1 = .ok (.istore_n 2, 1) := by decide +kernel
theorem dX12_aliveOf_2 : decode cX12_aliveOf 2 = .ok (.iconst 0, 1) := by decide +kernel
theorem dX12_aliveOf_3 : decode cX12_aliveOf 3 = .ok (.istore_n 3, 1) := by decide +kernel
theorem dX12_aliveOf_4 : decode cX12_aliveOf 4 = .ok (.iload_n 3, 1) := by decide +kernel
theorem dX12_aliveOf_5 : decode cX12_aliveOf 5 = .ok (.aload_n 0, 1) := by decide +kernel
theorem dX12_aliveOf_6 : decode cX12_aliveOf 6 = .ok (.getfield 7, 3) := by decide +kernel
theorem dX12_aliveOf_9 : decode cX12_aliveOf 9 = .ok (.sipush 833, 3) := by decide +kernel
theorem dX12_aliveOf_12 : decode cX12_aliveOf 12 = .ok (.iaload, 1) := by decide +kernel
theorem dX12_aliveOf_13 : decode cX12_aliveOf 13 = .ok (.if_icmp .ge 31, 3) := by decide +kernel
theorem dX12_aliveOf_16 : decode cX12_aliveOf 16 = .ok (.aload_n 0, 1) := by decide +kernel
theorem dX12_aliveOf_17 : decode cX12_aliveOf 17 = .ok (.iload_n 3, 1) := by decide +kernel
theorem dX12_aliveOf_18 : decode cX12_aliveOf 18 = .ok (.invokevirtual 126, 3) := by decide +kernel
theorem dX12_aliveOf_21 : decode cX12_aliveOf 21 = .ok (.ifCond .eq 17, 3) := by decide +kernel
theorem dX12_aliveOf_24 : decode cX12_aliveOf 24 = .ok (.aload_n 0, 1) := by decide +kernel
theorem dX12_aliveOf_25 : decode cX12_aliveOf 25 = .ok (.getfield 7, 3) := by decide +kernel
theorem dX12_aliveOf_28 : decode cX12_aliveOf 28 = .ok (.iconst 0, 1) := by decide +kernel
theorem dX12_aliveOf_29 : decode cX12_aliveOf 29 = .ok (.iload_n 3, 1) := by decide +kernel
theorem dX12_aliveOf_30 : decode cX12_aliveOf 30 = .ok (.iadd, 1) := by decide +kernel
theorem dX12_aliveOf_31 : decode cX12_aliveOf 31 = .ok (.iaload, 1) := by decide +kernel
theorem dX12_aliveOf_32 : decode cX12_aliveOf 32 = .ok (.iload_n 1, 1) := by decide +kernel
theorem dX12_aliveOf_33 : decode cX12_aliveOf 33 = .ok (.if_icmp .ne 5, 3) := by decide +kernel
theorem dX12_aliveOf_36 : decode cX12_aliveOf 36 = .ok (.iload_n 3, 1) := by decide +kernel
theorem dX12_aliveOf_37 : decode cX12_aliveOf 37 = .ok (.istore_n 2, 1) := by decide +kernel
theorem dX12_aliveOf_38 : decode cX12_aliveOf 38 = .ok (.iinc 3 1, 3) := by decide +kernel
theorem dX12_aliveOf_41 : decode cX12_aliveOf 41 = .ok (.goto (-37), 3) := by decide +kernel
theorem dX12_aliveOf_44 : decode cX12_aliveOf 44 = .ok (.iload_n 2, 1) := by decide +kernel
theorem dX12_aliveOf_45 : decode cX12_aliveOf 45 = .ok (.ireturn, 1) := by decide +kernel
theorem rX12_aliveOf : (∀ (d : Nat) (L st : List Value) (h : fk_H), fk_ev d qX12_aliveOf 0 L st h = fk_ev d qX12_aliveOf 1 L (.int ((-1 : Int32)) :: st) h) ∧
  (∀ (d : Nat) (a0 a1 a2 a3 : Value) (x : Int32) (st : List Value) (h : fk_H), fk_ev d qX12_aliveOf 1 [a0, a1, a2, a3] (.int x :: st) h = fk_ev d qX12_aliveOf 2 [a0, a1, .int x, a3] st h) ∧
  (∀ (d : Nat) (L st : List Value) (h : fk_H), fk_ev d qX12_aliveOf 2 L st h = fk_ev d qX12_aliveOf 3 L (.int (nI 0) :: st) h) ∧
  (∀ (d : Nat) (a0 a1 a2 a3 : Value) (x : Int32) (st : List Value) (h : fk_H), fk_ev d qX12_aliveOf 3 [a0, a1, a2, a3] (.int x :: st) h = fk_ev d qX12_aliveOf 4 [a0, a1, a2, .int x] st h) ∧
  (∀ (d : Nat) (a1 a2 a3 : Value) (x : Nat) (st : List Value) (h : fk_H), fk_ev d qX12_aliveOf 5 [.ref x, a1, a2, a3] st h = fk_ev d qX12_aliveOf 6 [.ref x, a1, a2, a3] (.ref x :: st) h) ∧
  (∀ (d : Nat) (L st : List Value) (N : Nat) (y : Nat → Nat → Int32) (l : Nat → Nat → Int64), fk_ev d qX12_aliveOf 6 L (.ref 246 :: st) (fk_E N y l) = fk_ev d qX12_aliveOf 9 L (.ref 247 :: st) (fk_E N y l)) ∧
  (∀ (d : Nat) (L st : List Value) (h : fk_H), fk_ev d qX12_aliveOf 9 L st h = fk_ev d qX12_aliveOf 12 L (.int (nI 833) :: st) h) ∧
  (∀ (d : Nat) (L st : List Value) (N : Nat) (y : Nat → Nat → Int32) (l : Nat → Nat → Int64) (i : Nat), i < 3912 → fk_ev d qX12_aliveOf 12 L (.int (nI i) :: .ref 247 :: st) (fk_E N y l) = fk_ev d qX12_aliveOf 13 L (.int (y 247 i) :: st) (fk_E N y l)) ∧
  (∀ (d : Nat) (L : List Value) (x y : Int32) (st : List Value) (h : fk_H), fk_ev d qX12_aliveOf 13 L (.int y :: .int x :: st) h = if y ≤ x then fk_ev d qX12_aliveOf 44 L st h else fk_ev d qX12_aliveOf 16 L st h) ∧
  (∀ (d : Nat) (a1 a2 a3 : Value) (x : Nat) (st : List Value) (h : fk_H), fk_ev d qX12_aliveOf 16 [.ref x, a1, a2, a3] st h = fk_ev d qX12_aliveOf 17 [.ref x, a1, a2, a3] (.ref x :: st) h) ∧
  (∀ (d : Nat) (a0 a1 a2 : Value) (x : Int32) (st : List Value) (h : fk_H), fk_ev d qX12_aliveOf 17 [a0, a1, a2, .int x] st h = fk_ev d qX12_aliveOf 18 [a0, a1, a2, .int x] (.int x :: st) h) ∧
  (∀ (d : Nat) (L : List Value) (x0 : Int32)  (N : Nat) (y : Nat → Nat → Int32) (l : Nat → Nat → Int64), fk_ev (d + 1) qX12_aliveOf 18 L (.int x0 :: .ref 246 :: []) (fk_E N y l) = (fk_ev d qX12_lives 0 [.ref 246, .int x0] [] (fk_E N y l)).bind fun o => fk_ev (d + 1) qX12_aliveOf 21 L (o.1.toList ++ []) o.2) ∧
  (∀ (d : Nat) (L : List Value) (x : Int32) (st : List Value) (h : fk_H), fk_ev d qX12_aliveOf 21 L (.int x :: st) h = if x = nI 0 then fk_ev d qX12_aliveOf 38 L st h else fk_ev d qX12_aliveOf 24 L st h) ∧
  (∀ (d : Nat) (a1 a2 a3 : Value) (x : Nat) (st : List Value) (h : fk_H), fk_ev d qX12_aliveOf 24 [.ref x, a1, a2, a3] st h = fk_ev d qX12_aliveOf 25 [.ref x, a1, a2, a3] (.ref x :: st) h) ∧
  (∀ (d : Nat) (L st : List Value) (N : Nat) (y : Nat → Nat → Int32) (l : Nat → Nat → Int64), fk_ev d qX12_aliveOf 25 L (.ref 246 :: st) (fk_E N y l) = fk_ev d qX12_aliveOf 28 L (.ref 247 :: st) (fk_E N y l)) ∧
  (∀ (d : Nat) (L st : List Value) (h : fk_H), fk_ev d qX12_aliveOf 28 L st h = fk_ev d qX12_aliveOf 29 L (.int (nI 0) :: st) h) ∧
  (∀ (d : Nat) (a0 a1 a2 : Value) (x : Int32) (st : List Value) (h : fk_H), fk_ev d qX12_aliveOf 29 [a0, a1, a2, .int x] st h = fk_ev d qX12_aliveOf 30 [a0, a1, a2, .int x] (.int x :: st) h) ∧
  (∀ (d : Nat) (L : List Value) (x y : Int32) (st : List Value) (h : fk_H), fk_ev d qX12_aliveOf 30 L (.int y :: .int x :: st) h = fk_ev d qX12_aliveOf 31 L (.int (x + y) :: st) h) ∧
  (∀ (d : Nat) (L st : List Value) (N : Nat) (y : Nat → Nat → Int32) (l : Nat → Nat → Int64) (i : Nat), i < 3912 → fk_ev d qX12_aliveOf 31 L (.int (nI i) :: .ref 247 :: st) (fk_E N y l) = fk_ev d qX12_aliveOf 32 L (.int (y 247 i) :: st) (fk_E N y l)) ∧
  (∀ (d : Nat) (a0 a2 a3 : Value) (x : Int32) (st : List Value) (h : fk_H), fk_ev d qX12_aliveOf 32 [a0, .int x, a2, a3] st h = fk_ev d qX12_aliveOf 33 [a0, .int x, a2, a3] (.int x :: st) h) ∧
  (∀ (d : Nat) (L : List Value) (x y : Int32) (st : List Value) (h : fk_H), fk_ev d qX12_aliveOf 33 L (.int y :: .int x :: st) h = if ¬ x = y then fk_ev d qX12_aliveOf 38 L st h else fk_ev d qX12_aliveOf 36 L st h) ∧
  (∀ (d : Nat) (a0 a1 a2 : Value) (x : Int32) (st : List Value) (h : fk_H), fk_ev d qX12_aliveOf 36 [a0, a1, a2, .int x] st h = fk_ev d qX12_aliveOf 37 [a0, a1, a2, .int x] (.int x :: st) h) ∧
  (∀ (d : Nat) (a0 a1 a2 a3 : Value) (x : Int32) (st : List Value) (h : fk_H), fk_ev d qX12_aliveOf 37 [a0, a1, a2, a3] (.int x :: st) h = fk_ev d qX12_aliveOf 38 [a0, a1, .int x, a3] st h) ∧
  (∀ (d : Nat) (a0 a1 a2 : Value) (x : Int32) (st : List Value) (h : fk_H), fk_ev d qX12_aliveOf 38 [a0, a1, a2, .int x] st h = fk_ev d qX12_aliveOf 41 [a0, a1, a2, .int (x + nI 1)] st h) ∧
  (∀ (d : Nat) (L st : List Value) (h : fk_H), fk_ev d qX12_aliveOf 41 L st h = fk_ev d qX12_aliveOf 4 L st h) ∧
  (∀ (d : Nat) (a0 a1 a3 : Value) (x : Int32) (st : List Value) (h : fk_H), fk_ev d qX12_aliveOf 44 [a0, a1, .int x, a3] st h = fk_ev d qX12_aliveOf 45 [a0, a1, .int x, a3] (.int x :: st) h) ∧
  (∀ (d : Nat) (L : List Value) (x : Int32) (h : fk_H), fk_ev d qX12_aliveOf 45 L [.int x] h = some (some (.int x), h)) := ⟨fun d L st h => fk_w_iconst dX12_aliveOf_0 (by decide),
  fun d a0 a1 a2 a3 x st h => fk_w_istoren 2 4 [] [a0, a1, a2, a3] [a0, a1, .int x, a3] dX12_aliveOf_1 rfl rfl (by decide) rfl,
  fun d L st h => fk_w_iconst dX12_aliveOf_2 (by decide),
  fun d a0 a1 a2 a3 x st h => fk_w_istoren 3 4 [] [a0, a1, a2, a3] [a0, a1, a2, .int x] dX12_aliveOf_3 rfl rfl (by decide) rfl,
  fun d a1 a2 a3 x st h => fk_w_aloadn 0 [.ref x, a1, a2, a3] dX12_aliveOf_5 rfl,
  fun d L st N y l => fk_g_getC rfl lf_12_7 (by decide) rfl dX12_aliveOf_6 fk_at_246,
  fun d L st h => fk_w_sipush dX12_aliveOf_9 (by decide),
  fun d L st N y l i hi => fk_g_iald fk_at_247 fk_ln_247 (by decide) dX12_aliveOf_12 hi,
  fun d L x y st h => fk_r_icmp_ge dX12_aliveOf_13 (by decide),
  fun d a1 a2 a3 x st h => fk_w_aloadn 0 [.ref x, a1, a2, a3] dX12_aliveOf_16 rfl,
  fun d a0 a1 a2 x st h => fk_w_iloadn 3 [a0, a1, a2, .int x] dX12_aliveOf_17 rfl,
  fun d L x0 N y l  => fk_g_call [.int x0] [] rfl lm_12_126 dX12_aliveOf_18 rfl ⟨rfl, by decide⟩ (by simp) fk_at_246,
  fun d L x st h => fk_r_if_eq dX12_aliveOf_21 (by decide),
  fun d a1 a2 a3 x st h => fk_w_aloadn 0 [.ref x, a1, a2, a3] dX12_aliveOf_24 rfl,
  fun d L st N y l => fk_g_getC rfl lf_12_7 (by decide) rfl dX12_aliveOf_25 fk_at_246,
  fun d L st h => fk_w_iconst dX12_aliveOf_28 (by decide),
  fun d a0 a1 a2 x st h => fk_w_iloadn 3 [a0, a1, a2, .int x] dX12_aliveOf_29 rfl,
  fun d L x y st h => fk_r_iadd dX12_aliveOf_30,
  fun d L st N y l i hi => fk_g_iald fk_at_247 fk_ln_247 (by decide) dX12_aliveOf_31 hi,
  fun d a0 a2 a3 x st h => fk_w_iloadn 1 [a0, .int x, a2, a3] dX12_aliveOf_32 rfl,
  fun d L x y st h => fk_r_icmp_ne dX12_aliveOf_33 (by decide),
  fun d a0 a1 a2 x st h => fk_w_iloadn 3 [a0, a1, a2, .int x] dX12_aliveOf_36 rfl,
  fun d a0 a1 a2 a3 x st h => fk_w_istoren 2 4 [] [a0, a1, a2, a3] [a0, a1, .int x, a3] dX12_aliveOf_37 rfl rfl (by decide) rfl,
  fun d a0 a1 a2 x st h => fk_w_iinc 3 4 (1) [] [a0, a1, a2, .int x] [a0, a1, a2, .int (x + nI 1)] dX12_aliveOf_38 rfl rfl rfl (by decide) rfl,
  fun d L st h => fk_r_goto dX12_aliveOf_41 (by decide),
  fun d a0 a1 a3 x st h => fk_w_iloadn 2 [a0, a1, .int x, a3] dX12_aliveOf_44 rfl,
  fun d L x h => fk_r_ret dX12_aliveOf_45 (Or.inl rfl)⟩
theorem hX12_aliveOf_4 : ∀ (d : Nat) (a0 a1 a2 : Value) (x : Int32) (st : List Value) (h : fk_H), fk_ev d qX12_aliveOf 4 [a0, a1, a2, .int x] st h = fk_ev d qX12_aliveOf 5 [a0, a1, a2, .int x] (.int x :: st) h := fun d a0 a1 a2 x st h => fk_w_iloadn 3 [a0, a1, a2, .int x] dX12_aliveOf_4 rfl
theorem dX12_triesPlan_0 : decode cX12_triesPlan 0 = .ok (.aload_n 0, 1) := by decide +kernel
theorem dX12_triesPlan_1 : decode cX12_triesPlan 1 = .ok (.iconst 1, 1) := by decide +kernel
theorem dX12_triesPlan_2 : decode cX12_triesPlan 2 = .ok (.aload_n 0, 1) := by decide +kernel
theorem dX12_triesPlan_3 : decode cX12_triesPlan 3 = .ok (.getfield 7, 3) := by decide +kernel
theorem dX12_triesPlan_6 : decode cX12_triesPlan 6 = .ok (.sipush 320, 3) := by decide +kernel
theorem dX12_triesPlan_9 : decode cX12_triesPlan 9 = .ok (.aload_n 0, 1) := by decide +kernel
theorem dX12_triesPlan_10 : decode cX12_triesPlan 10 = .ok (.iload_n 1, 1) := by decide +kernel
theorem dX12_triesPlan_11 : decode cX12_triesPlan 11 = .ok (.invokevirtual 348, 3) := by decide +kernel
theorem dX12_triesPlan_14 : decode cX12_triesPlan 14 = .ok (.iadd, 1) := by decide +kernel
theorem dX12_triesPlan_15 : decode cX12_triesPlan 15 = .ok (.iaload, 1) := by decide +kernel
theorem dX12_triesPlan_16 : decode cX12_triesPlan 16 = .ok (.ishl, 1) := by decide +kernel
theorem dX12_triesPlan_17 : decode cX12_triesPlan 17 = .ok (.putfield 272, 3) := by decide +kernel
theorem dX12_triesPlan_20 : decode cX12_triesPlan 20 = .ok (.iconst 1, 1) := by decide +kernel
theorem dX12_triesPlan_21 : decode cX12_triesPlan 21 = .ok (.istore 4, 2) := by decide +kernel
theorem dX12_triesPlan_23 : decode cX12_triesPlan 23 = .ok (.iconst 0, 1) := by decide +kernel
theorem dX12_triesPlan_24 : decode cX12_triesPlan 24 = .ok (.istore 5, 2) := by decide +kernel
theorem dX12_triesPlan_26 : decode cX12_triesPlan 26 = .ok (.iload 5, 2) := by decide +kernel
theorem dX12_triesPlan_28 : decode cX12_triesPlan 28 = .ok (.iload_n 3, 1) := by decide +kernel
theorem dX12_triesPlan_29 : decode cX12_triesPlan 29 = .ok (.if_icmp .gt 82, 3) := by decide +kernel
theorem dX12_triesPlan_32 : decode cX12_triesPlan 32 = .ok (.iload 5, 2) := by decide +kernel
theorem dX12_triesPlan_34 : decode cX12_triesPlan 34 = .ok (.aload_n 0, 1) := by decide +kernel
theorem dX12_triesPlan_35 : decode cX12_triesPlan 35 = .ok (.getfield 351, 3) := by decide +kernel
theorem dX12_triesPlan_38 : decode cX12_triesPlan 38 = .ok (.if_icmp .ge 73, 3) := by decide +kernel
theorem dX12_triesPlan_41 : decode cX12_triesPlan 41 = .ok (.iload_n 2, 1) := by decide +kernel
theorem dX12_triesPlan_42 : decode cX12_triesPlan 42 = .ok (.aload_n 0, 1) := by decide +kernel
theorem dX12_triesPlan_43 : decode cX12_triesPlan 43 = .ok (.getfield 272, 3) := by decide +kernel
theorem dX12_triesPlan_46 : decode cX12_triesPlan 46 = .ok (.iconst (-1), 1) := by decide +kernel
theorem dX12_triesPlan_47 : decode cX12_triesPlan 47 = .ok (.ixor, 1) := by decide +kernel
theorem dX12_triesPlan_48 : decode cX12_triesPlan 48 = .ok (.iand, 1) := by decide +kernel
theorem dX12_triesPlan_49 : decode cX12_triesPlan 49 = .ok (.ifCond .ne 33, 3) := by decide +kernel
theorem dX12_triesPlan_52 : decode cX12_triesPlan 52 = .ok (.aload_n 0, 1) := by decide +kernel
theorem dX12_triesPlan_53 : decode cX12_triesPlan 53 = .ok (.iload_n 1, 1) := by decide +kernel
theorem dX12_triesPlan_54 : decode cX12_triesPlan 54 = .ok (.invokevirtual 135, 3) := by decide +kernel
theorem dX12_triesPlan_57 : decode cX12_triesPlan 57 = .ok (.iconst 1, 1) := by decide +kernel
theorem dX12_triesPlan_58 : decode cX12_triesPlan 58 = .ok (.if_icmp .ne 24, 3) := by decide +kernel
theorem dX12_triesPlan_61 : decode cX12_triesPlan 61 = .ok (.aload_n 0, 1) := by decide +kernel
theorem dX12_triesPlan_62 : decode cX12_triesPlan 62 = .ok (.iload 5, 2) := by decide +kernel
theorem dX12_triesPlan_64 : decode cX12_triesPlan 64 = .ok (.putfield 351, 3) := by decide +kernel
theorem dX12_triesPlan_67 : decode cX12_triesPlan 67 = .ok (.aload_n 0, 1) := by decide +kernel
theorem dX12_triesPlan_68 : decode cX12_triesPlan 68 = .ok (.aload_n 0, 1) := by decide +kernel
theorem dX12_triesPlan_69 : decode cX12_triesPlan 69 = .ok (.getfield 286, 3) := by decide +kernel
theorem dX12_triesPlan_72 : decode cX12_triesPlan 72 = .ok (.putfield 354, 3) := by decide +kernel
theorem dX12_triesPlan_75 : decode cX12_triesPlan 75 = .ok (.aload_n 0, 1) := by decide +kernel
theorem dX12_triesPlan_76 : decode cX12_triesPlan 76 = .ok (.iload 4, 2) := by decide +kernel
theorem dX12_triesPlan_78 : decode cX12_triesPlan 78 = .ok (.putfield 357, 3) := by decide +kernel
theorem dX12_triesPlan_81 : decode cX12_triesPlan 81 = .ok (.return_, 1) := by decide +kernel
theorem dX12_triesPlan_82 : decode cX12_triesPlan 82 = .ok (.iload 5, 2) := by decide +kernel
theorem dX12_triesPlan_84 : decode cX12_triesPlan 84 = .ok (.iload_n 3, 1) := by decide +kernel
theorem dX12_triesPlan_85 : decode cX12_triesPlan 85 = .ok (.if_icmp .ne 4, 3) := by decide +kernel
theorem dX12_triesPlan_88 : decode cX12_triesPlan 88 = .ok (.return_, 1) := by decide +kernel
theorem dX12_triesPlan_89 : decode cX12_triesPlan 89 = .ok (.aload_n 0, 1) := by decide +kernel
theorem dX12_triesPlan_90 : decode cX12_triesPlan 90 = .ok (.invokevirtual 322, 3) := by decide +kernel
theorem dX12_triesPlan_93 : decode cX12_triesPlan 93 = .ok (.iload 4, 2) := by decide +kernel
theorem dX12_triesPlan_95 : decode cX12_triesPlan 95 = .ok (.aload_n 0, 1) := by decide +kernel
theorem dX12_triesPlan_96 : decode cX12_triesPlan 96 = .ok (.iload_n 1, 1) := by decide +kernel
theorem dX12_triesPlan_97 : decode cX12_triesPlan 97 = .ok (.invokevirtual 135, 3) := by decide +kernel
theorem dX12_triesPlan_100 : decode cX12_triesPlan 100 = .ok (.invokestatic 257, 3) := by decide +kernel
theorem dX12_triesPlan_103 : decode cX12_triesPlan 103 = .ok (.istore 4, 2) := by decide +kernel
theorem dX12_triesPlan_105 : decode cX12_triesPlan 105 = .ok (.iinc 5 1, 3) := by decide +kernel
theorem dX12_triesPlan_108 : decode cX12_triesPlan 108 = .ok (.goto (-82), 3) := by decide +kernel
theorem dX12_triesPlan_111 : decode cX12_triesPlan 111 = .ok (.return_, 1) := by decide +kernel
theorem rX12_triesPlan : (∀ (d : Nat) (a1 a2 a3 a4 a5 : Value) (x : Nat) (st : List Value) (h : fk_H), fk_ev d qX12_triesPlan 0 [.ref x, a1, a2, a3, a4, a5] st h = fk_ev d qX12_triesPlan 1 [.ref x, a1, a2, a3, a4, a5] (.ref x :: st) h) ∧
  (∀ (d : Nat) (L st : List Value) (h : fk_H), fk_ev d qX12_triesPlan 1 L st h = fk_ev d qX12_triesPlan 2 L (.int (nI 1) :: st) h) ∧
  (∀ (d : Nat) (a1 a2 a3 a4 a5 : Value) (x : Nat) (st : List Value) (h : fk_H), fk_ev d qX12_triesPlan 2 [.ref x, a1, a2, a3, a4, a5] st h = fk_ev d qX12_triesPlan 3 [.ref x, a1, a2, a3, a4, a5] (.ref x :: st) h) ∧
  (∀ (d : Nat) (L st : List Value) (N : Nat) (y : Nat → Nat → Int32) (l : Nat → Nat → Int64), fk_ev d qX12_triesPlan 3 L (.ref 246 :: st) (fk_E N y l) = fk_ev d qX12_triesPlan 6 L (.ref 247 :: st) (fk_E N y l)) ∧
  (∀ (d : Nat) (L st : List Value) (h : fk_H), fk_ev d qX12_triesPlan 6 L st h = fk_ev d qX12_triesPlan 9 L (.int (nI 320) :: st) h) ∧
  (∀ (d : Nat) (a1 a2 a3 a4 a5 : Value) (x : Nat) (st : List Value) (h : fk_H), fk_ev d qX12_triesPlan 9 [.ref x, a1, a2, a3, a4, a5] st h = fk_ev d qX12_triesPlan 10 [.ref x, a1, a2, a3, a4, a5] (.ref x :: st) h) ∧
  (∀ (d : Nat) (a0 a2 a3 a4 a5 : Value) (x : Int32) (st : List Value) (h : fk_H), fk_ev d qX12_triesPlan 10 [a0, .int x, a2, a3, a4, a5] st h = fk_ev d qX12_triesPlan 11 [a0, .int x, a2, a3, a4, a5] (.int x :: st) h) ∧
  (∀ (d : Nat) (L : List Value) (x0 : Int32) (w0 w1 w2 w3 : Value) (N : Nat) (y : Nat → Nat → Int32) (l : Nat → Nat → Int64), fk_ev (d + 1) qX12_triesPlan 11 L (.int x0 :: .ref 246 :: [w0, w1, w2, w3]) (fk_E N y l) = (fk_ev d qX12_aliveOf 0 [.ref 246, .int x0, .null, .null] [] (fk_E N y l)).bind fun o => fk_ev (d + 1) qX12_triesPlan 14 L (o.1.toList ++ [w0, w1, w2, w3]) o.2) ∧
  (∀ (d : Nat) (L : List Value) (x y : Int32) (st : List Value) (h : fk_H), fk_ev d qX12_triesPlan 14 L (.int y :: .int x :: st) h = fk_ev d qX12_triesPlan 15 L (.int (x + y) :: st) h) ∧
  (∀ (d : Nat) (L st : List Value) (N : Nat) (y : Nat → Nat → Int32) (l : Nat → Nat → Int64) (i : Nat), i < 3912 → fk_ev d qX12_triesPlan 15 L (.int (nI i) :: .ref 247 :: st) (fk_E N y l) = fk_ev d qX12_triesPlan 16 L (.int (y 247 i) :: st) (fk_E N y l)) ∧
  (∀ (d : Nat) (L : List Value) (x y : Int32) (st : List Value) (h : fk_H), fk_ev d qX12_triesPlan 16 L (.int y :: .int x :: st) h = fk_ev d qX12_triesPlan 17 L (.int (x <<< (y &&& 31)) :: st) h) ∧
  (∀ (d : Nat) (L st : List Value) (N : Nat) (y : Nat → Nat → Int32) (l : Nat → Nat → Int64) (v : Int32), fk_ev d qX12_triesPlan 17 L (.int v :: .ref 246 :: st) (fk_E N y l) = fk_ev d qX12_triesPlan 20 L st (fk_E N (fk_u y 246 35 v) l)) ∧
  (∀ (d : Nat) (L st : List Value) (h : fk_H), fk_ev d qX12_triesPlan 20 L st h = fk_ev d qX12_triesPlan 21 L (.int (nI 1) :: st) h) ∧
  (∀ (d : Nat) (a0 a1 a2 a3 a4 a5 : Value) (x : Int32) (st : List Value) (h : fk_H), fk_ev d qX12_triesPlan 21 [a0, a1, a2, a3, a4, a5] (.int x :: st) h = fk_ev d qX12_triesPlan 23 [a0, a1, a2, a3, .int x, a5] st h) ∧
  (∀ (d : Nat) (L st : List Value) (h : fk_H), fk_ev d qX12_triesPlan 23 L st h = fk_ev d qX12_triesPlan 24 L (.int (nI 0) :: st) h) ∧
  (∀ (d : Nat) (a0 a1 a2 a3 a4 a5 : Value) (x : Int32) (st : List Value) (h : fk_H), fk_ev d qX12_triesPlan 24 [a0, a1, a2, a3, a4, a5] (.int x :: st) h = fk_ev d qX12_triesPlan 26 [a0, a1, a2, a3, a4, .int x] st h) ∧
  (∀ (d : Nat) (a0 a1 a2 a4 a5 : Value) (x : Int32) (st : List Value) (h : fk_H), fk_ev d qX12_triesPlan 28 [a0, a1, a2, .int x, a4, a5] st h = fk_ev d qX12_triesPlan 29 [a0, a1, a2, .int x, a4, a5] (.int x :: st) h) ∧
  (∀ (d : Nat) (L : List Value) (x y : Int32) (st : List Value) (h : fk_H), fk_ev d qX12_triesPlan 29 L (.int y :: .int x :: st) h = if y < x then fk_ev d qX12_triesPlan 111 L st h else fk_ev d qX12_triesPlan 32 L st h) ∧
  (∀ (d : Nat) (a0 a1 a2 a3 a4 : Value) (x : Int32) (st : List Value) (h : fk_H), fk_ev d qX12_triesPlan 32 [a0, a1, a2, a3, a4, .int x] st h = fk_ev d qX12_triesPlan 34 [a0, a1, a2, a3, a4, .int x] (.int x :: st) h) ∧
  (∀ (d : Nat) (a1 a2 a3 a4 a5 : Value) (x : Nat) (st : List Value) (h : fk_H), fk_ev d qX12_triesPlan 34 [.ref x, a1, a2, a3, a4, a5] st h = fk_ev d qX12_triesPlan 35 [.ref x, a1, a2, a3, a4, a5] (.ref x :: st) h) ∧
  (∀ (d : Nat) (L st : List Value) (N : Nat) (y : Nat → Nat → Int32) (l : Nat → Nat → Int64), fk_ev d qX12_triesPlan 35 L (.ref 246 :: st) (fk_E N y l) = fk_ev d qX12_triesPlan 38 L (.int (y 246 39) :: st) (fk_E N y l)) ∧
  (∀ (d : Nat) (L : List Value) (x y : Int32) (st : List Value) (h : fk_H), fk_ev d qX12_triesPlan 38 L (.int y :: .int x :: st) h = if y ≤ x then fk_ev d qX12_triesPlan 111 L st h else fk_ev d qX12_triesPlan 41 L st h) ∧
  (∀ (d : Nat) (a0 a1 a3 a4 a5 : Value) (x : Int32) (st : List Value) (h : fk_H), fk_ev d qX12_triesPlan 41 [a0, a1, .int x, a3, a4, a5] st h = fk_ev d qX12_triesPlan 42 [a0, a1, .int x, a3, a4, a5] (.int x :: st) h) ∧
  (∀ (d : Nat) (a1 a2 a3 a4 a5 : Value) (x : Nat) (st : List Value) (h : fk_H), fk_ev d qX12_triesPlan 42 [.ref x, a1, a2, a3, a4, a5] st h = fk_ev d qX12_triesPlan 43 [.ref x, a1, a2, a3, a4, a5] (.ref x :: st) h) ∧
  (∀ (d : Nat) (L st : List Value) (N : Nat) (y : Nat → Nat → Int32) (l : Nat → Nat → Int64), fk_ev d qX12_triesPlan 43 L (.ref 246 :: st) (fk_E N y l) = fk_ev d qX12_triesPlan 46 L (.int (y 246 35) :: st) (fk_E N y l)) ∧
  (∀ (d : Nat) (L st : List Value) (h : fk_H), fk_ev d qX12_triesPlan 46 L st h = fk_ev d qX12_triesPlan 47 L (.int ((-1 : Int32)) :: st) h) ∧
  (∀ (d : Nat) (L : List Value) (x y : Int32) (st : List Value) (h : fk_H), fk_ev d qX12_triesPlan 47 L (.int y :: .int x :: st) h = fk_ev d qX12_triesPlan 48 L (.int (x ^^^ y) :: st) h) ∧
  (∀ (d : Nat) (L : List Value) (x y : Int32) (st : List Value) (h : fk_H), fk_ev d qX12_triesPlan 48 L (.int y :: .int x :: st) h = fk_ev d qX12_triesPlan 49 L (.int (x &&& y) :: st) h) ∧
  (∀ (d : Nat) (L : List Value) (x : Int32) (st : List Value) (h : fk_H), fk_ev d qX12_triesPlan 49 L (.int x :: st) h = if ¬ x = nI 0 then fk_ev d qX12_triesPlan 82 L st h else fk_ev d qX12_triesPlan 52 L st h) ∧
  (∀ (d : Nat) (a1 a2 a3 a4 a5 : Value) (x : Nat) (st : List Value) (h : fk_H), fk_ev d qX12_triesPlan 52 [.ref x, a1, a2, a3, a4, a5] st h = fk_ev d qX12_triesPlan 53 [.ref x, a1, a2, a3, a4, a5] (.ref x :: st) h) ∧
  (∀ (d : Nat) (a0 a2 a3 a4 a5 : Value) (x : Int32) (st : List Value) (h : fk_H), fk_ev d qX12_triesPlan 53 [a0, .int x, a2, a3, a4, a5] st h = fk_ev d qX12_triesPlan 54 [a0, .int x, a2, a3, a4, a5] (.int x :: st) h) ∧
  (∀ (d : Nat) (L : List Value) (x0 : Int32)  (N : Nat) (y : Nat → Nat → Int32) (l : Nat → Nat → Int64), fk_ev (d + 1) qX12_triesPlan 54 L (.int x0 :: .ref 246 :: []) (fk_E N y l) = (fk_ev d qX12_livingOf 0 [.ref 246, .int x0, .null, .null] [] (fk_E N y l)).bind fun o => fk_ev (d + 1) qX12_triesPlan 57 L (o.1.toList ++ []) o.2) ∧
  (∀ (d : Nat) (L st : List Value) (h : fk_H), fk_ev d qX12_triesPlan 57 L st h = fk_ev d qX12_triesPlan 58 L (.int (nI 1) :: st) h) ∧
  (∀ (d : Nat) (L : List Value) (x y : Int32) (st : List Value) (h : fk_H), fk_ev d qX12_triesPlan 58 L (.int y :: .int x :: st) h = if ¬ x = y then fk_ev d qX12_triesPlan 82 L st h else fk_ev d qX12_triesPlan 61 L st h) ∧
  (∀ (d : Nat) (a1 a2 a3 a4 a5 : Value) (x : Nat) (st : List Value) (h : fk_H), fk_ev d qX12_triesPlan 61 [.ref x, a1, a2, a3, a4, a5] st h = fk_ev d qX12_triesPlan 62 [.ref x, a1, a2, a3, a4, a5] (.ref x :: st) h) ∧
  (∀ (d : Nat) (a0 a1 a2 a3 a4 : Value) (x : Int32) (st : List Value) (h : fk_H), fk_ev d qX12_triesPlan 62 [a0, a1, a2, a3, a4, .int x] st h = fk_ev d qX12_triesPlan 64 [a0, a1, a2, a3, a4, .int x] (.int x :: st) h) ∧
  (∀ (d : Nat) (L st : List Value) (N : Nat) (y : Nat → Nat → Int32) (l : Nat → Nat → Int64) (v : Int32), fk_ev d qX12_triesPlan 64 L (.int v :: .ref 246 :: st) (fk_E N y l) = fk_ev d qX12_triesPlan 67 L st (fk_E N (fk_u y 246 39 v) l)) ∧
  (∀ (d : Nat) (a1 a2 a3 a4 a5 : Value) (x : Nat) (st : List Value) (h : fk_H), fk_ev d qX12_triesPlan 67 [.ref x, a1, a2, a3, a4, a5] st h = fk_ev d qX12_triesPlan 68 [.ref x, a1, a2, a3, a4, a5] (.ref x :: st) h) ∧
  (∀ (d : Nat) (a1 a2 a3 a4 a5 : Value) (x : Nat) (st : List Value) (h : fk_H), fk_ev d qX12_triesPlan 68 [.ref x, a1, a2, a3, a4, a5] st h = fk_ev d qX12_triesPlan 69 [.ref x, a1, a2, a3, a4, a5] (.ref x :: st) h) ∧
  (∀ (d : Nat) (L st : List Value) (N : Nat) (y : Nat → Nat → Int32) (l : Nat → Nat → Int64), fk_ev d qX12_triesPlan 69 L (.ref 246 :: st) (fk_E N y l) = fk_ev d qX12_triesPlan 72 L (.int (y 246 34) :: st) (fk_E N y l)) ∧
  (∀ (d : Nat) (L st : List Value) (N : Nat) (y : Nat → Nat → Int32) (l : Nat → Nat → Int64) (v : Int32), fk_ev d qX12_triesPlan 72 L (.int v :: .ref 246 :: st) (fk_E N y l) = fk_ev d qX12_triesPlan 75 L st (fk_E N (fk_u y 246 40 v) l)) ∧
  (∀ (d : Nat) (a1 a2 a3 a4 a5 : Value) (x : Nat) (st : List Value) (h : fk_H), fk_ev d qX12_triesPlan 75 [.ref x, a1, a2, a3, a4, a5] st h = fk_ev d qX12_triesPlan 76 [.ref x, a1, a2, a3, a4, a5] (.ref x :: st) h) ∧
  (∀ (d : Nat) (a0 a1 a2 a3 a5 : Value) (x : Int32) (st : List Value) (h : fk_H), fk_ev d qX12_triesPlan 76 [a0, a1, a2, a3, .int x, a5] st h = fk_ev d qX12_triesPlan 78 [a0, a1, a2, a3, .int x, a5] (.int x :: st) h) ∧
  (∀ (d : Nat) (L st : List Value) (N : Nat) (y : Nat → Nat → Int32) (l : Nat → Nat → Int64) (v : Int32), fk_ev d qX12_triesPlan 78 L (.int v :: .ref 246 :: st) (fk_E N y l) = fk_ev d qX12_triesPlan 81 L st (fk_E N (fk_u y 246 41 v) l)) ∧
  (∀ (d : Nat) (L : List Value) (h : fk_H), fk_ev d qX12_triesPlan 81 L [] h = some (none, h)) ∧
  (∀ (d : Nat) (a0 a1 a2 a3 a4 : Value) (x : Int32) (st : List Value) (h : fk_H), fk_ev d qX12_triesPlan 82 [a0, a1, a2, a3, a4, .int x] st h = fk_ev d qX12_triesPlan 84 [a0, a1, a2, a3, a4, .int x] (.int x :: st) h) ∧
  (∀ (d : Nat) (a0 a1 a2 a4 a5 : Value) (x : Int32) (st : List Value) (h : fk_H), fk_ev d qX12_triesPlan 84 [a0, a1, a2, .int x, a4, a5] st h = fk_ev d qX12_triesPlan 85 [a0, a1, a2, .int x, a4, a5] (.int x :: st) h) ∧
  (∀ (d : Nat) (L : List Value) (x y : Int32) (st : List Value) (h : fk_H), fk_ev d qX12_triesPlan 85 L (.int y :: .int x :: st) h = if ¬ x = y then fk_ev d qX12_triesPlan 89 L st h else fk_ev d qX12_triesPlan 88 L st h) ∧
  (∀ (d : Nat) (L : List Value) (h : fk_H), fk_ev d qX12_triesPlan 88 L [] h = some (none, h)) ∧
  (∀ (d : Nat) (a1 a2 a3 a4 a5 : Value) (x : Nat) (st : List Value) (h : fk_H), fk_ev d qX12_triesPlan 89 [.ref x, a1, a2, a3, a4, a5] st h = fk_ev d qX12_triesPlan 90 [.ref x, a1, a2, a3, a4, a5] (.ref x :: st) h) ∧
  (∀ (d : Nat) (L : List Value)   (N : Nat) (y : Nat → Nat → Int32) (l : Nat → Nat → Int64), fk_ev (d + 1) qX12_triesPlan 90 L (.ref 246 :: []) (fk_E N y l) = (fk_ev d qX12_hourGoes 0 [.ref 246, .null, .null] [] (fk_E N y l)).bind fun o => fk_ev (d + 1) qX12_triesPlan 93 L (o.1.toList ++ []) o.2) ∧
  (∀ (d : Nat) (a0 a1 a2 a3 a5 : Value) (x : Int32) (st : List Value) (h : fk_H), fk_ev d qX12_triesPlan 93 [a0, a1, a2, a3, .int x, a5] st h = fk_ev d qX12_triesPlan 95 [a0, a1, a2, a3, .int x, a5] (.int x :: st) h) ∧
  (∀ (d : Nat) (a1 a2 a3 a4 a5 : Value) (x : Nat) (st : List Value) (h : fk_H), fk_ev d qX12_triesPlan 95 [.ref x, a1, a2, a3, a4, a5] st h = fk_ev d qX12_triesPlan 96 [.ref x, a1, a2, a3, a4, a5] (.ref x :: st) h) ∧
  (∀ (d : Nat) (a0 a2 a3 a4 a5 : Value) (x : Int32) (st : List Value) (h : fk_H), fk_ev d qX12_triesPlan 96 [a0, .int x, a2, a3, a4, a5] st h = fk_ev d qX12_triesPlan 97 [a0, .int x, a2, a3, a4, a5] (.int x :: st) h) ∧
  (∀ (d : Nat) (L : List Value) (x0 : Int32) (w0 : Value) (N : Nat) (y : Nat → Nat → Int32) (l : Nat → Nat → Int64), fk_ev (d + 1) qX12_triesPlan 97 L (.int x0 :: .ref 246 :: [w0]) (fk_E N y l) = (fk_ev d qX12_livingOf 0 [.ref 246, .int x0, .null, .null] [] (fk_E N y l)).bind fun o => fk_ev (d + 1) qX12_triesPlan 100 L (o.1.toList ++ [w0]) o.2) ∧
  (∀ (d : Nat) (L : List Value) (x0 : Int32) (x1 : Int32)  (h : fk_H), fk_ev (d + 1) qX12_triesPlan 100 L (.int x1 :: .int x0 :: []) h = (fk_ev d qX12_max 0 [.int x0, .int x1] [] h).bind fun o => fk_ev (d + 1) qX12_triesPlan 103 L (o.1.toList ++ []) o.2) ∧
  (∀ (d : Nat) (a0 a1 a2 a3 a4 a5 : Value) (x : Int32) (st : List Value) (h : fk_H), fk_ev d qX12_triesPlan 103 [a0, a1, a2, a3, a4, a5] (.int x :: st) h = fk_ev d qX12_triesPlan 105 [a0, a1, a2, a3, .int x, a5] st h) ∧
  (∀ (d : Nat) (a0 a1 a2 a3 a4 : Value) (x : Int32) (st : List Value) (h : fk_H), fk_ev d qX12_triesPlan 105 [a0, a1, a2, a3, a4, .int x] st h = fk_ev d qX12_triesPlan 108 [a0, a1, a2, a3, a4, .int (x + nI 1)] st h) ∧
  (∀ (d : Nat) (L st : List Value) (h : fk_H), fk_ev d qX12_triesPlan 108 L st h = fk_ev d qX12_triesPlan 26 L st h) ∧
  (∀ (d : Nat) (L : List Value) (h : fk_H), fk_ev d qX12_triesPlan 111 L [] h = some (none, h)) := ⟨fun d a1 a2 a3 a4 a5 x st h => fk_w_aloadn 0 [.ref x, a1, a2, a3, a4, a5] dX12_triesPlan_0 rfl,
  fun d L st h => fk_w_iconst dX12_triesPlan_1 (by decide),
  fun d a1 a2 a3 a4 a5 x st h => fk_w_aloadn 0 [.ref x, a1, a2, a3, a4, a5] dX12_triesPlan_2 rfl,
  fun d L st N y l => fk_g_getC rfl lf_12_7 (by decide) rfl dX12_triesPlan_3 fk_at_246,
  fun d L st h => fk_w_sipush dX12_triesPlan_6 (by decide),
  fun d a1 a2 a3 a4 a5 x st h => fk_w_aloadn 0 [.ref x, a1, a2, a3, a4, a5] dX12_triesPlan_9 rfl,
  fun d a0 a2 a3 a4 a5 x st h => fk_w_iloadn 1 [a0, .int x, a2, a3, a4, a5] dX12_triesPlan_10 rfl,
  fun d L x0 w0 w1 w2 w3 N y l  => fk_g_call [.int x0] [w0, w1, w2, w3] rfl lm_12_348 dX12_triesPlan_11 rfl ⟨rfl, by decide⟩ (by simp) fk_at_246,
  fun d L x y st h => fk_r_iadd dX12_triesPlan_14,
  fun d L st N y l i hi => fk_g_iald fk_at_247 fk_ln_247 (by decide) dX12_triesPlan_15 hi,
  fun d L x y st h => fk_r_ishl dX12_triesPlan_16,
  fun d L st N y l v => fk_g_putI rfl lf_12_272 (by decide) dX12_triesPlan_17 rfl fk_at_246,
  fun d L st h => fk_w_iconst dX12_triesPlan_20 (by decide),
  fun d a0 a1 a2 a3 a4 a5 x st h => fk_w_istore 4 6 [] [a0, a1, a2, a3, a4, a5] [a0, a1, a2, a3, .int x, a5] dX12_triesPlan_21 rfl rfl (by decide) rfl,
  fun d L st h => fk_w_iconst dX12_triesPlan_23 (by decide),
  fun d a0 a1 a2 a3 a4 a5 x st h => fk_w_istore 5 6 [] [a0, a1, a2, a3, a4, a5] [a0, a1, a2, a3, a4, .int x] dX12_triesPlan_24 rfl rfl (by decide) rfl,
  fun d a0 a1 a2 a4 a5 x st h => fk_w_iloadn 3 [a0, a1, a2, .int x, a4, a5] dX12_triesPlan_28 rfl,
  fun d L x y st h => fk_r_icmp_gt dX12_triesPlan_29 (by decide),
  fun d a0 a1 a2 a3 a4 x st h => fk_w_iload 5 [a0, a1, a2, a3, a4, .int x] dX12_triesPlan_32 rfl,
  fun d a1 a2 a3 a4 a5 x st h => fk_w_aloadn 0 [.ref x, a1, a2, a3, a4, a5] dX12_triesPlan_34 rfl,
  fun d L st N y l => fk_g_getI rfl lf_12_351 (by decide) dX12_triesPlan_35 fk_at_246,
  fun d L x y st h => fk_r_icmp_ge dX12_triesPlan_38 (by decide),
  fun d a0 a1 a3 a4 a5 x st h => fk_w_iloadn 2 [a0, a1, .int x, a3, a4, a5] dX12_triesPlan_41 rfl,
  fun d a1 a2 a3 a4 a5 x st h => fk_w_aloadn 0 [.ref x, a1, a2, a3, a4, a5] dX12_triesPlan_42 rfl,
  fun d L st N y l => fk_g_getI rfl lf_12_272 (by decide) dX12_triesPlan_43 fk_at_246,
  fun d L st h => fk_w_iconst dX12_triesPlan_46 (by decide),
  fun d L x y st h => fk_r_ixor dX12_triesPlan_47,
  fun d L x y st h => fk_r_iand dX12_triesPlan_48,
  fun d L x st h => fk_r_if_ne dX12_triesPlan_49 (by decide),
  fun d a1 a2 a3 a4 a5 x st h => fk_w_aloadn 0 [.ref x, a1, a2, a3, a4, a5] dX12_triesPlan_52 rfl,
  fun d a0 a2 a3 a4 a5 x st h => fk_w_iloadn 1 [a0, .int x, a2, a3, a4, a5] dX12_triesPlan_53 rfl,
  fun d L x0 N y l  => fk_g_call [.int x0] [] rfl lm_12_135 dX12_triesPlan_54 rfl ⟨rfl, by decide⟩ (by simp) fk_at_246,
  fun d L st h => fk_w_iconst dX12_triesPlan_57 (by decide),
  fun d L x y st h => fk_r_icmp_ne dX12_triesPlan_58 (by decide),
  fun d a1 a2 a3 a4 a5 x st h => fk_w_aloadn 0 [.ref x, a1, a2, a3, a4, a5] dX12_triesPlan_61 rfl,
  fun d a0 a1 a2 a3 a4 x st h => fk_w_iload 5 [a0, a1, a2, a3, a4, .int x] dX12_triesPlan_62 rfl,
  fun d L st N y l v => fk_g_putI rfl lf_12_351 (by decide) dX12_triesPlan_64 rfl fk_at_246,
  fun d a1 a2 a3 a4 a5 x st h => fk_w_aloadn 0 [.ref x, a1, a2, a3, a4, a5] dX12_triesPlan_67 rfl,
  fun d a1 a2 a3 a4 a5 x st h => fk_w_aloadn 0 [.ref x, a1, a2, a3, a4, a5] dX12_triesPlan_68 rfl,
  fun d L st N y l => fk_g_getI rfl lf_12_286 (by decide) dX12_triesPlan_69 fk_at_246,
  fun d L st N y l v => fk_g_putI rfl lf_12_354 (by decide) dX12_triesPlan_72 rfl fk_at_246,
  fun d a1 a2 a3 a4 a5 x st h => fk_w_aloadn 0 [.ref x, a1, a2, a3, a4, a5] dX12_triesPlan_75 rfl,
  fun d a0 a1 a2 a3 a5 x st h => fk_w_iload 4 [a0, a1, a2, a3, .int x, a5] dX12_triesPlan_76 rfl,
  fun d L st N y l v => fk_g_putI rfl lf_12_357 (by decide) dX12_triesPlan_78 rfl fk_at_246,
  fun d L h => fk_r_vret dX12_triesPlan_81 rfl,
  fun d a0 a1 a2 a3 a4 x st h => fk_w_iload 5 [a0, a1, a2, a3, a4, .int x] dX12_triesPlan_82 rfl,
  fun d a0 a1 a2 a4 a5 x st h => fk_w_iloadn 3 [a0, a1, a2, .int x, a4, a5] dX12_triesPlan_84 rfl,
  fun d L x y st h => fk_r_icmp_ne dX12_triesPlan_85 (by decide),
  fun d L h => fk_r_vret dX12_triesPlan_88 rfl,
  fun d a1 a2 a3 a4 a5 x st h => fk_w_aloadn 0 [.ref x, a1, a2, a3, a4, a5] dX12_triesPlan_89 rfl,
  fun d L  N y l  => fk_g_call [] [] rfl lm_12_322 dX12_triesPlan_90 rfl ⟨rfl, by decide⟩ (by simp) fk_at_246,
  fun d a0 a1 a2 a3 a5 x st h => fk_w_iload 4 [a0, a1, a2, a3, .int x, a5] dX12_triesPlan_93 rfl,
  fun d a1 a2 a3 a4 a5 x st h => fk_w_aloadn 0 [.ref x, a1, a2, a3, a4, a5] dX12_triesPlan_95 rfl,
  fun d a0 a2 a3 a4 a5 x st h => fk_w_iloadn 1 [a0, .int x, a2, a3, a4, a5] dX12_triesPlan_96 rfl,
  fun d L x0 w0 N y l  => fk_g_call [.int x0] [w0] rfl lm_12_135 dX12_triesPlan_97 rfl ⟨rfl, by decide⟩ (by simp) fk_at_246,
  fun d L x0 x1 h => fk_g_calls [.int x0, .int x1] [] rfl lm_12_257 dX12_triesPlan_100 rfl ⟨rfl, by decide⟩ (by simp),
  fun d a0 a1 a2 a3 a4 a5 x st h => fk_w_istore 4 6 [] [a0, a1, a2, a3, a4, a5] [a0, a1, a2, a3, .int x, a5] dX12_triesPlan_103 rfl rfl (by decide) rfl,
  fun d a0 a1 a2 a3 a4 x st h => fk_w_iinc 5 6 (1) [] [a0, a1, a2, a3, a4, .int x] [a0, a1, a2, a3, a4, .int (x + nI 1)] dX12_triesPlan_105 rfl rfl rfl (by decide) rfl,
  fun d L st h => fk_r_goto dX12_triesPlan_108 (by decide),
  fun d L h => fk_r_vret dX12_triesPlan_111 rfl⟩
theorem hX12_triesPlan_26 : ∀ (d : Nat) (a0 a1 a2 a3 a4 : Value) (x : Int32) (st : List Value) (h : fk_H), fk_ev d qX12_triesPlan 26 [a0, a1, a2, a3, a4, .int x] st h = fk_ev d qX12_triesPlan 28 [a0, a1, a2, a3, a4, .int x] (.int x :: st) h := fun d a0 a1 a2 a3 a4 x st h => fk_w_iload 5 [a0, a1, a2, a3, a4, .int x] dX12_triesPlan_26 rfl
theorem dX12_plan_0 : decode cX12_plan 0 = .ok (.iload_n 1, 1) := by decide +kernel
theorem dX12_plan_1 : decode cX12_plan 1 = .ok (.invokestatic 132, 3) := by decide +kernel
theorem dX12_plan_4 : decode cX12_plan 4 = .ok (.ifCond .eq 71, 3) := by decide +kernel
theorem dX12_plan_7 : decode cX12_plan 7 = .ok (.iload_n 2, 1) := by decide +kernel
theorem dX12_plan_8 : decode cX12_plan 8 = .ok (.iconst 0, 1) := by decide +kernel
theorem dX12_plan_9 : decode cX12_plan 9 = .ok (.ldc_w 360, 3) := by decide +kernel
theorem dX12_plan_12 : decode cX12_plan 12 = .ok (.invokestatic 112, 3) := by decide +kernel
theorem dX12_plan_15 : decode cX12_plan 15 = .ok (.ifCond .eq 60, 3) := by decide +kernel
theorem dX12_plan_18 : decode cX12_plan 18 = .ok (.iload_n 3, 1) := by decide +kernel
theorem dX12_plan_19 : decode cX12_plan 19 = .ok (.iconst 1, 1) := by decide +kernel
theorem dX12_plan_20 : decode cX12_plan 20 = .ok (.bipush 48, 2) := by decide +kernel
theorem dX12_plan_22 : decode cX12_plan 22 = .ok (.invokestatic 112, 3) := by decide +kernel
theorem dX12_plan_25 : decode cX12_plan 25 = .ok (.ifCond .eq 50, 3) := by decide +kernel
theorem dX12_plan_28 : decode cX12_plan 28 = .ok (.iload 4, 2) := by decide +kernel
theorem dX12_plan_30 : decode cX12_plan 30 = .ok (.iconst 0, 1) := by decide +kernel
theorem dX12_plan_31 : decode cX12_plan 31 = .ok (.iconst 2, 1) := by decide +kernel
theorem dX12_plan_32 : decode cX12_plan 32 = .ok (.invokestatic 112, 3) := by decide +kernel
theorem dX12_plan_35 : decode cX12_plan 35 = .ok (.ifCond .eq 40, 3) := by decide +kernel
theorem dX12_plan_38 : decode cX12_plan 38 = .ok (.aload_n 0, 1) := by decide +kernel
theorem dX12_plan_39 : decode cX12_plan 39 = .ok (.getfield 7, 3) := by decide +kernel
theorem dX12_plan_42 : decode cX12_plan 42 = .ok (.sipush 832, 3) := by decide +kernel
theorem dX12_plan_45 : decode cX12_plan 45 = .ok (.iaload, 1) := by decide +kernel
theorem dX12_plan_46 : decode cX12_plan 46 = .ok (.iload_n 3, 1) := by decide +kernel
theorem dX12_plan_47 : decode cX12_plan 47 = .ok (.iadd, 1) := by decide +kernel
theorem dX12_plan_48 : decode cX12_plan 48 = .ok (.sipush 999, 3) := by decide +kernel
theorem dX12_plan_51 : decode cX12_plan 51 = .ok (.if_icmp .gt 24, 3) := by decide +kernel
theorem dX12_plan_54 : decode cX12_plan 54 = .ok (.aload_n 0, 1) := by decide +kernel
theorem dX12_plan_55 : decode cX12_plan 55 = .ok (.iload_n 1, 1) := by decide +kernel
theorem dX12_plan_56 : decode cX12_plan 56 = .ok (.invokevirtual 135, 3) := by decide +kernel
theorem dX12_plan_59 : decode cX12_plan 59 = .ok (.iconst 1, 1) := by decide +kernel
theorem dX12_plan_60 : decode cX12_plan 60 = .ok (.if_icmp .ne 15, 3) := by decide +kernel
theorem dX12_plan_63 : decode cX12_plan 63 = .ok (.aload_n 0, 1) := by decide +kernel
theorem dX12_plan_64 : decode cX12_plan 64 = .ok (.aload_n 0, 1) := by decide +kernel
theorem dX12_plan_65 : decode cX12_plan 65 = .ok (.iload_n 1, 1) := by decide +kernel
theorem dX12_plan_66 : decode cX12_plan 66 = .ok (.invokevirtual 348, 3) := by decide +kernel
theorem dX12_plan_69 : decode cX12_plan 69 = .ok (.invokevirtual 269, 3) := by decide +kernel
theorem dX12_plan_72 : decode cX12_plan 72 = .ok (.ifCond .ne 5, 3) := by decide +kernel
theorem dX12_plan_75 : decode cX12_plan 75 = .ok (.iconst (-1), 1) := by decide +kernel
theorem dX12_plan_76 : decode cX12_plan 76 = .ok (.ireturn, 1) := by decide +kernel
theorem dX12_plan_77 : decode cX12_plan 77 = .ok (.aload_n 0, 1) := by decide +kernel
theorem dX12_plan_78 : decode cX12_plan 78 = .ok (.invokevirtual 361, 3) := by decide +kernel
theorem dX12_plan_81 : decode cX12_plan 81 = .ok (.istore 5, 2) := by decide +kernel
theorem dX12_plan_83 : decode cX12_plan 83 = .ok (.aload_n 0, 1) := by decide +kernel
theorem dX12_plan_84 : decode cX12_plan 84 = .ok (.ldc_w 364, 3) := by decide +kernel
theorem dX12_plan_87 : decode cX12_plan 87 = .ok (.putfield 351, 3) := by decide +kernel
theorem dX12_plan_90 : decode cX12_plan 90 = .ok (.aload_n 0, 1) := by decide +kernel
theorem dX12_plan_91 : decode cX12_plan 91 = .ok (.invokevirtual 331, 3) := by decide +kernel
theorem dX12_plan_94 : decode cX12_plan 94 = .ok (.aload_n 0, 1) := by decide +kernel
theorem dX12_plan_95 : decode cX12_plan 95 = .ok (.iload_n 1, 1) := by decide +kernel
theorem dX12_plan_96 : decode cX12_plan 96 = .ok (.putfield 97, 3) := by decide +kernel
theorem dX12_plan_99 : decode cX12_plan 99 = .ok (.aload_n 0, 1) := by decide +kernel
theorem dX12_plan_100 : decode cX12_plan 100 = .ok (.iconst 1, 1) := by decide +kernel
theorem dX12_plan_101 : decode cX12_plan 101 = .ok (.putfield 281, 3) := by decide +kernel
theorem dX12_plan_104 : decode cX12_plan 104 = .ok (.iconst 0, 1) := by decide +kernel
theorem dX12_plan_105 : decode cX12_plan 105 = .ok (.istore 6, 2) := by decide +kernel
theorem dX12_plan_107 : decode cX12_plan 107 = .ok (.iload 6, 2) := by decide +kernel
theorem dX12_plan_109 : decode cX12_plan 109 = .ok (.iload 5, 2) := by decide +kernel
theorem dX12_plan_111 : decode cX12_plan 111 = .ok (.if_icmp .gt 39, 3) := by decide +kernel
theorem dX12_plan_114 : decode cX12_plan 114 = .ok (.iload 6, 2) := by decide +kernel
theorem dX12_plan_116 : decode cX12_plan 116 = .ok (.iload 5, 2) := by decide +kernel
theorem dX12_plan_118 : decode cX12_plan 118 = .ok (.iconst (-1), 1) := by decide +kernel
theorem dX12_plan_119 : decode cX12_plan 119 = .ok (.ixor, 1) := by decide +kernel
theorem dX12_plan_120 : decode cX12_plan 120 = .ok (.iand, 1) := by decide +kernel
theorem dX12_plan_121 : decode cX12_plan 121 = .ok (.ifCond .eq 6, 3) := by decide +kernel
theorem dX12_plan_124 : decode cX12_plan 124 = .ok (.goto 20, 3) := by decide +kernel
theorem dX12_plan_127 : decode cX12_plan 127 = .ok (.aload_n 0, 1) := by decide +kernel
theorem dX12_plan_128 : decode cX12_plan 128 = .ok (.iload 6, 2) := by decide +kernel
theorem dX12_plan_130 : decode cX12_plan 130 = .ok (.putfield 286, 3) := by decide +kernel
theorem dX12_plan_133 : decode cX12_plan 133 = .ok (.aload_n 0, 1) := by decide +kernel
theorem dX12_plan_134 : decode cX12_plan 134 = .ok (.invokevirtual 337, 3) := by decide +kernel
theorem dX12_plan_137 : decode cX12_plan 137 = .ok (.aload_n 0, 1) := by decide +kernel
theorem dX12_plan_138 : decode cX12_plan 138 = .ok (.iload_n 1, 1) := by decide +kernel
theorem dX12_plan_139 : decode cX12_plan 139 = .ok (.iload_n 2, 1) := by decide +kernel
theorem dX12_plan_140 : decode cX12_plan 140 = .ok (.iload_n 3, 1) := by decide +kernel
theorem dX12_plan_141 : decode cX12_plan 141 = .ok (.invokevirtual 365, 3) := by decide +kernel
theorem dX12_plan_144 : decode cX12_plan 144 = .ok (.iinc 6 1, 3) := by decide +kernel
theorem dX12_plan_147 : decode cX12_plan 147 = .ok (.goto (-40), 3) := by decide +kernel
theorem dX12_plan_150 : decode cX12_plan 150 = .ok (.aload_n 0, 1) := by decide +kernel
theorem dX12_plan_151 : decode cX12_plan 151 = .ok (.invokevirtual 337, 3) := by decide +kernel
theorem dX12_plan_154 : decode cX12_plan 154 = .ok (.aload_n 0, 1) := by decide +kernel
theorem dX12_plan_155 : decode cX12_plan 155 = .ok (.iconst (-1), 1) := by decide +kernel
theorem dX12_plan_156 : decode cX12_plan 156 = .ok (.putfield 97, 3) := by decide +kernel
theorem dX12_plan_159 : decode cX12_plan 159 = .ok (.aload_n 0, 1) := by decide +kernel
theorem dX12_plan_160 : decode cX12_plan 160 = .ok (.iconst 0, 1) := by decide +kernel
theorem dX12_plan_161 : decode cX12_plan 161 = .ok (.putfield 281, 3) := by decide +kernel
theorem dX12_plan_164 : decode cX12_plan 164 = .ok (.aload_n 0, 1) := by decide +kernel
theorem dX12_plan_165 : decode cX12_plan 165 = .ok (.getfield 351, 3) := by decide +kernel
theorem dX12_plan_168 : decode cX12_plan 168 = .ok (.ldc_w 364, 3) := by decide +kernel
theorem dX12_plan_171 : decode cX12_plan 171 = .ok (.if_icmp .ne 8, 3) := by decide +kernel
theorem dX12_plan_174 : decode cX12_plan 174 = .ok (.bipush (-2), 2) := by decide +kernel
theorem dX12_plan_176 : decode cX12_plan 176 = .ok (.goto 32, 3) := by decide +kernel
theorem dX12_plan_179 : decode cX12_plan 179 = .ok (.iload 4, 2) := by decide +kernel
theorem dX12_plan_181 : decode cX12_plan 181 = .ok (.ifCond .ne 10, 3) := by decide +kernel
theorem dX12_plan_184 : decode cX12_plan 184 = .ok (.aload_n 0, 1) := by decide +kernel
theorem dX12_plan_185 : decode cX12_plan 185 = .ok (.getfield 351, 3) := by decide +kernel
theorem dX12_plan_188 : decode cX12_plan 188 = .ok (.goto 20, 3) := by decide +kernel
theorem dX12_plan_191 : decode cX12_plan 191 = .ok (.iload 4, 2) := by decide +kernel
theorem dX12_plan_193 : decode cX12_plan 193 = .ok (.iconst 1, 1) := by decide +kernel
theorem dX12_plan_194 : decode cX12_plan 194 = .ok (.if_icmp .ne 10, 3) := by decide +kernel
theorem dX12_plan_197 : decode cX12_plan 197 = .ok (.aload_n 0, 1) := by decide +kernel
theorem dX12_plan_198 : decode cX12_plan 198 = .ok (.getfield 354, 3) := by decide +kernel
theorem dX12_plan_201 : decode cX12_plan 201 = .ok (.goto 7, 3) := by decide +kernel
theorem dX12_plan_204 : decode cX12_plan 204 = .ok (.aload_n 0, 1) := by decide +kernel
theorem dX12_plan_205 : decode cX12_plan 205 = .ok (.getfield 357, 3) := by decide +kernel
theorem dX12_plan_208 : decode cX12_plan 208 = .ok (.ireturn, 1) := by decide +kernel
theorem rX12_plan : (∀ (d : Nat) (a0 a2 a3 a4 a5 a6 : Value) (x : Int32) (st : List Value) (h : fk_H), fk_ev d qX12_plan 0 [a0, .int x, a2, a3, a4, a5, a6] st h = fk_ev d qX12_plan 1 [a0, .int x, a2, a3, a4, a5, a6] (.int x :: st) h) ∧
  (∀ (d : Nat) (L : List Value) (x0 : Int32)  (h : fk_H), fk_ev (d + 1) qX12_plan 1 L (.int x0 :: []) h = (fk_ev d qX12_isOne 0 [.int x0] [] h).bind fun o => fk_ev (d + 1) qX12_plan 4 L (o.1.toList ++ []) o.2) ∧
  (∀ (d : Nat) (L : List Value) (x : Int32) (st : List Value) (h : fk_H), fk_ev d qX12_plan 4 L (.int x :: st) h = if x = nI 0 then fk_ev d qX12_plan 75 L st h else fk_ev d qX12_plan 7 L st h) ∧
  (∀ (d : Nat) (a0 a1 a3 a4 a5 a6 : Value) (x : Int32) (st : List Value) (h : fk_H), fk_ev d qX12_plan 7 [a0, a1, .int x, a3, a4, a5, a6] st h = fk_ev d qX12_plan 8 [a0, a1, .int x, a3, a4, a5, a6] (.int x :: st) h) ∧
  (∀ (d : Nat) (L st : List Value) (h : fk_H), fk_ev d qX12_plan 8 L st h = fk_ev d qX12_plan 9 L (.int (nI 0) :: st) h) ∧
  (∀ (d : Nat) (L st : List Value) (h : fk_H), fk_ev d qX12_plan 9 L st h = fk_ev d qX12_plan 12 L (.int (nI 65535) :: st) h) ∧
  (∀ (d : Nat) (L : List Value) (x0 : Int32) (x1 : Int32) (x2 : Int32)  (h : fk_H), fk_ev (d + 1) qX12_plan 12 L (.int x2 :: .int x1 :: .int x0 :: []) h = (fk_ev d qX12_in 0 [.int x0, .int x1, .int x2] [] h).bind fun o => fk_ev (d + 1) qX12_plan 15 L (o.1.toList ++ []) o.2) ∧
  (∀ (d : Nat) (L : List Value) (x : Int32) (st : List Value) (h : fk_H), fk_ev d qX12_plan 15 L (.int x :: st) h = if x = nI 0 then fk_ev d qX12_plan 75 L st h else fk_ev d qX12_plan 18 L st h) ∧
  (∀ (d : Nat) (a0 a1 a2 a4 a5 a6 : Value) (x : Int32) (st : List Value) (h : fk_H), fk_ev d qX12_plan 18 [a0, a1, a2, .int x, a4, a5, a6] st h = fk_ev d qX12_plan 19 [a0, a1, a2, .int x, a4, a5, a6] (.int x :: st) h) ∧
  (∀ (d : Nat) (L st : List Value) (h : fk_H), fk_ev d qX12_plan 19 L st h = fk_ev d qX12_plan 20 L (.int (nI 1) :: st) h) ∧
  (∀ (d : Nat) (L st : List Value) (h : fk_H), fk_ev d qX12_plan 20 L st h = fk_ev d qX12_plan 22 L (.int (nI 48) :: st) h) ∧
  (∀ (d : Nat) (L : List Value) (x0 : Int32) (x1 : Int32) (x2 : Int32)  (h : fk_H), fk_ev (d + 1) qX12_plan 22 L (.int x2 :: .int x1 :: .int x0 :: []) h = (fk_ev d qX12_in 0 [.int x0, .int x1, .int x2] [] h).bind fun o => fk_ev (d + 1) qX12_plan 25 L (o.1.toList ++ []) o.2) ∧
  (∀ (d : Nat) (L : List Value) (x : Int32) (st : List Value) (h : fk_H), fk_ev d qX12_plan 25 L (.int x :: st) h = if x = nI 0 then fk_ev d qX12_plan 75 L st h else fk_ev d qX12_plan 28 L st h) ∧
  (∀ (d : Nat) (a0 a1 a2 a3 a5 a6 : Value) (x : Int32) (st : List Value) (h : fk_H), fk_ev d qX12_plan 28 [a0, a1, a2, a3, .int x, a5, a6] st h = fk_ev d qX12_plan 30 [a0, a1, a2, a3, .int x, a5, a6] (.int x :: st) h) ∧
  (∀ (d : Nat) (L st : List Value) (h : fk_H), fk_ev d qX12_plan 30 L st h = fk_ev d qX12_plan 31 L (.int (nI 0) :: st) h) ∧
  (∀ (d : Nat) (L st : List Value) (h : fk_H), fk_ev d qX12_plan 31 L st h = fk_ev d qX12_plan 32 L (.int (nI 2) :: st) h) ∧
  (∀ (d : Nat) (L : List Value) (x0 : Int32) (x1 : Int32) (x2 : Int32)  (h : fk_H), fk_ev (d + 1) qX12_plan 32 L (.int x2 :: .int x1 :: .int x0 :: []) h = (fk_ev d qX12_in 0 [.int x0, .int x1, .int x2] [] h).bind fun o => fk_ev (d + 1) qX12_plan 35 L (o.1.toList ++ []) o.2) ∧
  (∀ (d : Nat) (L : List Value) (x : Int32) (st : List Value) (h : fk_H), fk_ev d qX12_plan 35 L (.int x :: st) h = if x = nI 0 then fk_ev d qX12_plan 75 L st h else fk_ev d qX12_plan 38 L st h) ∧
  (∀ (d : Nat) (a1 a2 a3 a4 a5 a6 : Value) (x : Nat) (st : List Value) (h : fk_H), fk_ev d qX12_plan 38 [.ref x, a1, a2, a3, a4, a5, a6] st h = fk_ev d qX12_plan 39 [.ref x, a1, a2, a3, a4, a5, a6] (.ref x :: st) h) ∧
  (∀ (d : Nat) (L st : List Value) (N : Nat) (y : Nat → Nat → Int32) (l : Nat → Nat → Int64), fk_ev d qX12_plan 39 L (.ref 246 :: st) (fk_E N y l) = fk_ev d qX12_plan 42 L (.ref 247 :: st) (fk_E N y l)) ∧
  (∀ (d : Nat) (L st : List Value) (h : fk_H), fk_ev d qX12_plan 42 L st h = fk_ev d qX12_plan 45 L (.int (nI 832) :: st) h) ∧
  (∀ (d : Nat) (L st : List Value) (N : Nat) (y : Nat → Nat → Int32) (l : Nat → Nat → Int64) (i : Nat), i < 3912 → fk_ev d qX12_plan 45 L (.int (nI i) :: .ref 247 :: st) (fk_E N y l) = fk_ev d qX12_plan 46 L (.int (y 247 i) :: st) (fk_E N y l)) ∧
  (∀ (d : Nat) (a0 a1 a2 a4 a5 a6 : Value) (x : Int32) (st : List Value) (h : fk_H), fk_ev d qX12_plan 46 [a0, a1, a2, .int x, a4, a5, a6] st h = fk_ev d qX12_plan 47 [a0, a1, a2, .int x, a4, a5, a6] (.int x :: st) h) ∧
  (∀ (d : Nat) (L : List Value) (x y : Int32) (st : List Value) (h : fk_H), fk_ev d qX12_plan 47 L (.int y :: .int x :: st) h = fk_ev d qX12_plan 48 L (.int (x + y) :: st) h) ∧
  (∀ (d : Nat) (L st : List Value) (h : fk_H), fk_ev d qX12_plan 48 L st h = fk_ev d qX12_plan 51 L (.int (nI 999) :: st) h) ∧
  (∀ (d : Nat) (L : List Value) (x y : Int32) (st : List Value) (h : fk_H), fk_ev d qX12_plan 51 L (.int y :: .int x :: st) h = if y < x then fk_ev d qX12_plan 75 L st h else fk_ev d qX12_plan 54 L st h) ∧
  (∀ (d : Nat) (a1 a2 a3 a4 a5 a6 : Value) (x : Nat) (st : List Value) (h : fk_H), fk_ev d qX12_plan 54 [.ref x, a1, a2, a3, a4, a5, a6] st h = fk_ev d qX12_plan 55 [.ref x, a1, a2, a3, a4, a5, a6] (.ref x :: st) h) ∧
  (∀ (d : Nat) (a0 a2 a3 a4 a5 a6 : Value) (x : Int32) (st : List Value) (h : fk_H), fk_ev d qX12_plan 55 [a0, .int x, a2, a3, a4, a5, a6] st h = fk_ev d qX12_plan 56 [a0, .int x, a2, a3, a4, a5, a6] (.int x :: st) h) ∧
  (∀ (d : Nat) (L : List Value) (x0 : Int32)  (N : Nat) (y : Nat → Nat → Int32) (l : Nat → Nat → Int64), fk_ev (d + 1) qX12_plan 56 L (.int x0 :: .ref 246 :: []) (fk_E N y l) = (fk_ev d qX12_livingOf 0 [.ref 246, .int x0, .null, .null] [] (fk_E N y l)).bind fun o => fk_ev (d + 1) qX12_plan 59 L (o.1.toList ++ []) o.2) ∧
  (∀ (d : Nat) (L st : List Value) (h : fk_H), fk_ev d qX12_plan 59 L st h = fk_ev d qX12_plan 60 L (.int (nI 1) :: st) h) ∧
  (∀ (d : Nat) (L : List Value) (x y : Int32) (st : List Value) (h : fk_H), fk_ev d qX12_plan 60 L (.int y :: .int x :: st) h = if ¬ x = y then fk_ev d qX12_plan 75 L st h else fk_ev d qX12_plan 63 L st h) ∧
  (∀ (d : Nat) (a1 a2 a3 a4 a5 a6 : Value) (x : Nat) (st : List Value) (h : fk_H), fk_ev d qX12_plan 63 [.ref x, a1, a2, a3, a4, a5, a6] st h = fk_ev d qX12_plan 64 [.ref x, a1, a2, a3, a4, a5, a6] (.ref x :: st) h) ∧
  (∀ (d : Nat) (a1 a2 a3 a4 a5 a6 : Value) (x : Nat) (st : List Value) (h : fk_H), fk_ev d qX12_plan 64 [.ref x, a1, a2, a3, a4, a5, a6] st h = fk_ev d qX12_plan 65 [.ref x, a1, a2, a3, a4, a5, a6] (.ref x :: st) h) ∧
  (∀ (d : Nat) (a0 a2 a3 a4 a5 a6 : Value) (x : Int32) (st : List Value) (h : fk_H), fk_ev d qX12_plan 65 [a0, .int x, a2, a3, a4, a5, a6] st h = fk_ev d qX12_plan 66 [a0, .int x, a2, a3, a4, a5, a6] (.int x :: st) h) ∧
  (∀ (d : Nat) (L : List Value) (x0 : Int32) (w0 : Value) (N : Nat) (y : Nat → Nat → Int32) (l : Nat → Nat → Int64), fk_ev (d + 1) qX12_plan 66 L (.int x0 :: .ref 246 :: [w0]) (fk_E N y l) = (fk_ev d qX12_aliveOf 0 [.ref 246, .int x0, .null, .null] [] (fk_E N y l)).bind fun o => fk_ev (d + 1) qX12_plan 69 L (o.1.toList ++ [w0]) o.2) ∧
  (∀ (d : Nat) (L : List Value) (x0 : Int32)  (N : Nat) (y : Nat → Nat → Int32) (l : Nat → Nat → Int64), fk_ev (d + 1) qX12_plan 69 L (.int x0 :: .ref 246 :: []) (fk_E N y l) = (fk_ev d qX12_isAt 0 [.ref 246, .int x0] [] (fk_E N y l)).bind fun o => fk_ev (d + 1) qX12_plan 72 L (o.1.toList ++ []) o.2) ∧
  (∀ (d : Nat) (L : List Value) (x : Int32) (st : List Value) (h : fk_H), fk_ev d qX12_plan 72 L (.int x :: st) h = if ¬ x = nI 0 then fk_ev d qX12_plan 77 L st h else fk_ev d qX12_plan 75 L st h) ∧
  (∀ (d : Nat) (L st : List Value) (h : fk_H), fk_ev d qX12_plan 75 L st h = fk_ev d qX12_plan 76 L (.int ((-1 : Int32)) :: st) h) ∧
  (∀ (d : Nat) (L : List Value) (x : Int32) (h : fk_H), fk_ev d qX12_plan 76 L [.int x] h = some (some (.int x), h)) ∧
  (∀ (d : Nat) (a1 a2 a3 a4 a5 a6 : Value) (x : Nat) (st : List Value) (h : fk_H), fk_ev d qX12_plan 77 [.ref x, a1, a2, a3, a4, a5, a6] st h = fk_ev d qX12_plan 78 [.ref x, a1, a2, a3, a4, a5, a6] (.ref x :: st) h) ∧
  (∀ (d : Nat) (L : List Value)   (N : Nat) (y : Nat → Nat → Int32) (l : Nat → Nat → Int64), fk_ev (d + 1) qX12_plan 78 L (.ref 246 :: []) (fk_E N y l) = (fk_ev d qX12_forksOf 0 [.ref 246, .null, .null, .null, .null] [] (fk_E N y l)).bind fun o => fk_ev (d + 1) qX12_plan 81 L (o.1.toList ++ []) o.2) ∧
  (∀ (d : Nat) (a0 a1 a2 a3 a4 a5 a6 : Value) (x : Int32) (st : List Value) (h : fk_H), fk_ev d qX12_plan 81 [a0, a1, a2, a3, a4, a5, a6] (.int x :: st) h = fk_ev d qX12_plan 83 [a0, a1, a2, a3, a4, .int x, a6] st h) ∧
  (∀ (d : Nat) (a1 a2 a3 a4 a5 a6 : Value) (x : Nat) (st : List Value) (h : fk_H), fk_ev d qX12_plan 83 [.ref x, a1, a2, a3, a4, a5, a6] st h = fk_ev d qX12_plan 84 [.ref x, a1, a2, a3, a4, a5, a6] (.ref x :: st) h) ∧
  (∀ (d : Nat) (L st : List Value) (h : fk_H), fk_ev d qX12_plan 84 L st h = fk_ev d qX12_plan 87 L (.int (nI 1000000000) :: st) h) ∧
  (∀ (d : Nat) (L st : List Value) (N : Nat) (y : Nat → Nat → Int32) (l : Nat → Nat → Int64) (v : Int32), fk_ev d qX12_plan 87 L (.int v :: .ref 246 :: st) (fk_E N y l) = fk_ev d qX12_plan 90 L st (fk_E N (fk_u y 246 39 v) l)) ∧
  (∀ (d : Nat) (a1 a2 a3 a4 a5 a6 : Value) (x : Nat) (st : List Value) (h : fk_H), fk_ev d qX12_plan 90 [.ref x, a1, a2, a3, a4, a5, a6] st h = fk_ev d qX12_plan 91 [.ref x, a1, a2, a3, a4, a5, a6] (.ref x :: st) h) ∧
  (∀ (d : Nat) (L : List Value)   (N : Nat) (y : Nat → Nat → Int32) (l : Nat → Nat → Int64), fk_ev (d + 1) qX12_plan 91 L (.ref 246 :: []) (fk_E N y l) = (fk_ev d qX12_begins 0 [.ref 246] [] (fk_E N y l)).bind fun o => fk_ev (d + 1) qX12_plan 94 L (o.1.toList ++ []) o.2) ∧
  (∀ (d : Nat) (a1 a2 a3 a4 a5 a6 : Value) (x : Nat) (st : List Value) (h : fk_H), fk_ev d qX12_plan 94 [.ref x, a1, a2, a3, a4, a5, a6] st h = fk_ev d qX12_plan 95 [.ref x, a1, a2, a3, a4, a5, a6] (.ref x :: st) h) ∧
  (∀ (d : Nat) (a0 a2 a3 a4 a5 a6 : Value) (x : Int32) (st : List Value) (h : fk_H), fk_ev d qX12_plan 95 [a0, .int x, a2, a3, a4, a5, a6] st h = fk_ev d qX12_plan 96 [a0, .int x, a2, a3, a4, a5, a6] (.int x :: st) h) ∧
  (∀ (d : Nat) (L st : List Value) (N : Nat) (y : Nat → Nat → Int32) (l : Nat → Nat → Int64) (v : Int32), fk_ev d qX12_plan 96 L (.int v :: .ref 246 :: st) (fk_E N y l) = fk_ev d qX12_plan 99 L st (fk_E N (fk_u y 246 33 v) l)) ∧
  (∀ (d : Nat) (a1 a2 a3 a4 a5 a6 : Value) (x : Nat) (st : List Value) (h : fk_H), fk_ev d qX12_plan 99 [.ref x, a1, a2, a3, a4, a5, a6] st h = fk_ev d qX12_plan 100 [.ref x, a1, a2, a3, a4, a5, a6] (.ref x :: st) h) ∧
  (∀ (d : Nat) (L st : List Value) (h : fk_H), fk_ev d qX12_plan 100 L st h = fk_ev d qX12_plan 101 L (.int (nI 1) :: st) h) ∧
  (∀ (d : Nat) (L st : List Value) (N : Nat) (y : Nat → Nat → Int32) (l : Nat → Nat → Int64), fk_ev d qX12_plan 101 L (.int (nI 0) :: .ref 246 :: st) (fk_E N y l) = fk_ev d qX12_plan 104 L st (fk_E N (fk_u y 246 36 (nI 0)) l)) ∧
  (∀ (d : Nat) (L st : List Value) (N : Nat) (y : Nat → Nat → Int32) (l : Nat → Nat → Int64), fk_ev d qX12_plan 101 L (.int (nI 1) :: .ref 246 :: st) (fk_E N y l) = fk_ev d qX12_plan 104 L st (fk_E N (fk_u y 246 36 (nI 1)) l)) ∧
  (∀ (d : Nat) (L st : List Value) (N : Nat) (y : Nat → Nat → Int32) (l : Nat → Nat → Int64) (v : Int32), (v = nI 0 ∨ v = nI 1) → fk_ev d qX12_plan 101 L (.int v :: .ref 246 :: st) (fk_E N y l) = fk_ev d qX12_plan 104 L st (fk_E N (fk_u y 246 36 v) l)) ∧
  (∀ (d : Nat) (L st : List Value) (h : fk_H), fk_ev d qX12_plan 104 L st h = fk_ev d qX12_plan 105 L (.int (nI 0) :: st) h) ∧
  (∀ (d : Nat) (a0 a1 a2 a3 a4 a5 a6 : Value) (x : Int32) (st : List Value) (h : fk_H), fk_ev d qX12_plan 105 [a0, a1, a2, a3, a4, a5, a6] (.int x :: st) h = fk_ev d qX12_plan 107 [a0, a1, a2, a3, a4, a5, .int x] st h) ∧
  (∀ (d : Nat) (a0 a1 a2 a3 a4 a6 : Value) (x : Int32) (st : List Value) (h : fk_H), fk_ev d qX12_plan 109 [a0, a1, a2, a3, a4, .int x, a6] st h = fk_ev d qX12_plan 111 [a0, a1, a2, a3, a4, .int x, a6] (.int x :: st) h) ∧
  (∀ (d : Nat) (L : List Value) (x y : Int32) (st : List Value) (h : fk_H), fk_ev d qX12_plan 111 L (.int y :: .int x :: st) h = if y < x then fk_ev d qX12_plan 150 L st h else fk_ev d qX12_plan 114 L st h) ∧
  (∀ (d : Nat) (a0 a1 a2 a3 a4 a5 : Value) (x : Int32) (st : List Value) (h : fk_H), fk_ev d qX12_plan 114 [a0, a1, a2, a3, a4, a5, .int x] st h = fk_ev d qX12_plan 116 [a0, a1, a2, a3, a4, a5, .int x] (.int x :: st) h) ∧
  (∀ (d : Nat) (a0 a1 a2 a3 a4 a6 : Value) (x : Int32) (st : List Value) (h : fk_H), fk_ev d qX12_plan 116 [a0, a1, a2, a3, a4, .int x, a6] st h = fk_ev d qX12_plan 118 [a0, a1, a2, a3, a4, .int x, a6] (.int x :: st) h) ∧
  (∀ (d : Nat) (L st : List Value) (h : fk_H), fk_ev d qX12_plan 118 L st h = fk_ev d qX12_plan 119 L (.int ((-1 : Int32)) :: st) h) ∧
  (∀ (d : Nat) (L : List Value) (x y : Int32) (st : List Value) (h : fk_H), fk_ev d qX12_plan 119 L (.int y :: .int x :: st) h = fk_ev d qX12_plan 120 L (.int (x ^^^ y) :: st) h) ∧
  (∀ (d : Nat) (L : List Value) (x y : Int32) (st : List Value) (h : fk_H), fk_ev d qX12_plan 120 L (.int y :: .int x :: st) h = fk_ev d qX12_plan 121 L (.int (x &&& y) :: st) h) ∧
  (∀ (d : Nat) (L : List Value) (x : Int32) (st : List Value) (h : fk_H), fk_ev d qX12_plan 121 L (.int x :: st) h = if x = nI 0 then fk_ev d qX12_plan 127 L st h else fk_ev d qX12_plan 124 L st h) ∧
  (∀ (d : Nat) (L st : List Value) (h : fk_H), fk_ev d qX12_plan 124 L st h = fk_ev d qX12_plan 144 L st h) ∧
  (∀ (d : Nat) (a1 a2 a3 a4 a5 a6 : Value) (x : Nat) (st : List Value) (h : fk_H), fk_ev d qX12_plan 127 [.ref x, a1, a2, a3, a4, a5, a6] st h = fk_ev d qX12_plan 128 [.ref x, a1, a2, a3, a4, a5, a6] (.ref x :: st) h) ∧
  (∀ (d : Nat) (a0 a1 a2 a3 a4 a5 : Value) (x : Int32) (st : List Value) (h : fk_H), fk_ev d qX12_plan 128 [a0, a1, a2, a3, a4, a5, .int x] st h = fk_ev d qX12_plan 130 [a0, a1, a2, a3, a4, a5, .int x] (.int x :: st) h) ∧
  (∀ (d : Nat) (L st : List Value) (N : Nat) (y : Nat → Nat → Int32) (l : Nat → Nat → Int64) (v : Int32), fk_ev d qX12_plan 130 L (.int v :: .ref 246 :: st) (fk_E N y l) = fk_ev d qX12_plan 133 L st (fk_E N (fk_u y 246 34 v) l)) ∧
  (∀ (d : Nat) (a1 a2 a3 a4 a5 a6 : Value) (x : Nat) (st : List Value) (h : fk_H), fk_ev d qX12_plan 133 [.ref x, a1, a2, a3, a4, a5, a6] st h = fk_ev d qX12_plan 134 [.ref x, a1, a2, a3, a4, a5, a6] (.ref x :: st) h) ∧
  (∀ (d : Nat) (L : List Value)   (N : Nat) (y : Nat → Nat → Int32) (l : Nat → Nat → Int64), fk_ev (d + 1) qX12_plan 134 L (.ref 246 :: []) (fk_E N y l) = (fk_ev d qX12_again 0 [.ref 246] [] (fk_E N y l)).bind fun o => fk_ev (d + 1) qX12_plan 137 L (o.1.toList ++ []) o.2) ∧
  (∀ (d : Nat) (a1 a2 a3 a4 a5 a6 : Value) (x : Nat) (st : List Value) (h : fk_H), fk_ev d qX12_plan 137 [.ref x, a1, a2, a3, a4, a5, a6] st h = fk_ev d qX12_plan 138 [.ref x, a1, a2, a3, a4, a5, a6] (.ref x :: st) h) ∧
  (∀ (d : Nat) (a0 a2 a3 a4 a5 a6 : Value) (x : Int32) (st : List Value) (h : fk_H), fk_ev d qX12_plan 138 [a0, .int x, a2, a3, a4, a5, a6] st h = fk_ev d qX12_plan 139 [a0, .int x, a2, a3, a4, a5, a6] (.int x :: st) h) ∧
  (∀ (d : Nat) (a0 a1 a3 a4 a5 a6 : Value) (x : Int32) (st : List Value) (h : fk_H), fk_ev d qX12_plan 139 [a0, a1, .int x, a3, a4, a5, a6] st h = fk_ev d qX12_plan 140 [a0, a1, .int x, a3, a4, a5, a6] (.int x :: st) h) ∧
  (∀ (d : Nat) (a0 a1 a2 a4 a5 a6 : Value) (x : Int32) (st : List Value) (h : fk_H), fk_ev d qX12_plan 140 [a0, a1, a2, .int x, a4, a5, a6] st h = fk_ev d qX12_plan 141 [a0, a1, a2, .int x, a4, a5, a6] (.int x :: st) h) ∧
  (∀ (d : Nat) (L : List Value) (x0 : Int32) (x1 : Int32) (x2 : Int32)  (N : Nat) (y : Nat → Nat → Int32) (l : Nat → Nat → Int64), fk_ev (d + 1) qX12_plan 141 L (.int x2 :: .int x1 :: .int x0 :: .ref 246 :: []) (fk_E N y l) = (fk_ev d qX12_triesPlan 0 [.ref 246, .int x0, .int x1, .int x2, .null, .null] [] (fk_E N y l)).bind fun o => fk_ev (d + 1) qX12_plan 144 L (o.1.toList ++ []) o.2) ∧
  (∀ (d : Nat) (a0 a1 a2 a3 a4 a5 : Value) (x : Int32) (st : List Value) (h : fk_H), fk_ev d qX12_plan 144 [a0, a1, a2, a3, a4, a5, .int x] st h = fk_ev d qX12_plan 147 [a0, a1, a2, a3, a4, a5, .int (x + nI 1)] st h) ∧
  (∀ (d : Nat) (L st : List Value) (h : fk_H), fk_ev d qX12_plan 147 L st h = fk_ev d qX12_plan 107 L st h) ∧
  (∀ (d : Nat) (a1 a2 a3 a4 a5 a6 : Value) (x : Nat) (st : List Value) (h : fk_H), fk_ev d qX12_plan 150 [.ref x, a1, a2, a3, a4, a5, a6] st h = fk_ev d qX12_plan 151 [.ref x, a1, a2, a3, a4, a5, a6] (.ref x :: st) h) ∧
  (∀ (d : Nat) (L : List Value)   (N : Nat) (y : Nat → Nat → Int32) (l : Nat → Nat → Int64), fk_ev (d + 1) qX12_plan 151 L (.ref 246 :: []) (fk_E N y l) = (fk_ev d qX12_again 0 [.ref 246] [] (fk_E N y l)).bind fun o => fk_ev (d + 1) qX12_plan 154 L (o.1.toList ++ []) o.2) ∧
  (∀ (d : Nat) (a1 a2 a3 a4 a5 a6 : Value) (x : Nat) (st : List Value) (h : fk_H), fk_ev d qX12_plan 154 [.ref x, a1, a2, a3, a4, a5, a6] st h = fk_ev d qX12_plan 155 [.ref x, a1, a2, a3, a4, a5, a6] (.ref x :: st) h) ∧
  (∀ (d : Nat) (L st : List Value) (h : fk_H), fk_ev d qX12_plan 155 L st h = fk_ev d qX12_plan 156 L (.int ((-1 : Int32)) :: st) h) ∧
  (∀ (d : Nat) (L st : List Value) (N : Nat) (y : Nat → Nat → Int32) (l : Nat → Nat → Int64) (v : Int32), fk_ev d qX12_plan 156 L (.int v :: .ref 246 :: st) (fk_E N y l) = fk_ev d qX12_plan 159 L st (fk_E N (fk_u y 246 33 v) l)) ∧
  (∀ (d : Nat) (a1 a2 a3 a4 a5 a6 : Value) (x : Nat) (st : List Value) (h : fk_H), fk_ev d qX12_plan 159 [.ref x, a1, a2, a3, a4, a5, a6] st h = fk_ev d qX12_plan 160 [.ref x, a1, a2, a3, a4, a5, a6] (.ref x :: st) h) ∧
  (∀ (d : Nat) (L st : List Value) (h : fk_H), fk_ev d qX12_plan 160 L st h = fk_ev d qX12_plan 161 L (.int (nI 0) :: st) h) ∧
  (∀ (d : Nat) (L st : List Value) (N : Nat) (y : Nat → Nat → Int32) (l : Nat → Nat → Int64), fk_ev d qX12_plan 161 L (.int (nI 0) :: .ref 246 :: st) (fk_E N y l) = fk_ev d qX12_plan 164 L st (fk_E N (fk_u y 246 36 (nI 0)) l)) ∧
  (∀ (d : Nat) (L st : List Value) (N : Nat) (y : Nat → Nat → Int32) (l : Nat → Nat → Int64), fk_ev d qX12_plan 161 L (.int (nI 1) :: .ref 246 :: st) (fk_E N y l) = fk_ev d qX12_plan 164 L st (fk_E N (fk_u y 246 36 (nI 1)) l)) ∧
  (∀ (d : Nat) (L st : List Value) (N : Nat) (y : Nat → Nat → Int32) (l : Nat → Nat → Int64) (v : Int32), (v = nI 0 ∨ v = nI 1) → fk_ev d qX12_plan 161 L (.int v :: .ref 246 :: st) (fk_E N y l) = fk_ev d qX12_plan 164 L st (fk_E N (fk_u y 246 36 v) l)) ∧
  (∀ (d : Nat) (a1 a2 a3 a4 a5 a6 : Value) (x : Nat) (st : List Value) (h : fk_H), fk_ev d qX12_plan 164 [.ref x, a1, a2, a3, a4, a5, a6] st h = fk_ev d qX12_plan 165 [.ref x, a1, a2, a3, a4, a5, a6] (.ref x :: st) h) ∧
  (∀ (d : Nat) (L st : List Value) (N : Nat) (y : Nat → Nat → Int32) (l : Nat → Nat → Int64), fk_ev d qX12_plan 165 L (.ref 246 :: st) (fk_E N y l) = fk_ev d qX12_plan 168 L (.int (y 246 39) :: st) (fk_E N y l)) ∧
  (∀ (d : Nat) (L st : List Value) (h : fk_H), fk_ev d qX12_plan 168 L st h = fk_ev d qX12_plan 171 L (.int (nI 1000000000) :: st) h) ∧
  (∀ (d : Nat) (L : List Value) (x y : Int32) (st : List Value) (h : fk_H), fk_ev d qX12_plan 171 L (.int y :: .int x :: st) h = if ¬ x = y then fk_ev d qX12_plan 179 L st h else fk_ev d qX12_plan 174 L st h) ∧
  (∀ (d : Nat) (L st : List Value) (h : fk_H), fk_ev d qX12_plan 174 L st h = fk_ev d qX12_plan 176 L (.int ((-2 : Int32)) :: st) h) ∧
  (∀ (d : Nat) (L st : List Value) (h : fk_H), fk_ev d qX12_plan 176 L st h = fk_ev d qX12_plan 208 L st h) ∧
  (∀ (d : Nat) (a0 a1 a2 a3 a5 a6 : Value) (x : Int32) (st : List Value) (h : fk_H), fk_ev d qX12_plan 179 [a0, a1, a2, a3, .int x, a5, a6] st h = fk_ev d qX12_plan 181 [a0, a1, a2, a3, .int x, a5, a6] (.int x :: st) h) ∧
  (∀ (d : Nat) (L : List Value) (x : Int32) (st : List Value) (h : fk_H), fk_ev d qX12_plan 181 L (.int x :: st) h = if ¬ x = nI 0 then fk_ev d qX12_plan 191 L st h else fk_ev d qX12_plan 184 L st h) ∧
  (∀ (d : Nat) (a1 a2 a3 a4 a5 a6 : Value) (x : Nat) (st : List Value) (h : fk_H), fk_ev d qX12_plan 184 [.ref x, a1, a2, a3, a4, a5, a6] st h = fk_ev d qX12_plan 185 [.ref x, a1, a2, a3, a4, a5, a6] (.ref x :: st) h) ∧
  (∀ (d : Nat) (L st : List Value) (N : Nat) (y : Nat → Nat → Int32) (l : Nat → Nat → Int64), fk_ev d qX12_plan 185 L (.ref 246 :: st) (fk_E N y l) = fk_ev d qX12_plan 188 L (.int (y 246 39) :: st) (fk_E N y l)) ∧
  (∀ (d : Nat) (L st : List Value) (h : fk_H), fk_ev d qX12_plan 188 L st h = fk_ev d qX12_plan 208 L st h) ∧
  (∀ (d : Nat) (a0 a1 a2 a3 a5 a6 : Value) (x : Int32) (st : List Value) (h : fk_H), fk_ev d qX12_plan 191 [a0, a1, a2, a3, .int x, a5, a6] st h = fk_ev d qX12_plan 193 [a0, a1, a2, a3, .int x, a5, a6] (.int x :: st) h) ∧
  (∀ (d : Nat) (L st : List Value) (h : fk_H), fk_ev d qX12_plan 193 L st h = fk_ev d qX12_plan 194 L (.int (nI 1) :: st) h) ∧
  (∀ (d : Nat) (L : List Value) (x y : Int32) (st : List Value) (h : fk_H), fk_ev d qX12_plan 194 L (.int y :: .int x :: st) h = if ¬ x = y then fk_ev d qX12_plan 204 L st h else fk_ev d qX12_plan 197 L st h) ∧
  (∀ (d : Nat) (a1 a2 a3 a4 a5 a6 : Value) (x : Nat) (st : List Value) (h : fk_H), fk_ev d qX12_plan 197 [.ref x, a1, a2, a3, a4, a5, a6] st h = fk_ev d qX12_plan 198 [.ref x, a1, a2, a3, a4, a5, a6] (.ref x :: st) h) ∧
  (∀ (d : Nat) (L st : List Value) (N : Nat) (y : Nat → Nat → Int32) (l : Nat → Nat → Int64), fk_ev d qX12_plan 198 L (.ref 246 :: st) (fk_E N y l) = fk_ev d qX12_plan 201 L (.int (y 246 40) :: st) (fk_E N y l)) ∧
  (∀ (d : Nat) (L st : List Value) (h : fk_H), fk_ev d qX12_plan 201 L st h = fk_ev d qX12_plan 208 L st h) ∧
  (∀ (d : Nat) (a1 a2 a3 a4 a5 a6 : Value) (x : Nat) (st : List Value) (h : fk_H), fk_ev d qX12_plan 204 [.ref x, a1, a2, a3, a4, a5, a6] st h = fk_ev d qX12_plan 205 [.ref x, a1, a2, a3, a4, a5, a6] (.ref x :: st) h) ∧
  (∀ (d : Nat) (L st : List Value) (N : Nat) (y : Nat → Nat → Int32) (l : Nat → Nat → Int64), fk_ev d qX12_plan 205 L (.ref 246 :: st) (fk_E N y l) = fk_ev d qX12_plan 208 L (.int (y 246 41) :: st) (fk_E N y l)) ∧
  (∀ (d : Nat) (L : List Value) (x : Int32) (h : fk_H), fk_ev d qX12_plan 208 L [.int x] h = some (some (.int x), h)) := ⟨fun d a0 a2 a3 a4 a5 a6 x st h => fk_w_iloadn 1 [a0, .int x, a2, a3, a4, a5, a6] dX12_plan_0 rfl,
  fun d L x0 h => fk_g_calls [.int x0] [] rfl lm_12_132 dX12_plan_1 rfl ⟨rfl, by decide⟩ (by simp),
  fun d L x st h => fk_r_if_eq dX12_plan_4 (by decide),
  fun d a0 a1 a3 a4 a5 a6 x st h => fk_w_iloadn 2 [a0, a1, .int x, a3, a4, a5, a6] dX12_plan_7 rfl,
  fun d L st h => fk_w_iconst dX12_plan_8 (by decide),
  fun d L st h => fk_g_ldcw rfl lc_12_360 (by decide) dX12_plan_9,
  fun d L x0 x1 x2 h => fk_g_calls [.int x0, .int x1, .int x2] [] rfl lm_12_112 dX12_plan_12 rfl ⟨rfl, by decide⟩ (by simp),
  fun d L x st h => fk_r_if_eq dX12_plan_15 (by decide),
  fun d a0 a1 a2 a4 a5 a6 x st h => fk_w_iloadn 3 [a0, a1, a2, .int x, a4, a5, a6] dX12_plan_18 rfl,
  fun d L st h => fk_w_iconst dX12_plan_19 (by decide),
  fun d L st h => fk_w_bipush dX12_plan_20 (by decide),
  fun d L x0 x1 x2 h => fk_g_calls [.int x0, .int x1, .int x2] [] rfl lm_12_112 dX12_plan_22 rfl ⟨rfl, by decide⟩ (by simp),
  fun d L x st h => fk_r_if_eq dX12_plan_25 (by decide),
  fun d a0 a1 a2 a3 a5 a6 x st h => fk_w_iload 4 [a0, a1, a2, a3, .int x, a5, a6] dX12_plan_28 rfl,
  fun d L st h => fk_w_iconst dX12_plan_30 (by decide),
  fun d L st h => fk_w_iconst dX12_plan_31 (by decide),
  fun d L x0 x1 x2 h => fk_g_calls [.int x0, .int x1, .int x2] [] rfl lm_12_112 dX12_plan_32 rfl ⟨rfl, by decide⟩ (by simp),
  fun d L x st h => fk_r_if_eq dX12_plan_35 (by decide),
  fun d a1 a2 a3 a4 a5 a6 x st h => fk_w_aloadn 0 [.ref x, a1, a2, a3, a4, a5, a6] dX12_plan_38 rfl,
  fun d L st N y l => fk_g_getC rfl lf_12_7 (by decide) rfl dX12_plan_39 fk_at_246,
  fun d L st h => fk_w_sipush dX12_plan_42 (by decide),
  fun d L st N y l i hi => fk_g_iald fk_at_247 fk_ln_247 (by decide) dX12_plan_45 hi,
  fun d a0 a1 a2 a4 a5 a6 x st h => fk_w_iloadn 3 [a0, a1, a2, .int x, a4, a5, a6] dX12_plan_46 rfl,
  fun d L x y st h => fk_r_iadd dX12_plan_47,
  fun d L st h => fk_w_sipush dX12_plan_48 (by decide),
  fun d L x y st h => fk_r_icmp_gt dX12_plan_51 (by decide),
  fun d a1 a2 a3 a4 a5 a6 x st h => fk_w_aloadn 0 [.ref x, a1, a2, a3, a4, a5, a6] dX12_plan_54 rfl,
  fun d a0 a2 a3 a4 a5 a6 x st h => fk_w_iloadn 1 [a0, .int x, a2, a3, a4, a5, a6] dX12_plan_55 rfl,
  fun d L x0 N y l  => fk_g_call [.int x0] [] rfl lm_12_135 dX12_plan_56 rfl ⟨rfl, by decide⟩ (by simp) fk_at_246,
  fun d L st h => fk_w_iconst dX12_plan_59 (by decide),
  fun d L x y st h => fk_r_icmp_ne dX12_plan_60 (by decide),
  fun d a1 a2 a3 a4 a5 a6 x st h => fk_w_aloadn 0 [.ref x, a1, a2, a3, a4, a5, a6] dX12_plan_63 rfl,
  fun d a1 a2 a3 a4 a5 a6 x st h => fk_w_aloadn 0 [.ref x, a1, a2, a3, a4, a5, a6] dX12_plan_64 rfl,
  fun d a0 a2 a3 a4 a5 a6 x st h => fk_w_iloadn 1 [a0, .int x, a2, a3, a4, a5, a6] dX12_plan_65 rfl,
  fun d L x0 w0 N y l  => fk_g_call [.int x0] [w0] rfl lm_12_348 dX12_plan_66 rfl ⟨rfl, by decide⟩ (by simp) fk_at_246,
  fun d L x0 N y l  => fk_g_call [.int x0] [] rfl lm_12_269 dX12_plan_69 rfl ⟨rfl, by decide⟩ (by simp) fk_at_246,
  fun d L x st h => fk_r_if_ne dX12_plan_72 (by decide),
  fun d L st h => fk_w_iconst dX12_plan_75 (by decide),
  fun d L x h => fk_r_ret dX12_plan_76 (Or.inl rfl),
  fun d a1 a2 a3 a4 a5 a6 x st h => fk_w_aloadn 0 [.ref x, a1, a2, a3, a4, a5, a6] dX12_plan_77 rfl,
  fun d L  N y l  => fk_g_call [] [] rfl lm_12_361 dX12_plan_78 rfl ⟨rfl, by decide⟩ (by simp) fk_at_246,
  fun d a0 a1 a2 a3 a4 a5 a6 x st h => fk_w_istore 5 7 [] [a0, a1, a2, a3, a4, a5, a6] [a0, a1, a2, a3, a4, .int x, a6] dX12_plan_81 rfl rfl (by decide) rfl,
  fun d a1 a2 a3 a4 a5 a6 x st h => fk_w_aloadn 0 [.ref x, a1, a2, a3, a4, a5, a6] dX12_plan_83 rfl,
  fun d L st h => fk_g_ldcw rfl lc_12_364 (by decide) dX12_plan_84,
  fun d L st N y l v => fk_g_putI rfl lf_12_351 (by decide) dX12_plan_87 rfl fk_at_246,
  fun d a1 a2 a3 a4 a5 a6 x st h => fk_w_aloadn 0 [.ref x, a1, a2, a3, a4, a5, a6] dX12_plan_90 rfl,
  fun d L  N y l  => fk_g_call [] [] rfl lm_12_331 dX12_plan_91 rfl ⟨rfl, by decide⟩ (by simp) fk_at_246,
  fun d a1 a2 a3 a4 a5 a6 x st h => fk_w_aloadn 0 [.ref x, a1, a2, a3, a4, a5, a6] dX12_plan_94 rfl,
  fun d a0 a2 a3 a4 a5 a6 x st h => fk_w_iloadn 1 [a0, .int x, a2, a3, a4, a5, a6] dX12_plan_95 rfl,
  fun d L st N y l v => fk_g_putI rfl lf_12_97 (by decide) dX12_plan_96 rfl fk_at_246,
  fun d a1 a2 a3 a4 a5 a6 x st h => fk_w_aloadn 0 [.ref x, a1, a2, a3, a4, a5, a6] dX12_plan_99 rfl,
  fun d L st h => fk_w_iconst dX12_plan_100 (by decide),
  fun d L st N y l => fk_g_putI rfl lf_12_281 (by decide) dX12_plan_101 rfl fk_at_246,
  fun d L st N y l => fk_g_putI rfl lf_12_281 (by decide) dX12_plan_101 rfl fk_at_246,
  fun d L st N y l v hv => fk_g_putI rfl lf_12_281 (by decide) dX12_plan_101 (by rcases hv with rfl | rfl <;> rfl) fk_at_246,
  fun d L st h => fk_w_iconst dX12_plan_104 (by decide),
  fun d a0 a1 a2 a3 a4 a5 a6 x st h => fk_w_istore 6 7 [] [a0, a1, a2, a3, a4, a5, a6] [a0, a1, a2, a3, a4, a5, .int x] dX12_plan_105 rfl rfl (by decide) rfl,
  fun d a0 a1 a2 a3 a4 a6 x st h => fk_w_iload 5 [a0, a1, a2, a3, a4, .int x, a6] dX12_plan_109 rfl,
  fun d L x y st h => fk_r_icmp_gt dX12_plan_111 (by decide),
  fun d a0 a1 a2 a3 a4 a5 x st h => fk_w_iload 6 [a0, a1, a2, a3, a4, a5, .int x] dX12_plan_114 rfl,
  fun d a0 a1 a2 a3 a4 a6 x st h => fk_w_iload 5 [a0, a1, a2, a3, a4, .int x, a6] dX12_plan_116 rfl,
  fun d L st h => fk_w_iconst dX12_plan_118 (by decide),
  fun d L x y st h => fk_r_ixor dX12_plan_119,
  fun d L x y st h => fk_r_iand dX12_plan_120,
  fun d L x st h => fk_r_if_eq dX12_plan_121 (by decide),
  fun d L st h => fk_r_goto dX12_plan_124 (by decide),
  fun d a1 a2 a3 a4 a5 a6 x st h => fk_w_aloadn 0 [.ref x, a1, a2, a3, a4, a5, a6] dX12_plan_127 rfl,
  fun d a0 a1 a2 a3 a4 a5 x st h => fk_w_iload 6 [a0, a1, a2, a3, a4, a5, .int x] dX12_plan_128 rfl,
  fun d L st N y l v => fk_g_putI rfl lf_12_286 (by decide) dX12_plan_130 rfl fk_at_246,
  fun d a1 a2 a3 a4 a5 a6 x st h => fk_w_aloadn 0 [.ref x, a1, a2, a3, a4, a5, a6] dX12_plan_133 rfl,
  fun d L  N y l  => fk_g_call [] [] rfl lm_12_337 dX12_plan_134 rfl ⟨rfl, by decide⟩ (by simp) fk_at_246,
  fun d a1 a2 a3 a4 a5 a6 x st h => fk_w_aloadn 0 [.ref x, a1, a2, a3, a4, a5, a6] dX12_plan_137 rfl,
  fun d a0 a2 a3 a4 a5 a6 x st h => fk_w_iloadn 1 [a0, .int x, a2, a3, a4, a5, a6] dX12_plan_138 rfl,
  fun d a0 a1 a3 a4 a5 a6 x st h => fk_w_iloadn 2 [a0, a1, .int x, a3, a4, a5, a6] dX12_plan_139 rfl,
  fun d a0 a1 a2 a4 a5 a6 x st h => fk_w_iloadn 3 [a0, a1, a2, .int x, a4, a5, a6] dX12_plan_140 rfl,
  fun d L x0 x1 x2 N y l  => fk_g_call [.int x0, .int x1, .int x2] [] rfl lm_12_365 dX12_plan_141 rfl ⟨rfl, by decide⟩ (by simp) fk_at_246,
  fun d a0 a1 a2 a3 a4 a5 x st h => fk_w_iinc 6 7 (1) [] [a0, a1, a2, a3, a4, a5, .int x] [a0, a1, a2, a3, a4, a5, .int (x + nI 1)] dX12_plan_144 rfl rfl rfl (by decide) rfl,
  fun d L st h => fk_r_goto dX12_plan_147 (by decide),
  fun d a1 a2 a3 a4 a5 a6 x st h => fk_w_aloadn 0 [.ref x, a1, a2, a3, a4, a5, a6] dX12_plan_150 rfl,
  fun d L  N y l  => fk_g_call [] [] rfl lm_12_337 dX12_plan_151 rfl ⟨rfl, by decide⟩ (by simp) fk_at_246,
  fun d a1 a2 a3 a4 a5 a6 x st h => fk_w_aloadn 0 [.ref x, a1, a2, a3, a4, a5, a6] dX12_plan_154 rfl,
  fun d L st h => fk_w_iconst dX12_plan_155 (by decide),
  fun d L st N y l v => fk_g_putI rfl lf_12_97 (by decide) dX12_plan_156 rfl fk_at_246,
  fun d a1 a2 a3 a4 a5 a6 x st h => fk_w_aloadn 0 [.ref x, a1, a2, a3, a4, a5, a6] dX12_plan_159 rfl,
  fun d L st h => fk_w_iconst dX12_plan_160 (by decide),
  fun d L st N y l => fk_g_putI rfl lf_12_281 (by decide) dX12_plan_161 rfl fk_at_246,
  fun d L st N y l => fk_g_putI rfl lf_12_281 (by decide) dX12_plan_161 rfl fk_at_246,
  fun d L st N y l v hv => fk_g_putI rfl lf_12_281 (by decide) dX12_plan_161 (by rcases hv with rfl | rfl <;> rfl) fk_at_246,
  fun d a1 a2 a3 a4 a5 a6 x st h => fk_w_aloadn 0 [.ref x, a1, a2, a3, a4, a5, a6] dX12_plan_164 rfl,
  fun d L st N y l => fk_g_getI rfl lf_12_351 (by decide) dX12_plan_165 fk_at_246,
  fun d L st h => fk_g_ldcw rfl lc_12_364 (by decide) dX12_plan_168,
  fun d L x y st h => fk_r_icmp_ne dX12_plan_171 (by decide),
  fun d L st h => fk_w_bipush dX12_plan_174 (by decide),
  fun d L st h => fk_r_goto dX12_plan_176 (by decide),
  fun d a0 a1 a2 a3 a5 a6 x st h => fk_w_iload 4 [a0, a1, a2, a3, .int x, a5, a6] dX12_plan_179 rfl,
  fun d L x st h => fk_r_if_ne dX12_plan_181 (by decide),
  fun d a1 a2 a3 a4 a5 a6 x st h => fk_w_aloadn 0 [.ref x, a1, a2, a3, a4, a5, a6] dX12_plan_184 rfl,
  fun d L st N y l => fk_g_getI rfl lf_12_351 (by decide) dX12_plan_185 fk_at_246,
  fun d L st h => fk_r_goto dX12_plan_188 (by decide),
  fun d a0 a1 a2 a3 a5 a6 x st h => fk_w_iload 4 [a0, a1, a2, a3, .int x, a5, a6] dX12_plan_191 rfl,
  fun d L st h => fk_w_iconst dX12_plan_193 (by decide),
  fun d L x y st h => fk_r_icmp_ne dX12_plan_194 (by decide),
  fun d a1 a2 a3 a4 a5 a6 x st h => fk_w_aloadn 0 [.ref x, a1, a2, a3, a4, a5, a6] dX12_plan_197 rfl,
  fun d L st N y l => fk_g_getI rfl lf_12_354 (by decide) dX12_plan_198 fk_at_246,
  fun d L st h => fk_r_goto dX12_plan_201 (by decide),
  fun d a1 a2 a3 a4 a5 a6 x st h => fk_w_aloadn 0 [.ref x, a1, a2, a3, a4, a5, a6] dX12_plan_204 rfl,
  fun d L st N y l => fk_g_getI rfl lf_12_357 (by decide) dX12_plan_205 fk_at_246,
  fun d L x h => fk_r_ret dX12_plan_208 (Or.inl rfl)⟩
theorem hX12_plan_107 : ∀ (d : Nat) (a0 a1 a2 a3 a4 a5 : Value) (x : Int32) (st : List Value) (h : fk_H), fk_ev d qX12_plan 107 [a0, a1, a2, a3, a4, a5, .int x] st h = fk_ev d qX12_plan 109 [a0, a1, a2, a3, a4, a5, .int x] (.int x :: st) h := fun d a0 a1 a2 a3 a4 a5 x st h => fk_w_iload 6 [a0, a1, a2, a3, a4, a5, .int x] dX12_plan_107 rfl
theorem dX12_takesHalves_0 : decode cX12_takesHalves 0 = .ok (.aload_n 0, 1) := by decide +kernel
theorem dX12_takesHalves_1 : decode cX12_takesHalves 1 = .ok (.iload_n 1, 1) := by decide +kernel
theorem dX12_takesHalves_2 : decode cX12_takesHalves 2 = .ok (.putfield 369, 3) := by decide +kernel
theorem dX12_takesHalves_5 : decode cX12_takesHalves 5 = .ok (.iconst 0, 1) := by decide +kernel
theorem dX12_takesHalves_6 : decode cX12_takesHalves 6 = .ok (.istore_n 2, 1) := by decide +kernel
theorem dX12_takesHalves_7 : decode cX12_takesHalves 7 = .ok (.iload_n 2, 1) := by decide +kernel
theorem dX12_takesHalves_8 : decode cX12_takesHalves 8 = .ok (.iload_n 1, 1) := by decide +kernel
theorem dX12_takesHalves_9 : decode cX12_takesHalves 9 = .ok (.if_icmp .ge 140, 3) := by decide +kernel
theorem dX12_takesHalves_12 : decode cX12_takesHalves 12 = .ok (.aload_n 0, 1) := by decide +kernel
theorem dX12_takesHalves_13 : decode cX12_takesHalves 13 = .ok (.getfield 35, 3) := by decide +kernel
theorem dX12_takesHalves_16 : decode cX12_takesHalves 16 = .ok (.iload_n 2, 1) := by decide +kernel
theorem dX12_takesHalves_17 : decode cX12_takesHalves 17 = .ok (.baload, 1) := by decide +kernel
theorem dX12_takesHalves_18 : decode cX12_takesHalves 18 = .ok (.sipush 255, 3) := by decide +kernel
theorem dX12_takesHalves_21 : decode cX12_takesHalves 21 = .ok (.iand, 1) := by decide +kernel
theorem dX12_takesHalves_22 : decode cX12_takesHalves 22 = .ok (.istore_n 3, 1) := by decide +kernel
theorem dX12_takesHalves_23 : decode cX12_takesHalves 23 = .ok (.aload_n 0, 1) := by decide +kernel
theorem dX12_takesHalves_24 : decode cX12_takesHalves 24 = .ok (.iload_n 3, 1) := by decide +kernel
theorem dX12_takesHalves_25 : decode cX12_takesHalves 25 = .ok (.invokevirtual 129, 3) := by decide +kernel
theorem dX12_takesHalves_28 : decode cX12_takesHalves 28 = .ok (.ifCond .eq 31, 3) := by decide +kernel
theorem dX12_takesHalves_31 : decode cX12_takesHalves 31 = .ok (.aload_n 0, 1) := by decide +kernel
theorem dX12_takesHalves_32 : decode cX12_takesHalves 32 = .ok (.getfield 7, 3) := by decide +kernel
theorem dX12_takesHalves_35 : decode cX12_takesHalves 35 = .ok (.iconst 0, 1) := by decide +kernel
theorem dX12_takesHalves_36 : decode cX12_takesHalves 36 = .ok (.iload_n 3, 1) := by decide +kernel
theorem dX12_takesHalves_37 : decode cX12_takesHalves 37 = .ok (.iadd, 1) := by decide +kernel
theorem dX12_takesHalves_38 : decode cX12_takesHalves 38 = .ok (.iaload, 1) := by decide +kernel
theorem dX12_takesHalves_39 : decode cX12_takesHalves 39 = .ok (.aload_n 0, 1) := by decide +kernel
theorem dX12_takesHalves_40 : decode cX12_takesHalves 40 = .ok (.getfield 7, 3) := by decide +kernel
theorem dX12_takesHalves_43 : decode cX12_takesHalves 43 = .ok (.iconst 0, 1) := by decide +kernel
theorem dX12_takesHalves_44 : decode cX12_takesHalves 44 = .ok (.aload_n 0, 1) := by decide +kernel
theorem dX12_takesHalves_45 : decode cX12_takesHalves 45 = .ok (.getfield 35, 3) := by decide +kernel
theorem dX12_takesHalves_48 : decode cX12_takesHalves 48 = .ok (.iconst 0, 1) := by decide +kernel
theorem dX12_takesHalves_49 : decode cX12_takesHalves 49 = .ok (.baload, 1) := by decide +kernel
theorem dX12_takesHalves_50 : decode cX12_takesHalves 50 = .ok (.sipush 255, 3) := by decide +kernel
theorem dX12_takesHalves_53 : decode cX12_takesHalves 53 = .ok (.iand, 1) := by decide +kernel
theorem dX12_takesHalves_54 : decode cX12_takesHalves 54 = .ok (.iadd, 1) := by decide +kernel
theorem dX12_takesHalves_55 : decode cX12_takesHalves 55 = .ok (.iaload, 1) := by decide +kernel
theorem dX12_takesHalves_56 : decode cX12_takesHalves 56 = .ok (.if_icmp .eq 5, 3) := by decide +kernel
theorem dX12_takesHalves_59 : decode cX12_takesHalves 59 = .ok (.iconst 0, 1) := by decide +kernel
theorem dX12_takesHalves_60 : decode cX12_takesHalves 60 = .ok (.ireturn, 1) := by decide +kernel
theorem dX12_takesHalves_61 : decode cX12_takesHalves 61 = .ok (.iload_n 2, 1) := by decide +kernel
theorem dX12_takesHalves_62 : decode cX12_takesHalves 62 = .ok (.istore 4, 2) := by decide +kernel
theorem dX12_takesHalves_64 : decode cX12_takesHalves 64 = .ok (.iconst 0, 1) := by decide +kernel
theorem dX12_takesHalves_65 : decode cX12_takesHalves 65 = .ok (.istore 5, 2) := by decide +kernel
theorem dX12_takesHalves_67 : decode cX12_takesHalves 67 = .ok (.iload 5, 2) := by decide +kernel
theorem dX12_takesHalves_69 : decode cX12_takesHalves 69 = .ok (.iload_n 2, 1) := by decide +kernel
theorem dX12_takesHalves_70 : decode cX12_takesHalves 70 = .ok (.if_icmp .ge 22, 3) := by decide +kernel
theorem dX12_takesHalves_73 : decode cX12_takesHalves 73 = .ok (.aload_n 0, 1) := by decide +kernel
theorem dX12_takesHalves_74 : decode cX12_takesHalves 74 = .ok (.getfield 85, 3) := by decide +kernel
theorem dX12_takesHalves_77 : decode cX12_takesHalves 77 = .ok (.iload 5, 2) := by decide +kernel
theorem dX12_takesHalves_79 : decode cX12_takesHalves 79 = .ok (.iaload, 1) := by decide +kernel
theorem dX12_takesHalves_80 : decode cX12_takesHalves 80 = .ok (.iload_n 3, 1) := by decide +kernel
theorem dX12_takesHalves_81 : decode cX12_takesHalves 81 = .ok (.if_icmp .ne 5, 3) := by decide +kernel
theorem dX12_takesHalves_84 : decode cX12_takesHalves 84 = .ok (.iconst 0, 1) := by decide +kernel
theorem dX12_takesHalves_85 : decode cX12_takesHalves 85 = .ok (.ireturn, 1) := by decide +kernel
theorem dX12_takesHalves_86 : decode cX12_takesHalves 86 = .ok (.iinc 5 1, 3) := by decide +kernel
theorem dX12_takesHalves_89 : decode cX12_takesHalves 89 = .ok (.goto (-22), 3) := by decide +kernel
theorem dX12_takesHalves_92 : decode cX12_takesHalves 92 = .ok (.iload 4, 2) := by decide +kernel
theorem dX12_takesHalves_94 : decode cX12_takesHalves 94 = .ok (.ifCond .le 41, 3) := by decide +kernel
theorem dX12_takesHalves_97 : decode cX12_takesHalves 97 = .ok (.aload_n 0, 1) := by decide +kernel
theorem dX12_takesHalves_98 : decode cX12_takesHalves 98 = .ok (.getfield 85, 3) := by decide +kernel
theorem dX12_takesHalves_101 : decode cX12_takesHalves 101 = .ok (.iload 4, 2) := by decide +kernel
theorem dX12_takesHalves_103 : decode cX12_takesHalves 103 = .ok (.iconst 1, 1) := by decide +kernel
theorem dX12_takesHalves_104 : decode cX12_takesHalves 104 = .ok (.isub, 1) := by decide +kernel
theorem dX12_takesHalves_105 : decode cX12_takesHalves 105 = .ok (.iaload, 1) := by decide +kernel
theorem dX12_takesHalves_106 : decode cX12_takesHalves 106 = .ok (.iload_n 3, 1) := by decide +kernel
theorem dX12_takesHalves_107 : decode cX12_takesHalves 107 = .ok (.if_icmp .le 28, 3) := by decide +kernel
theorem dX12_takesHalves_110 : decode cX12_takesHalves 110 = .ok (.aload_n 0, 1) := by decide +kernel
theorem dX12_takesHalves_111 : decode cX12_takesHalves 111 = .ok (.getfield 85, 3) := by decide +kernel
theorem dX12_takesHalves_114 : decode cX12_takesHalves 114 = .ok (.iload 4, 2) := by decide +kernel
theorem dX12_takesHalves_116 : decode cX12_takesHalves 116 = .ok (.aload_n 0, 1) := by decide +kernel
theorem dX12_takesHalves_117 : decode cX12_takesHalves 117 = .ok (.getfield 85, 3) := by decide +kernel
theorem dX12_takesHalves_120 : decode cX12_takesHalves 120 = .ok (.iload 4, 2) := by decide +kernel
theorem dX12_takesHalves_122 : decode cX12_takesHalves 122 = .ok (.iconst 1, 1) := by decide +kernel
theorem dX12_takesHalves_123 : decode cX12_takesHalves 123 = .ok (.isub, 1) := by decide +kernel
theorem dX12_takesHalves_124 : decode cX12_takesHalves 124 = .ok (.iaload, 1) := by decide +kernel
theorem dX12_takesHalves_125 : decode cX12_takesHalves 125 = .ok (.iastore, 1) := by decide +kernel
theorem dX12_takesHalves_126 : decode cX12_takesHalves 126 = .ok (.iload 4, 2) := by decide +kernel
theorem dX12_takesHalves_128 : decode cX12_takesHalves 128 = .ok (.iconst 1, 1) := by decide +kernel
theorem dX12_takesHalves_129 : decode cX12_takesHalves 129 = .ok (.isub, 1) := by decide +kernel
theorem dX12_takesHalves_130 : decode cX12_takesHalves 130 = .ok (.istore 4, 2) := by decide +kernel
theorem dX12_takesHalves_132 : decode cX12_takesHalves 132 = .ok (.goto (-40), 3) := by decide +kernel
theorem dX12_takesHalves_135 : decode cX12_takesHalves 135 = .ok (.aload_n 0, 1) := by decide +kernel
theorem dX12_takesHalves_136 : decode cX12_takesHalves 136 = .ok (.getfield 85, 3) := by decide +kernel
theorem dX12_takesHalves_139 : decode cX12_takesHalves 139 = .ok (.iload 4, 2) := by decide +kernel
theorem dX12_takesHalves_141 : decode cX12_takesHalves 141 = .ok (.iload_n 3, 1) := by decide +kernel
theorem dX12_takesHalves_142 : decode cX12_takesHalves 142 = .ok (.iastore, 1) := by decide +kernel
theorem dX12_takesHalves_143 : decode cX12_takesHalves 143 = .ok (.iinc 2 1, 3) := by decide +kernel
theorem dX12_takesHalves_146 : decode cX12_takesHalves 146 = .ok (.goto (-139), 3) := by decide +kernel
theorem dX12_takesHalves_149 : decode cX12_takesHalves 149 = .ok (.iconst 1, 1) := by decide +kernel
theorem dX12_takesHalves_150 : decode cX12_takesHalves 150 = .ok (.ireturn, 1) := by decide +kernel
theorem rX12_takesHalves : (∀ (d : Nat) (a1 a2 a3 a4 a5 : Value) (x : Nat) (st : List Value) (h : fk_H), fk_ev d qX12_takesHalves 0 [.ref x, a1, a2, a3, a4, a5] st h = fk_ev d qX12_takesHalves 1 [.ref x, a1, a2, a3, a4, a5] (.ref x :: st) h) ∧
  (∀ (d : Nat) (a0 a2 a3 a4 a5 : Value) (x : Int32) (st : List Value) (h : fk_H), fk_ev d qX12_takesHalves 1 [a0, .int x, a2, a3, a4, a5] st h = fk_ev d qX12_takesHalves 2 [a0, .int x, a2, a3, a4, a5] (.int x :: st) h) ∧
  (∀ (d : Nat) (L st : List Value) (N : Nat) (y : Nat → Nat → Int32) (l : Nat → Nat → Int64) (v : Int32), fk_ev d qX12_takesHalves 2 L (.int v :: .ref 246 :: st) (fk_E N y l) = fk_ev d qX12_takesHalves 5 L st (fk_E N (fk_u y 246 44 v) l)) ∧
  (∀ (d : Nat) (L st : List Value) (h : fk_H), fk_ev d qX12_takesHalves 5 L st h = fk_ev d qX12_takesHalves 6 L (.int (nI 0) :: st) h) ∧
  (∀ (d : Nat) (a0 a1 a2 a3 a4 a5 : Value) (x : Int32) (st : List Value) (h : fk_H), fk_ev d qX12_takesHalves 6 [a0, a1, a2, a3, a4, a5] (.int x :: st) h = fk_ev d qX12_takesHalves 7 [a0, a1, .int x, a3, a4, a5] st h) ∧
  (∀ (d : Nat) (a0 a2 a3 a4 a5 : Value) (x : Int32) (st : List Value) (h : fk_H), fk_ev d qX12_takesHalves 8 [a0, .int x, a2, a3, a4, a5] st h = fk_ev d qX12_takesHalves 9 [a0, .int x, a2, a3, a4, a5] (.int x :: st) h) ∧
  (∀ (d : Nat) (L : List Value) (x y : Int32) (st : List Value) (h : fk_H), fk_ev d qX12_takesHalves 9 L (.int y :: .int x :: st) h = if y ≤ x then fk_ev d qX12_takesHalves 149 L st h else fk_ev d qX12_takesHalves 12 L st h) ∧
  (∀ (d : Nat) (a1 a2 a3 a4 a5 : Value) (x : Nat) (st : List Value) (h : fk_H), fk_ev d qX12_takesHalves 12 [.ref x, a1, a2, a3, a4, a5] st h = fk_ev d qX12_takesHalves 13 [.ref x, a1, a2, a3, a4, a5] (.ref x :: st) h) ∧
  (∀ (d : Nat) (L st : List Value) (N : Nat) (y : Nat → Nat → Int32) (l : Nat → Nat → Int64), fk_ev d qX12_takesHalves 13 L (.ref 246 :: st) (fk_E N y l) = fk_ev d qX12_takesHalves 16 L (.ref 255 :: st) (fk_E N y l)) ∧
  (∀ (d : Nat) (a0 a1 a3 a4 a5 : Value) (x : Int32) (st : List Value) (h : fk_H), fk_ev d qX12_takesHalves 16 [a0, a1, .int x, a3, a4, a5] st h = fk_ev d qX12_takesHalves 17 [a0, a1, .int x, a3, a4, a5] (.int x :: st) h) ∧
  (∀ (d : Nat) (L st : List Value) (N : Nat) (y : Nat → Nat → Int32) (l : Nat → Nat → Int64) (i : Nat), i < 260 → fk_ev d qX12_takesHalves 17 L (.int (nI i) :: .ref 255 :: st) (fk_E N y l) = fk_ev d qX12_takesHalves 18 L (.int (y 255 i) :: st) (fk_E N y l)) ∧
  (∀ (d : Nat) (L st : List Value) (h : fk_H), fk_ev d qX12_takesHalves 18 L st h = fk_ev d qX12_takesHalves 21 L (.int (nI 255) :: st) h) ∧
  (∀ (d : Nat) (L : List Value) (x y : Int32) (st : List Value) (h : fk_H), fk_ev d qX12_takesHalves 21 L (.int y :: .int x :: st) h = fk_ev d qX12_takesHalves 22 L (.int (x &&& y) :: st) h) ∧
  (∀ (d : Nat) (a0 a1 a2 a3 a4 a5 : Value) (x : Int32) (st : List Value) (h : fk_H), fk_ev d qX12_takesHalves 22 [a0, a1, a2, a3, a4, a5] (.int x :: st) h = fk_ev d qX12_takesHalves 23 [a0, a1, a2, .int x, a4, a5] st h) ∧
  (∀ (d : Nat) (a1 a2 a3 a4 a5 : Value) (x : Nat) (st : List Value) (h : fk_H), fk_ev d qX12_takesHalves 23 [.ref x, a1, a2, a3, a4, a5] st h = fk_ev d qX12_takesHalves 24 [.ref x, a1, a2, a3, a4, a5] (.ref x :: st) h) ∧
  (∀ (d : Nat) (a0 a1 a2 a4 a5 : Value) (x : Int32) (st : List Value) (h : fk_H), fk_ev d qX12_takesHalves 24 [a0, a1, a2, .int x, a4, a5] st h = fk_ev d qX12_takesHalves 25 [a0, a1, a2, .int x, a4, a5] (.int x :: st) h) ∧
  (∀ (d : Nat) (L : List Value) (x0 : Int32)  (N : Nat) (y : Nat → Nat → Int32) (l : Nat → Nat → Int64), fk_ev (d + 1) qX12_takesHalves 25 L (.int x0 :: .ref 246 :: []) (fk_E N y l) = (fk_ev d qX12_isLiving 0 [.ref 246, .int x0] [] (fk_E N y l)).bind fun o => fk_ev (d + 1) qX12_takesHalves 28 L (o.1.toList ++ []) o.2) ∧
  (∀ (d : Nat) (L : List Value) (x : Int32) (st : List Value) (h : fk_H), fk_ev d qX12_takesHalves 28 L (.int x :: st) h = if x = nI 0 then fk_ev d qX12_takesHalves 59 L st h else fk_ev d qX12_takesHalves 31 L st h) ∧
  (∀ (d : Nat) (a1 a2 a3 a4 a5 : Value) (x : Nat) (st : List Value) (h : fk_H), fk_ev d qX12_takesHalves 31 [.ref x, a1, a2, a3, a4, a5] st h = fk_ev d qX12_takesHalves 32 [.ref x, a1, a2, a3, a4, a5] (.ref x :: st) h) ∧
  (∀ (d : Nat) (L st : List Value) (N : Nat) (y : Nat → Nat → Int32) (l : Nat → Nat → Int64), fk_ev d qX12_takesHalves 32 L (.ref 246 :: st) (fk_E N y l) = fk_ev d qX12_takesHalves 35 L (.ref 247 :: st) (fk_E N y l)) ∧
  (∀ (d : Nat) (L st : List Value) (h : fk_H), fk_ev d qX12_takesHalves 35 L st h = fk_ev d qX12_takesHalves 36 L (.int (nI 0) :: st) h) ∧
  (∀ (d : Nat) (a0 a1 a2 a4 a5 : Value) (x : Int32) (st : List Value) (h : fk_H), fk_ev d qX12_takesHalves 36 [a0, a1, a2, .int x, a4, a5] st h = fk_ev d qX12_takesHalves 37 [a0, a1, a2, .int x, a4, a5] (.int x :: st) h) ∧
  (∀ (d : Nat) (L : List Value) (x y : Int32) (st : List Value) (h : fk_H), fk_ev d qX12_takesHalves 37 L (.int y :: .int x :: st) h = fk_ev d qX12_takesHalves 38 L (.int (x + y) :: st) h) ∧
  (∀ (d : Nat) (L st : List Value) (N : Nat) (y : Nat → Nat → Int32) (l : Nat → Nat → Int64) (i : Nat), i < 3912 → fk_ev d qX12_takesHalves 38 L (.int (nI i) :: .ref 247 :: st) (fk_E N y l) = fk_ev d qX12_takesHalves 39 L (.int (y 247 i) :: st) (fk_E N y l)) ∧
  (∀ (d : Nat) (a1 a2 a3 a4 a5 : Value) (x : Nat) (st : List Value) (h : fk_H), fk_ev d qX12_takesHalves 39 [.ref x, a1, a2, a3, a4, a5] st h = fk_ev d qX12_takesHalves 40 [.ref x, a1, a2, a3, a4, a5] (.ref x :: st) h) ∧
  (∀ (d : Nat) (L st : List Value) (N : Nat) (y : Nat → Nat → Int32) (l : Nat → Nat → Int64), fk_ev d qX12_takesHalves 40 L (.ref 246 :: st) (fk_E N y l) = fk_ev d qX12_takesHalves 43 L (.ref 247 :: st) (fk_E N y l)) ∧
  (∀ (d : Nat) (L st : List Value) (h : fk_H), fk_ev d qX12_takesHalves 43 L st h = fk_ev d qX12_takesHalves 44 L (.int (nI 0) :: st) h) ∧
  (∀ (d : Nat) (a1 a2 a3 a4 a5 : Value) (x : Nat) (st : List Value) (h : fk_H), fk_ev d qX12_takesHalves 44 [.ref x, a1, a2, a3, a4, a5] st h = fk_ev d qX12_takesHalves 45 [.ref x, a1, a2, a3, a4, a5] (.ref x :: st) h) ∧
  (∀ (d : Nat) (L st : List Value) (N : Nat) (y : Nat → Nat → Int32) (l : Nat → Nat → Int64), fk_ev d qX12_takesHalves 45 L (.ref 246 :: st) (fk_E N y l) = fk_ev d qX12_takesHalves 48 L (.ref 255 :: st) (fk_E N y l)) ∧
  (∀ (d : Nat) (L st : List Value) (h : fk_H), fk_ev d qX12_takesHalves 48 L st h = fk_ev d qX12_takesHalves 49 L (.int (nI 0) :: st) h) ∧
  (∀ (d : Nat) (L st : List Value) (N : Nat) (y : Nat → Nat → Int32) (l : Nat → Nat → Int64) (i : Nat), i < 260 → fk_ev d qX12_takesHalves 49 L (.int (nI i) :: .ref 255 :: st) (fk_E N y l) = fk_ev d qX12_takesHalves 50 L (.int (y 255 i) :: st) (fk_E N y l)) ∧
  (∀ (d : Nat) (L st : List Value) (h : fk_H), fk_ev d qX12_takesHalves 50 L st h = fk_ev d qX12_takesHalves 53 L (.int (nI 255) :: st) h) ∧
  (∀ (d : Nat) (L : List Value) (x y : Int32) (st : List Value) (h : fk_H), fk_ev d qX12_takesHalves 53 L (.int y :: .int x :: st) h = fk_ev d qX12_takesHalves 54 L (.int (x &&& y) :: st) h) ∧
  (∀ (d : Nat) (L : List Value) (x y : Int32) (st : List Value) (h : fk_H), fk_ev d qX12_takesHalves 54 L (.int y :: .int x :: st) h = fk_ev d qX12_takesHalves 55 L (.int (x + y) :: st) h) ∧
  (∀ (d : Nat) (L st : List Value) (N : Nat) (y : Nat → Nat → Int32) (l : Nat → Nat → Int64) (i : Nat), i < 3912 → fk_ev d qX12_takesHalves 55 L (.int (nI i) :: .ref 247 :: st) (fk_E N y l) = fk_ev d qX12_takesHalves 56 L (.int (y 247 i) :: st) (fk_E N y l)) ∧
  (∀ (d : Nat) (L : List Value) (x y : Int32) (st : List Value) (h : fk_H), fk_ev d qX12_takesHalves 56 L (.int y :: .int x :: st) h = if x = y then fk_ev d qX12_takesHalves 61 L st h else fk_ev d qX12_takesHalves 59 L st h) ∧
  (∀ (d : Nat) (L st : List Value) (h : fk_H), fk_ev d qX12_takesHalves 59 L st h = fk_ev d qX12_takesHalves 60 L (.int (nI 0) :: st) h) ∧
  (∀ (d : Nat) (L : List Value) (h : fk_H), fk_ev d qX12_takesHalves 60 L [.int (nI 0)] h = some (some (.int (nI 0)), h)) ∧
  (∀ (d : Nat) (L : List Value) (h : fk_H), fk_ev d qX12_takesHalves 60 L [.int (nI 1)] h = some (some (.int (nI 1)), h)) ∧
  (∀ (d : Nat) (L : List Value) (p : Prop) [Decidable p] (h : fk_H), fk_ev d qX12_takesHalves 60 L [.int (fk_b p)] h = some (some (.int (fk_b p)), h)) ∧
  (∀ (d : Nat) (L : List Value) (x : Int32) (h : fk_H), (x = nI 0 ∨ x = nI 1) → fk_ev d qX12_takesHalves 60 L [.int x] h = some (some (.int x), h)) ∧
  (∀ (d : Nat) (a0 a1 a3 a4 a5 : Value) (x : Int32) (st : List Value) (h : fk_H), fk_ev d qX12_takesHalves 61 [a0, a1, .int x, a3, a4, a5] st h = fk_ev d qX12_takesHalves 62 [a0, a1, .int x, a3, a4, a5] (.int x :: st) h) ∧
  (∀ (d : Nat) (a0 a1 a2 a3 a4 a5 : Value) (x : Int32) (st : List Value) (h : fk_H), fk_ev d qX12_takesHalves 62 [a0, a1, a2, a3, a4, a5] (.int x :: st) h = fk_ev d qX12_takesHalves 64 [a0, a1, a2, a3, .int x, a5] st h) ∧
  (∀ (d : Nat) (L st : List Value) (h : fk_H), fk_ev d qX12_takesHalves 64 L st h = fk_ev d qX12_takesHalves 65 L (.int (nI 0) :: st) h) ∧
  (∀ (d : Nat) (a0 a1 a2 a3 a4 a5 : Value) (x : Int32) (st : List Value) (h : fk_H), fk_ev d qX12_takesHalves 65 [a0, a1, a2, a3, a4, a5] (.int x :: st) h = fk_ev d qX12_takesHalves 67 [a0, a1, a2, a3, a4, .int x] st h) ∧
  (∀ (d : Nat) (a0 a1 a3 a4 a5 : Value) (x : Int32) (st : List Value) (h : fk_H), fk_ev d qX12_takesHalves 69 [a0, a1, .int x, a3, a4, a5] st h = fk_ev d qX12_takesHalves 70 [a0, a1, .int x, a3, a4, a5] (.int x :: st) h) ∧
  (∀ (d : Nat) (L : List Value) (x y : Int32) (st : List Value) (h : fk_H), fk_ev d qX12_takesHalves 70 L (.int y :: .int x :: st) h = if y ≤ x then fk_ev d qX12_takesHalves 92 L st h else fk_ev d qX12_takesHalves 73 L st h) ∧
  (∀ (d : Nat) (a1 a2 a3 a4 a5 : Value) (x : Nat) (st : List Value) (h : fk_H), fk_ev d qX12_takesHalves 73 [.ref x, a1, a2, a3, a4, a5] st h = fk_ev d qX12_takesHalves 74 [.ref x, a1, a2, a3, a4, a5] (.ref x :: st) h) ∧
  (∀ (d : Nat) (L st : List Value) (N : Nat) (y : Nat → Nat → Int32) (l : Nat → Nat → Int64), fk_ev d qX12_takesHalves 74 L (.ref 246 :: st) (fk_E N y l) = fk_ev d qX12_takesHalves 77 L (.ref 271 :: st) (fk_E N y l)) ∧
  (∀ (d : Nat) (a0 a1 a2 a3 a4 : Value) (x : Int32) (st : List Value) (h : fk_H), fk_ev d qX12_takesHalves 77 [a0, a1, a2, a3, a4, .int x] st h = fk_ev d qX12_takesHalves 79 [a0, a1, a2, a3, a4, .int x] (.int x :: st) h) ∧
  (∀ (d : Nat) (L st : List Value) (N : Nat) (y : Nat → Nat → Int32) (l : Nat → Nat → Int64) (i : Nat), i < 5 → fk_ev d qX12_takesHalves 79 L (.int (nI i) :: .ref 271 :: st) (fk_E N y l) = fk_ev d qX12_takesHalves 80 L (.int (y 271 i) :: st) (fk_E N y l)) ∧
  (∀ (d : Nat) (a0 a1 a2 a4 a5 : Value) (x : Int32) (st : List Value) (h : fk_H), fk_ev d qX12_takesHalves 80 [a0, a1, a2, .int x, a4, a5] st h = fk_ev d qX12_takesHalves 81 [a0, a1, a2, .int x, a4, a5] (.int x :: st) h) ∧
  (∀ (d : Nat) (L : List Value) (x y : Int32) (st : List Value) (h : fk_H), fk_ev d qX12_takesHalves 81 L (.int y :: .int x :: st) h = if ¬ x = y then fk_ev d qX12_takesHalves 86 L st h else fk_ev d qX12_takesHalves 84 L st h) ∧
  (∀ (d : Nat) (L st : List Value) (h : fk_H), fk_ev d qX12_takesHalves 84 L st h = fk_ev d qX12_takesHalves 85 L (.int (nI 0) :: st) h) ∧
  (∀ (d : Nat) (L : List Value) (h : fk_H), fk_ev d qX12_takesHalves 85 L [.int (nI 0)] h = some (some (.int (nI 0)), h)) ∧
  (∀ (d : Nat) (L : List Value) (h : fk_H), fk_ev d qX12_takesHalves 85 L [.int (nI 1)] h = some (some (.int (nI 1)), h)) ∧
  (∀ (d : Nat) (L : List Value) (p : Prop) [Decidable p] (h : fk_H), fk_ev d qX12_takesHalves 85 L [.int (fk_b p)] h = some (some (.int (fk_b p)), h)) ∧
  (∀ (d : Nat) (L : List Value) (x : Int32) (h : fk_H), (x = nI 0 ∨ x = nI 1) → fk_ev d qX12_takesHalves 85 L [.int x] h = some (some (.int x), h)) ∧
  (∀ (d : Nat) (a0 a1 a2 a3 a4 : Value) (x : Int32) (st : List Value) (h : fk_H), fk_ev d qX12_takesHalves 86 [a0, a1, a2, a3, a4, .int x] st h = fk_ev d qX12_takesHalves 89 [a0, a1, a2, a3, a4, .int (x + nI 1)] st h) ∧
  (∀ (d : Nat) (L st : List Value) (h : fk_H), fk_ev d qX12_takesHalves 89 L st h = fk_ev d qX12_takesHalves 67 L st h) ∧
  (∀ (d : Nat) (L : List Value) (x : Int32) (st : List Value) (h : fk_H), fk_ev d qX12_takesHalves 94 L (.int x :: st) h = if x ≤ nI 0 then fk_ev d qX12_takesHalves 135 L st h else fk_ev d qX12_takesHalves 97 L st h) ∧
  (∀ (d : Nat) (a1 a2 a3 a4 a5 : Value) (x : Nat) (st : List Value) (h : fk_H), fk_ev d qX12_takesHalves 97 [.ref x, a1, a2, a3, a4, a5] st h = fk_ev d qX12_takesHalves 98 [.ref x, a1, a2, a3, a4, a5] (.ref x :: st) h) ∧
  (∀ (d : Nat) (L st : List Value) (N : Nat) (y : Nat → Nat → Int32) (l : Nat → Nat → Int64), fk_ev d qX12_takesHalves 98 L (.ref 246 :: st) (fk_E N y l) = fk_ev d qX12_takesHalves 101 L (.ref 271 :: st) (fk_E N y l)) ∧
  (∀ (d : Nat) (a0 a1 a2 a3 a5 : Value) (x : Int32) (st : List Value) (h : fk_H), fk_ev d qX12_takesHalves 101 [a0, a1, a2, a3, .int x, a5] st h = fk_ev d qX12_takesHalves 103 [a0, a1, a2, a3, .int x, a5] (.int x :: st) h) ∧
  (∀ (d : Nat) (L st : List Value) (h : fk_H), fk_ev d qX12_takesHalves 103 L st h = fk_ev d qX12_takesHalves 104 L (.int (nI 1) :: st) h) ∧
  (∀ (d : Nat) (L : List Value) (x y : Int32) (st : List Value) (h : fk_H), fk_ev d qX12_takesHalves 104 L (.int y :: .int x :: st) h = fk_ev d qX12_takesHalves 105 L (.int (x - y) :: st) h) ∧
  (∀ (d : Nat) (L st : List Value) (N : Nat) (y : Nat → Nat → Int32) (l : Nat → Nat → Int64) (i : Nat), i < 5 → fk_ev d qX12_takesHalves 105 L (.int (nI i) :: .ref 271 :: st) (fk_E N y l) = fk_ev d qX12_takesHalves 106 L (.int (y 271 i) :: st) (fk_E N y l)) ∧
  (∀ (d : Nat) (a0 a1 a2 a4 a5 : Value) (x : Int32) (st : List Value) (h : fk_H), fk_ev d qX12_takesHalves 106 [a0, a1, a2, .int x, a4, a5] st h = fk_ev d qX12_takesHalves 107 [a0, a1, a2, .int x, a4, a5] (.int x :: st) h) ∧
  (∀ (d : Nat) (L : List Value) (x y : Int32) (st : List Value) (h : fk_H), fk_ev d qX12_takesHalves 107 L (.int y :: .int x :: st) h = if x ≤ y then fk_ev d qX12_takesHalves 135 L st h else fk_ev d qX12_takesHalves 110 L st h) ∧
  (∀ (d : Nat) (a1 a2 a3 a4 a5 : Value) (x : Nat) (st : List Value) (h : fk_H), fk_ev d qX12_takesHalves 110 [.ref x, a1, a2, a3, a4, a5] st h = fk_ev d qX12_takesHalves 111 [.ref x, a1, a2, a3, a4, a5] (.ref x :: st) h) ∧
  (∀ (d : Nat) (L st : List Value) (N : Nat) (y : Nat → Nat → Int32) (l : Nat → Nat → Int64), fk_ev d qX12_takesHalves 111 L (.ref 246 :: st) (fk_E N y l) = fk_ev d qX12_takesHalves 114 L (.ref 271 :: st) (fk_E N y l)) ∧
  (∀ (d : Nat) (a0 a1 a2 a3 a5 : Value) (x : Int32) (st : List Value) (h : fk_H), fk_ev d qX12_takesHalves 114 [a0, a1, a2, a3, .int x, a5] st h = fk_ev d qX12_takesHalves 116 [a0, a1, a2, a3, .int x, a5] (.int x :: st) h) ∧
  (∀ (d : Nat) (a1 a2 a3 a4 a5 : Value) (x : Nat) (st : List Value) (h : fk_H), fk_ev d qX12_takesHalves 116 [.ref x, a1, a2, a3, a4, a5] st h = fk_ev d qX12_takesHalves 117 [.ref x, a1, a2, a3, a4, a5] (.ref x :: st) h) ∧
  (∀ (d : Nat) (L st : List Value) (N : Nat) (y : Nat → Nat → Int32) (l : Nat → Nat → Int64), fk_ev d qX12_takesHalves 117 L (.ref 246 :: st) (fk_E N y l) = fk_ev d qX12_takesHalves 120 L (.ref 271 :: st) (fk_E N y l)) ∧
  (∀ (d : Nat) (a0 a1 a2 a3 a5 : Value) (x : Int32) (st : List Value) (h : fk_H), fk_ev d qX12_takesHalves 120 [a0, a1, a2, a3, .int x, a5] st h = fk_ev d qX12_takesHalves 122 [a0, a1, a2, a3, .int x, a5] (.int x :: st) h) ∧
  (∀ (d : Nat) (L st : List Value) (h : fk_H), fk_ev d qX12_takesHalves 122 L st h = fk_ev d qX12_takesHalves 123 L (.int (nI 1) :: st) h) ∧
  (∀ (d : Nat) (L : List Value) (x y : Int32) (st : List Value) (h : fk_H), fk_ev d qX12_takesHalves 123 L (.int y :: .int x :: st) h = fk_ev d qX12_takesHalves 124 L (.int (x - y) :: st) h) ∧
  (∀ (d : Nat) (L st : List Value) (N : Nat) (y : Nat → Nat → Int32) (l : Nat → Nat → Int64) (i : Nat), i < 5 → fk_ev d qX12_takesHalves 124 L (.int (nI i) :: .ref 271 :: st) (fk_E N y l) = fk_ev d qX12_takesHalves 125 L (.int (y 271 i) :: st) (fk_E N y l)) ∧
  (∀ (d : Nat) (L st : List Value) (N : Nat) (y : Nat → Nat → Int32) (l : Nat → Nat → Int64) (i : Nat) (v : Int32), i < 5 → fk_ev d qX12_takesHalves 125 L (.int v :: .int (nI i) :: .ref 271 :: st) (fk_E N y l) = fk_ev d qX12_takesHalves 126 L st (fk_E N (fk_u y 271 i v) l)) ∧
  (∀ (d : Nat) (a0 a1 a2 a3 a5 : Value) (x : Int32) (st : List Value) (h : fk_H), fk_ev d qX12_takesHalves 126 [a0, a1, a2, a3, .int x, a5] st h = fk_ev d qX12_takesHalves 128 [a0, a1, a2, a3, .int x, a5] (.int x :: st) h) ∧
  (∀ (d : Nat) (L st : List Value) (h : fk_H), fk_ev d qX12_takesHalves 128 L st h = fk_ev d qX12_takesHalves 129 L (.int (nI 1) :: st) h) ∧
  (∀ (d : Nat) (L : List Value) (x y : Int32) (st : List Value) (h : fk_H), fk_ev d qX12_takesHalves 129 L (.int y :: .int x :: st) h = fk_ev d qX12_takesHalves 130 L (.int (x - y) :: st) h) ∧
  (∀ (d : Nat) (a0 a1 a2 a3 a4 a5 : Value) (x : Int32) (st : List Value) (h : fk_H), fk_ev d qX12_takesHalves 130 [a0, a1, a2, a3, a4, a5] (.int x :: st) h = fk_ev d qX12_takesHalves 132 [a0, a1, a2, a3, .int x, a5] st h) ∧
  (∀ (d : Nat) (L st : List Value) (h : fk_H), fk_ev d qX12_takesHalves 132 L st h = fk_ev d qX12_takesHalves 92 L st h) ∧
  (∀ (d : Nat) (a1 a2 a3 a4 a5 : Value) (x : Nat) (st : List Value) (h : fk_H), fk_ev d qX12_takesHalves 135 [.ref x, a1, a2, a3, a4, a5] st h = fk_ev d qX12_takesHalves 136 [.ref x, a1, a2, a3, a4, a5] (.ref x :: st) h) ∧
  (∀ (d : Nat) (L st : List Value) (N : Nat) (y : Nat → Nat → Int32) (l : Nat → Nat → Int64), fk_ev d qX12_takesHalves 136 L (.ref 246 :: st) (fk_E N y l) = fk_ev d qX12_takesHalves 139 L (.ref 271 :: st) (fk_E N y l)) ∧
  (∀ (d : Nat) (a0 a1 a2 a3 a5 : Value) (x : Int32) (st : List Value) (h : fk_H), fk_ev d qX12_takesHalves 139 [a0, a1, a2, a3, .int x, a5] st h = fk_ev d qX12_takesHalves 141 [a0, a1, a2, a3, .int x, a5] (.int x :: st) h) ∧
  (∀ (d : Nat) (a0 a1 a2 a4 a5 : Value) (x : Int32) (st : List Value) (h : fk_H), fk_ev d qX12_takesHalves 141 [a0, a1, a2, .int x, a4, a5] st h = fk_ev d qX12_takesHalves 142 [a0, a1, a2, .int x, a4, a5] (.int x :: st) h) ∧
  (∀ (d : Nat) (L st : List Value) (N : Nat) (y : Nat → Nat → Int32) (l : Nat → Nat → Int64) (i : Nat) (v : Int32), i < 5 → fk_ev d qX12_takesHalves 142 L (.int v :: .int (nI i) :: .ref 271 :: st) (fk_E N y l) = fk_ev d qX12_takesHalves 143 L st (fk_E N (fk_u y 271 i v) l)) ∧
  (∀ (d : Nat) (a0 a1 a3 a4 a5 : Value) (x : Int32) (st : List Value) (h : fk_H), fk_ev d qX12_takesHalves 143 [a0, a1, .int x, a3, a4, a5] st h = fk_ev d qX12_takesHalves 146 [a0, a1, .int (x + nI 1), a3, a4, a5] st h) ∧
  (∀ (d : Nat) (L st : List Value) (h : fk_H), fk_ev d qX12_takesHalves 146 L st h = fk_ev d qX12_takesHalves 7 L st h) ∧
  (∀ (d : Nat) (L st : List Value) (h : fk_H), fk_ev d qX12_takesHalves 149 L st h = fk_ev d qX12_takesHalves 150 L (.int (nI 1) :: st) h) ∧
  (∀ (d : Nat) (L : List Value) (h : fk_H), fk_ev d qX12_takesHalves 150 L [.int (nI 0)] h = some (some (.int (nI 0)), h)) ∧
  (∀ (d : Nat) (L : List Value) (h : fk_H), fk_ev d qX12_takesHalves 150 L [.int (nI 1)] h = some (some (.int (nI 1)), h)) ∧
  (∀ (d : Nat) (L : List Value) (p : Prop) [Decidable p] (h : fk_H), fk_ev d qX12_takesHalves 150 L [.int (fk_b p)] h = some (some (.int (fk_b p)), h)) ∧
  (∀ (d : Nat) (L : List Value) (x : Int32) (h : fk_H), (x = nI 0 ∨ x = nI 1) → fk_ev d qX12_takesHalves 150 L [.int x] h = some (some (.int x), h)) := ⟨fun d a1 a2 a3 a4 a5 x st h => fk_w_aloadn 0 [.ref x, a1, a2, a3, a4, a5] dX12_takesHalves_0 rfl,
  fun d a0 a2 a3 a4 a5 x st h => fk_w_iloadn 1 [a0, .int x, a2, a3, a4, a5] dX12_takesHalves_1 rfl,
  fun d L st N y l v => fk_g_putI rfl lf_12_369 (by decide) dX12_takesHalves_2 rfl fk_at_246,
  fun d L st h => fk_w_iconst dX12_takesHalves_5 (by decide),
  fun d a0 a1 a2 a3 a4 a5 x st h => fk_w_istoren 2 6 [] [a0, a1, a2, a3, a4, a5] [a0, a1, .int x, a3, a4, a5] dX12_takesHalves_6 rfl rfl (by decide) rfl,
  fun d a0 a2 a3 a4 a5 x st h => fk_w_iloadn 1 [a0, .int x, a2, a3, a4, a5] dX12_takesHalves_8 rfl,
  fun d L x y st h => fk_r_icmp_ge dX12_takesHalves_9 (by decide),
  fun d a1 a2 a3 a4 a5 x st h => fk_w_aloadn 0 [.ref x, a1, a2, a3, a4, a5] dX12_takesHalves_12 rfl,
  fun d L st N y l => fk_g_getC rfl lf_12_35 (by decide) rfl dX12_takesHalves_13 fk_at_246,
  fun d a0 a1 a3 a4 a5 x st h => fk_w_iloadn 2 [a0, a1, .int x, a3, a4, a5] dX12_takesHalves_16 rfl,
  fun d L st N y l i hi => fk_g_bald (Or.inl rfl) fk_at_255 fk_ln_255 (by decide) dX12_takesHalves_17 hi,
  fun d L st h => fk_w_sipush dX12_takesHalves_18 (by decide),
  fun d L x y st h => fk_r_iand dX12_takesHalves_21,
  fun d a0 a1 a2 a3 a4 a5 x st h => fk_w_istoren 3 6 [] [a0, a1, a2, a3, a4, a5] [a0, a1, a2, .int x, a4, a5] dX12_takesHalves_22 rfl rfl (by decide) rfl,
  fun d a1 a2 a3 a4 a5 x st h => fk_w_aloadn 0 [.ref x, a1, a2, a3, a4, a5] dX12_takesHalves_23 rfl,
  fun d a0 a1 a2 a4 a5 x st h => fk_w_iloadn 3 [a0, a1, a2, .int x, a4, a5] dX12_takesHalves_24 rfl,
  fun d L x0 N y l  => fk_g_call [.int x0] [] rfl lm_12_129 dX12_takesHalves_25 rfl ⟨rfl, by decide⟩ (by simp) fk_at_246,
  fun d L x st h => fk_r_if_eq dX12_takesHalves_28 (by decide),
  fun d a1 a2 a3 a4 a5 x st h => fk_w_aloadn 0 [.ref x, a1, a2, a3, a4, a5] dX12_takesHalves_31 rfl,
  fun d L st N y l => fk_g_getC rfl lf_12_7 (by decide) rfl dX12_takesHalves_32 fk_at_246,
  fun d L st h => fk_w_iconst dX12_takesHalves_35 (by decide),
  fun d a0 a1 a2 a4 a5 x st h => fk_w_iloadn 3 [a0, a1, a2, .int x, a4, a5] dX12_takesHalves_36 rfl,
  fun d L x y st h => fk_r_iadd dX12_takesHalves_37,
  fun d L st N y l i hi => fk_g_iald fk_at_247 fk_ln_247 (by decide) dX12_takesHalves_38 hi,
  fun d a1 a2 a3 a4 a5 x st h => fk_w_aloadn 0 [.ref x, a1, a2, a3, a4, a5] dX12_takesHalves_39 rfl,
  fun d L st N y l => fk_g_getC rfl lf_12_7 (by decide) rfl dX12_takesHalves_40 fk_at_246,
  fun d L st h => fk_w_iconst dX12_takesHalves_43 (by decide),
  fun d a1 a2 a3 a4 a5 x st h => fk_w_aloadn 0 [.ref x, a1, a2, a3, a4, a5] dX12_takesHalves_44 rfl,
  fun d L st N y l => fk_g_getC rfl lf_12_35 (by decide) rfl dX12_takesHalves_45 fk_at_246,
  fun d L st h => fk_w_iconst dX12_takesHalves_48 (by decide),
  fun d L st N y l i hi => fk_g_bald (Or.inl rfl) fk_at_255 fk_ln_255 (by decide) dX12_takesHalves_49 hi,
  fun d L st h => fk_w_sipush dX12_takesHalves_50 (by decide),
  fun d L x y st h => fk_r_iand dX12_takesHalves_53,
  fun d L x y st h => fk_r_iadd dX12_takesHalves_54,
  fun d L st N y l i hi => fk_g_iald fk_at_247 fk_ln_247 (by decide) dX12_takesHalves_55 hi,
  fun d L x y st h => fk_r_icmp_eq dX12_takesHalves_56 (by decide),
  fun d L st h => fk_w_iconst dX12_takesHalves_59 (by decide),
  fun d L h => fk_r_ret dX12_takesHalves_60 (Or.inr (Or.inl ⟨rfl, by decide⟩)),
  fun d L h => fk_r_ret dX12_takesHalves_60 (Or.inr (Or.inl ⟨rfl, by decide⟩)),
  fun d L p _ h => fk_r_ret dX12_takesHalves_60 (Or.inr (Or.inl ⟨rfl, fk_b_01⟩)),
  fun d L x h hx => fk_r_ret dX12_takesHalves_60 (Or.inr (Or.inl ⟨rfl, hx⟩)),
  fun d a0 a1 a3 a4 a5 x st h => fk_w_iloadn 2 [a0, a1, .int x, a3, a4, a5] dX12_takesHalves_61 rfl,
  fun d a0 a1 a2 a3 a4 a5 x st h => fk_w_istore 4 6 [] [a0, a1, a2, a3, a4, a5] [a0, a1, a2, a3, .int x, a5] dX12_takesHalves_62 rfl rfl (by decide) rfl,
  fun d L st h => fk_w_iconst dX12_takesHalves_64 (by decide),
  fun d a0 a1 a2 a3 a4 a5 x st h => fk_w_istore 5 6 [] [a0, a1, a2, a3, a4, a5] [a0, a1, a2, a3, a4, .int x] dX12_takesHalves_65 rfl rfl (by decide) rfl,
  fun d a0 a1 a3 a4 a5 x st h => fk_w_iloadn 2 [a0, a1, .int x, a3, a4, a5] dX12_takesHalves_69 rfl,
  fun d L x y st h => fk_r_icmp_ge dX12_takesHalves_70 (by decide),
  fun d a1 a2 a3 a4 a5 x st h => fk_w_aloadn 0 [.ref x, a1, a2, a3, a4, a5] dX12_takesHalves_73 rfl,
  fun d L st N y l => fk_g_getC rfl lf_12_85 (by decide) rfl dX12_takesHalves_74 fk_at_246,
  fun d a0 a1 a2 a3 a4 x st h => fk_w_iload 5 [a0, a1, a2, a3, a4, .int x] dX12_takesHalves_77 rfl,
  fun d L st N y l i hi => fk_g_iald fk_at_271 fk_ln_271 (by decide) dX12_takesHalves_79 hi,
  fun d a0 a1 a2 a4 a5 x st h => fk_w_iloadn 3 [a0, a1, a2, .int x, a4, a5] dX12_takesHalves_80 rfl,
  fun d L x y st h => fk_r_icmp_ne dX12_takesHalves_81 (by decide),
  fun d L st h => fk_w_iconst dX12_takesHalves_84 (by decide),
  fun d L h => fk_r_ret dX12_takesHalves_85 (Or.inr (Or.inl ⟨rfl, by decide⟩)),
  fun d L h => fk_r_ret dX12_takesHalves_85 (Or.inr (Or.inl ⟨rfl, by decide⟩)),
  fun d L p _ h => fk_r_ret dX12_takesHalves_85 (Or.inr (Or.inl ⟨rfl, fk_b_01⟩)),
  fun d L x h hx => fk_r_ret dX12_takesHalves_85 (Or.inr (Or.inl ⟨rfl, hx⟩)),
  fun d a0 a1 a2 a3 a4 x st h => fk_w_iinc 5 6 (1) [] [a0, a1, a2, a3, a4, .int x] [a0, a1, a2, a3, a4, .int (x + nI 1)] dX12_takesHalves_86 rfl rfl rfl (by decide) rfl,
  fun d L st h => fk_r_goto dX12_takesHalves_89 (by decide),
  fun d L x st h => fk_r_if_le dX12_takesHalves_94 (by decide),
  fun d a1 a2 a3 a4 a5 x st h => fk_w_aloadn 0 [.ref x, a1, a2, a3, a4, a5] dX12_takesHalves_97 rfl,
  fun d L st N y l => fk_g_getC rfl lf_12_85 (by decide) rfl dX12_takesHalves_98 fk_at_246,
  fun d a0 a1 a2 a3 a5 x st h => fk_w_iload 4 [a0, a1, a2, a3, .int x, a5] dX12_takesHalves_101 rfl,
  fun d L st h => fk_w_iconst dX12_takesHalves_103 (by decide),
  fun d L x y st h => fk_r_isub dX12_takesHalves_104,
  fun d L st N y l i hi => fk_g_iald fk_at_271 fk_ln_271 (by decide) dX12_takesHalves_105 hi,
  fun d a0 a1 a2 a4 a5 x st h => fk_w_iloadn 3 [a0, a1, a2, .int x, a4, a5] dX12_takesHalves_106 rfl,
  fun d L x y st h => fk_r_icmp_le dX12_takesHalves_107 (by decide),
  fun d a1 a2 a3 a4 a5 x st h => fk_w_aloadn 0 [.ref x, a1, a2, a3, a4, a5] dX12_takesHalves_110 rfl,
  fun d L st N y l => fk_g_getC rfl lf_12_85 (by decide) rfl dX12_takesHalves_111 fk_at_246,
  fun d a0 a1 a2 a3 a5 x st h => fk_w_iload 4 [a0, a1, a2, a3, .int x, a5] dX12_takesHalves_114 rfl,
  fun d a1 a2 a3 a4 a5 x st h => fk_w_aloadn 0 [.ref x, a1, a2, a3, a4, a5] dX12_takesHalves_116 rfl,
  fun d L st N y l => fk_g_getC rfl lf_12_85 (by decide) rfl dX12_takesHalves_117 fk_at_246,
  fun d a0 a1 a2 a3 a5 x st h => fk_w_iload 4 [a0, a1, a2, a3, .int x, a5] dX12_takesHalves_120 rfl,
  fun d L st h => fk_w_iconst dX12_takesHalves_122 (by decide),
  fun d L x y st h => fk_r_isub dX12_takesHalves_123,
  fun d L st N y l i hi => fk_g_iald fk_at_271 fk_ln_271 (by decide) dX12_takesHalves_124 hi,
  fun d L st N y l i v hi => fk_g_iast fk_at_271 fk_ln_271 (by decide) dX12_takesHalves_125 hi,
  fun d a0 a1 a2 a3 a5 x st h => fk_w_iload 4 [a0, a1, a2, a3, .int x, a5] dX12_takesHalves_126 rfl,
  fun d L st h => fk_w_iconst dX12_takesHalves_128 (by decide),
  fun d L x y st h => fk_r_isub dX12_takesHalves_129,
  fun d a0 a1 a2 a3 a4 a5 x st h => fk_w_istore 4 6 [] [a0, a1, a2, a3, a4, a5] [a0, a1, a2, a3, .int x, a5] dX12_takesHalves_130 rfl rfl (by decide) rfl,
  fun d L st h => fk_r_goto dX12_takesHalves_132 (by decide),
  fun d a1 a2 a3 a4 a5 x st h => fk_w_aloadn 0 [.ref x, a1, a2, a3, a4, a5] dX12_takesHalves_135 rfl,
  fun d L st N y l => fk_g_getC rfl lf_12_85 (by decide) rfl dX12_takesHalves_136 fk_at_246,
  fun d a0 a1 a2 a3 a5 x st h => fk_w_iload 4 [a0, a1, a2, a3, .int x, a5] dX12_takesHalves_139 rfl,
  fun d a0 a1 a2 a4 a5 x st h => fk_w_iloadn 3 [a0, a1, a2, .int x, a4, a5] dX12_takesHalves_141 rfl,
  fun d L st N y l i v hi => fk_g_iast fk_at_271 fk_ln_271 (by decide) dX12_takesHalves_142 hi,
  fun d a0 a1 a3 a4 a5 x st h => fk_w_iinc 2 6 (1) [] [a0, a1, .int x, a3, a4, a5] [a0, a1, .int (x + nI 1), a3, a4, a5] dX12_takesHalves_143 rfl rfl rfl (by decide) rfl,
  fun d L st h => fk_r_goto dX12_takesHalves_146 (by decide),
  fun d L st h => fk_w_iconst dX12_takesHalves_149 (by decide),
  fun d L h => fk_r_ret dX12_takesHalves_150 (Or.inr (Or.inl ⟨rfl, by decide⟩)),
  fun d L h => fk_r_ret dX12_takesHalves_150 (Or.inr (Or.inl ⟨rfl, by decide⟩)),
  fun d L p _ h => fk_r_ret dX12_takesHalves_150 (Or.inr (Or.inl ⟨rfl, fk_b_01⟩)),
  fun d L x h hx => fk_r_ret dX12_takesHalves_150 (Or.inr (Or.inl ⟨rfl, hx⟩))⟩
theorem hX12_takesHalves_7 : ∀ (d : Nat) (a0 a1 a3 a4 a5 : Value) (x : Int32) (st : List Value) (h : fk_H), fk_ev d qX12_takesHalves 7 [a0, a1, .int x, a3, a4, a5] st h = fk_ev d qX12_takesHalves 8 [a0, a1, .int x, a3, a4, a5] (.int x :: st) h := fun d a0 a1 a3 a4 a5 x st h => fk_w_iloadn 2 [a0, a1, .int x, a3, a4, a5] dX12_takesHalves_7 rfl
theorem hX12_takesHalves_67 : ∀ (d : Nat) (a0 a1 a2 a3 a4 : Value) (x : Int32) (st : List Value) (h : fk_H), fk_ev d qX12_takesHalves 67 [a0, a1, a2, a3, a4, .int x] st h = fk_ev d qX12_takesHalves 69 [a0, a1, a2, a3, a4, .int x] (.int x :: st) h := fun d a0 a1 a2 a3 a4 x st h => fk_w_iload 5 [a0, a1, a2, a3, a4, .int x] dX12_takesHalves_67 rfl
theorem hX12_takesHalves_92 : ∀ (d : Nat) (a0 a1 a2 a3 a5 : Value) (x : Int32) (st : List Value) (h : fk_H), fk_ev d qX12_takesHalves 92 [a0, a1, a2, a3, .int x, a5] st h = fk_ev d qX12_takesHalves 94 [a0, a1, a2, a3, .int x, a5] (.int x :: st) h := fun d a0 a1 a2 a3 a5 x st h => fk_w_iload 4 [a0, a1, a2, a3, .int x, a5] dX12_takesHalves_92 rfl
theorem dX12_readsJoins_0 : decode cX12_readsJoins 0 = .ok (.iload_n 1, 1) := by decide +kernel
theorem dX12_readsJoins_1 : decode cX12_readsJoins 1 = .ok (.istore_n 2, 1) := by decide +kernel
theorem dX12_readsJoins_2 : decode cX12_readsJoins 2 = .ok (.iconst 0, 1) := by decide +kernel
theorem dX12_readsJoins_3 : decode cX12_readsJoins 3 = .ok (.istore_n 3, 1) := by decide +kernel
theorem dX12_readsJoins_4 : decode cX12_readsJoins 4 = .ok (.aload_n 0, 1) := by decide +kernel
theorem dX12_readsJoins_5 : decode cX12_readsJoins 5 = .ok (.getfield 369, 3) := by decide +kernel
theorem dX12_readsJoins_8 : decode cX12_readsJoins 8 = .ok (.iconst 1, 1) := by decide +kernel
theorem dX12_readsJoins_9 : decode cX12_readsJoins 9 = .ok (.isub, 1) := by decide +kernel
theorem dX12_readsJoins_10 : decode cX12_readsJoins 10 = .ok (.istore 4, 2) := by decide +kernel
theorem dX12_readsJoins_12 : decode cX12_readsJoins 12 = .ok (.iload 4, 2) := by decide +kernel
theorem dX12_readsJoins_14 : decode cX12_readsJoins 14 = .ok (.ifCond .lt 57, 3) := by decide +kernel
theorem dX12_readsJoins_17 : decode cX12_readsJoins 17 = .ok (.aload_n 0, 1) := by decide +kernel
theorem dX12_readsJoins_18 : decode cX12_readsJoins 18 = .ok (.getfield 88, 3) := by decide +kernel
theorem dX12_readsJoins_21 : decode cX12_readsJoins 21 = .ok (.iload 4, 2) := by decide +kernel
theorem dX12_readsJoins_23 : decode cX12_readsJoins 23 = .ok (.iload_n 2, 1) := by decide +kernel
theorem dX12_readsJoins_24 : decode cX12_readsJoins 24 = .ok (.aload_n 0, 1) := by decide +kernel
theorem dX12_readsJoins_25 : decode cX12_readsJoins 25 = .ok (.getfield 369, 3) := by decide +kernel
theorem dX12_readsJoins_28 : decode cX12_readsJoins 28 = .ok (.irem, 1) := by decide +kernel
theorem dX12_readsJoins_29 : decode cX12_readsJoins 29 = .ok (.iastore, 1) := by decide +kernel
theorem dX12_readsJoins_30 : decode cX12_readsJoins 30 = .ok (.iload_n 2, 1) := by decide +kernel
theorem dX12_readsJoins_31 : decode cX12_readsJoins 31 = .ok (.aload_n 0, 1) := by decide +kernel
theorem dX12_readsJoins_32 : decode cX12_readsJoins 32 = .ok (.getfield 369, 3) := by decide +kernel
theorem dX12_readsJoins_35 : decode cX12_readsJoins 35 = .ok (.idiv, 1) := by decide +kernel
theorem dX12_readsJoins_36 : decode cX12_readsJoins 36 = .ok (.istore_n 2, 1) := by decide +kernel
theorem dX12_readsJoins_37 : decode cX12_readsJoins 37 = .ok (.iload_n 3, 1) := by decide +kernel
theorem dX12_readsJoins_38 : decode cX12_readsJoins 38 = .ok (.aload_n 0, 1) := by decide +kernel
theorem dX12_readsJoins_39 : decode cX12_readsJoins 39 = .ok (.getfield 88, 3) := by decide +kernel
theorem dX12_readsJoins_42 : decode cX12_readsJoins 42 = .ok (.iload 4, 2) := by decide +kernel
theorem dX12_readsJoins_44 : decode cX12_readsJoins 44 = .ok (.iaload, 1) := by decide +kernel
theorem dX12_readsJoins_45 : decode cX12_readsJoins 45 = .ok (.invokestatic 108, 3) := by decide +kernel
theorem dX12_readsJoins_48 : decode cX12_readsJoins 48 = .ok (.ifCond .eq 5, 3) := by decide +kernel
theorem dX12_readsJoins_51 : decode cX12_readsJoins 51 = .ok (.iconst 0, 1) := by decide +kernel
theorem dX12_readsJoins_52 : decode cX12_readsJoins 52 = .ok (.ireturn, 1) := by decide +kernel
theorem dX12_readsJoins_53 : decode cX12_readsJoins 53 = .ok (.iload_n 3, 1) := by decide +kernel
theorem dX12_readsJoins_54 : decode cX12_readsJoins 54 = .ok (.iconst 1, 1) := by decide +kernel
theorem dX12_readsJoins_55 : decode cX12_readsJoins 55 = .ok (.aload_n 0, 1) := by decide +kernel
theorem dX12_readsJoins_56 : decode cX12_readsJoins 56 = .ok (.getfield 88, 3) := by decide +kernel
theorem dX12_readsJoins_59 : decode cX12_readsJoins 59 = .ok (.iload 4, 2) := by decide +kernel
theorem dX12_readsJoins_61 : decode cX12_readsJoins 61 = .ok (.iaload, 1) := by decide +kernel
theorem dX12_readsJoins_62 : decode cX12_readsJoins 62 = .ok (.ishl, 1) := by decide +kernel
theorem dX12_readsJoins_63 : decode cX12_readsJoins 63 = .ok (.ior, 1) := by decide +kernel
theorem dX12_readsJoins_64 : decode cX12_readsJoins 64 = .ok (.istore_n 3, 1) := by decide +kernel
theorem dX12_readsJoins_65 : decode cX12_readsJoins 65 = .ok (.iinc 4 (-1), 3) := by decide +kernel
theorem dX12_readsJoins_68 : decode cX12_readsJoins 68 = .ok (.goto (-56), 3) := by decide +kernel
theorem dX12_readsJoins_71 : decode cX12_readsJoins 71 = .ok (.iconst 1, 1) := by decide +kernel
theorem dX12_readsJoins_72 : decode cX12_readsJoins 72 = .ok (.ireturn, 1) := by decide +kernel
theorem rX12_readsJoins : (∀ (d : Nat) (a0 a2 a3 a4 : Value) (x : Int32) (st : List Value) (h : fk_H), fk_ev d qX12_readsJoins 0 [a0, .int x, a2, a3, a4] st h = fk_ev d qX12_readsJoins 1 [a0, .int x, a2, a3, a4] (.int x :: st) h) ∧
  (∀ (d : Nat) (a0 a1 a2 a3 a4 : Value) (x : Int32) (st : List Value) (h : fk_H), fk_ev d qX12_readsJoins 1 [a0, a1, a2, a3, a4] (.int x :: st) h = fk_ev d qX12_readsJoins 2 [a0, a1, .int x, a3, a4] st h) ∧
  (∀ (d : Nat) (L st : List Value) (h : fk_H), fk_ev d qX12_readsJoins 2 L st h = fk_ev d qX12_readsJoins 3 L (.int (nI 0) :: st) h) ∧
  (∀ (d : Nat) (a0 a1 a2 a3 a4 : Value) (x : Int32) (st : List Value) (h : fk_H), fk_ev d qX12_readsJoins 3 [a0, a1, a2, a3, a4] (.int x :: st) h = fk_ev d qX12_readsJoins 4 [a0, a1, a2, .int x, a4] st h) ∧
  (∀ (d : Nat) (a1 a2 a3 a4 : Value) (x : Nat) (st : List Value) (h : fk_H), fk_ev d qX12_readsJoins 4 [.ref x, a1, a2, a3, a4] st h = fk_ev d qX12_readsJoins 5 [.ref x, a1, a2, a3, a4] (.ref x :: st) h) ∧
  (∀ (d : Nat) (L st : List Value) (N : Nat) (y : Nat → Nat → Int32) (l : Nat → Nat → Int64), fk_ev d qX12_readsJoins 5 L (.ref 246 :: st) (fk_E N y l) = fk_ev d qX12_readsJoins 8 L (.int (y 246 44) :: st) (fk_E N y l)) ∧
  (∀ (d : Nat) (L st : List Value) (h : fk_H), fk_ev d qX12_readsJoins 8 L st h = fk_ev d qX12_readsJoins 9 L (.int (nI 1) :: st) h) ∧
  (∀ (d : Nat) (L : List Value) (x y : Int32) (st : List Value) (h : fk_H), fk_ev d qX12_readsJoins 9 L (.int y :: .int x :: st) h = fk_ev d qX12_readsJoins 10 L (.int (x - y) :: st) h) ∧
  (∀ (d : Nat) (a0 a1 a2 a3 a4 : Value) (x : Int32) (st : List Value) (h : fk_H), fk_ev d qX12_readsJoins 10 [a0, a1, a2, a3, a4] (.int x :: st) h = fk_ev d qX12_readsJoins 12 [a0, a1, a2, a3, .int x] st h) ∧
  (∀ (d : Nat) (L : List Value) (x : Int32) (st : List Value) (h : fk_H), fk_ev d qX12_readsJoins 14 L (.int x :: st) h = if x < nI 0 then fk_ev d qX12_readsJoins 71 L st h else fk_ev d qX12_readsJoins 17 L st h) ∧
  (∀ (d : Nat) (a1 a2 a3 a4 : Value) (x : Nat) (st : List Value) (h : fk_H), fk_ev d qX12_readsJoins 17 [.ref x, a1, a2, a3, a4] st h = fk_ev d qX12_readsJoins 18 [.ref x, a1, a2, a3, a4] (.ref x :: st) h) ∧
  (∀ (d : Nat) (L st : List Value) (N : Nat) (y : Nat → Nat → Int32) (l : Nat → Nat → Int64), fk_ev d qX12_readsJoins 18 L (.ref 246 :: st) (fk_E N y l) = fk_ev d qX12_readsJoins 21 L (.ref 272 :: st) (fk_E N y l)) ∧
  (∀ (d : Nat) (a0 a1 a2 a3 : Value) (x : Int32) (st : List Value) (h : fk_H), fk_ev d qX12_readsJoins 21 [a0, a1, a2, a3, .int x] st h = fk_ev d qX12_readsJoins 23 [a0, a1, a2, a3, .int x] (.int x :: st) h) ∧
  (∀ (d : Nat) (a0 a1 a3 a4 : Value) (x : Int32) (st : List Value) (h : fk_H), fk_ev d qX12_readsJoins 23 [a0, a1, .int x, a3, a4] st h = fk_ev d qX12_readsJoins 24 [a0, a1, .int x, a3, a4] (.int x :: st) h) ∧
  (∀ (d : Nat) (a1 a2 a3 a4 : Value) (x : Nat) (st : List Value) (h : fk_H), fk_ev d qX12_readsJoins 24 [.ref x, a1, a2, a3, a4] st h = fk_ev d qX12_readsJoins 25 [.ref x, a1, a2, a3, a4] (.ref x :: st) h) ∧
  (∀ (d : Nat) (L st : List Value) (N : Nat) (y : Nat → Nat → Int32) (l : Nat → Nat → Int64), fk_ev d qX12_readsJoins 25 L (.ref 246 :: st) (fk_E N y l) = fk_ev d qX12_readsJoins 28 L (.int (y 246 44) :: st) (fk_E N y l)) ∧
  (∀ (d : Nat) (L : List Value) (x y : Int32) (st : List Value) (h : fk_H), fk_ev d qX12_readsJoins 28 L (.int y :: .int x :: st) h = if y = 0 then none else fk_ev d qX12_readsJoins 29 L (.int (x - x / y * y) :: st) h) ∧
  (∀ (d : Nat) (L st : List Value) (N : Nat) (y : Nat → Nat → Int32) (l : Nat → Nat → Int64) (i : Nat) (v : Int32), i < 5 → fk_ev d qX12_readsJoins 29 L (.int v :: .int (nI i) :: .ref 272 :: st) (fk_E N y l) = fk_ev d qX12_readsJoins 30 L st (fk_E N (fk_u y 272 i v) l)) ∧
  (∀ (d : Nat) (a0 a1 a3 a4 : Value) (x : Int32) (st : List Value) (h : fk_H), fk_ev d qX12_readsJoins 30 [a0, a1, .int x, a3, a4] st h = fk_ev d qX12_readsJoins 31 [a0, a1, .int x, a3, a4] (.int x :: st) h) ∧
  (∀ (d : Nat) (a1 a2 a3 a4 : Value) (x : Nat) (st : List Value) (h : fk_H), fk_ev d qX12_readsJoins 31 [.ref x, a1, a2, a3, a4] st h = fk_ev d qX12_readsJoins 32 [.ref x, a1, a2, a3, a4] (.ref x :: st) h) ∧
  (∀ (d : Nat) (L st : List Value) (N : Nat) (y : Nat → Nat → Int32) (l : Nat → Nat → Int64), fk_ev d qX12_readsJoins 32 L (.ref 246 :: st) (fk_E N y l) = fk_ev d qX12_readsJoins 35 L (.int (y 246 44) :: st) (fk_E N y l)) ∧
  (∀ (d : Nat) (L : List Value) (x y : Int32) (st : List Value) (h : fk_H), fk_ev d qX12_readsJoins 35 L (.int y :: .int x :: st) h = if y = 0 then none else fk_ev d qX12_readsJoins 36 L (.int (x / y) :: st) h) ∧
  (∀ (d : Nat) (a0 a1 a2 a3 a4 : Value) (x : Int32) (st : List Value) (h : fk_H), fk_ev d qX12_readsJoins 36 [a0, a1, a2, a3, a4] (.int x :: st) h = fk_ev d qX12_readsJoins 37 [a0, a1, .int x, a3, a4] st h) ∧
  (∀ (d : Nat) (a0 a1 a2 a4 : Value) (x : Int32) (st : List Value) (h : fk_H), fk_ev d qX12_readsJoins 37 [a0, a1, a2, .int x, a4] st h = fk_ev d qX12_readsJoins 38 [a0, a1, a2, .int x, a4] (.int x :: st) h) ∧
  (∀ (d : Nat) (a1 a2 a3 a4 : Value) (x : Nat) (st : List Value) (h : fk_H), fk_ev d qX12_readsJoins 38 [.ref x, a1, a2, a3, a4] st h = fk_ev d qX12_readsJoins 39 [.ref x, a1, a2, a3, a4] (.ref x :: st) h) ∧
  (∀ (d : Nat) (L st : List Value) (N : Nat) (y : Nat → Nat → Int32) (l : Nat → Nat → Int64), fk_ev d qX12_readsJoins 39 L (.ref 246 :: st) (fk_E N y l) = fk_ev d qX12_readsJoins 42 L (.ref 272 :: st) (fk_E N y l)) ∧
  (∀ (d : Nat) (a0 a1 a2 a3 : Value) (x : Int32) (st : List Value) (h : fk_H), fk_ev d qX12_readsJoins 42 [a0, a1, a2, a3, .int x] st h = fk_ev d qX12_readsJoins 44 [a0, a1, a2, a3, .int x] (.int x :: st) h) ∧
  (∀ (d : Nat) (L st : List Value) (N : Nat) (y : Nat → Nat → Int32) (l : Nat → Nat → Int64) (i : Nat), i < 5 → fk_ev d qX12_readsJoins 44 L (.int (nI i) :: .ref 272 :: st) (fk_E N y l) = fk_ev d qX12_readsJoins 45 L (.int (y 272 i) :: st) (fk_E N y l)) ∧
  (∀ (d : Nat) (L : List Value) (x0 : Int32) (x1 : Int32)  (h : fk_H), fk_ev (d + 1) qX12_readsJoins 45 L (.int x1 :: .int x0 :: []) h = (fk_ev d qX12_has 0 [.int x0, .int x1] [] h).bind fun o => fk_ev (d + 1) qX12_readsJoins 48 L (o.1.toList ++ []) o.2) ∧
  (∀ (d : Nat) (L : List Value) (x : Int32) (st : List Value) (h : fk_H), fk_ev d qX12_readsJoins 48 L (.int x :: st) h = if x = nI 0 then fk_ev d qX12_readsJoins 53 L st h else fk_ev d qX12_readsJoins 51 L st h) ∧
  (∀ (d : Nat) (L st : List Value) (h : fk_H), fk_ev d qX12_readsJoins 51 L st h = fk_ev d qX12_readsJoins 52 L (.int (nI 0) :: st) h) ∧
  (∀ (d : Nat) (L : List Value) (h : fk_H), fk_ev d qX12_readsJoins 52 L [.int (nI 0)] h = some (some (.int (nI 0)), h)) ∧
  (∀ (d : Nat) (L : List Value) (h : fk_H), fk_ev d qX12_readsJoins 52 L [.int (nI 1)] h = some (some (.int (nI 1)), h)) ∧
  (∀ (d : Nat) (L : List Value) (p : Prop) [Decidable p] (h : fk_H), fk_ev d qX12_readsJoins 52 L [.int (fk_b p)] h = some (some (.int (fk_b p)), h)) ∧
  (∀ (d : Nat) (L : List Value) (x : Int32) (h : fk_H), (x = nI 0 ∨ x = nI 1) → fk_ev d qX12_readsJoins 52 L [.int x] h = some (some (.int x), h)) ∧
  (∀ (d : Nat) (a0 a1 a2 a4 : Value) (x : Int32) (st : List Value) (h : fk_H), fk_ev d qX12_readsJoins 53 [a0, a1, a2, .int x, a4] st h = fk_ev d qX12_readsJoins 54 [a0, a1, a2, .int x, a4] (.int x :: st) h) ∧
  (∀ (d : Nat) (L st : List Value) (h : fk_H), fk_ev d qX12_readsJoins 54 L st h = fk_ev d qX12_readsJoins 55 L (.int (nI 1) :: st) h) ∧
  (∀ (d : Nat) (a1 a2 a3 a4 : Value) (x : Nat) (st : List Value) (h : fk_H), fk_ev d qX12_readsJoins 55 [.ref x, a1, a2, a3, a4] st h = fk_ev d qX12_readsJoins 56 [.ref x, a1, a2, a3, a4] (.ref x :: st) h) ∧
  (∀ (d : Nat) (L st : List Value) (N : Nat) (y : Nat → Nat → Int32) (l : Nat → Nat → Int64), fk_ev d qX12_readsJoins 56 L (.ref 246 :: st) (fk_E N y l) = fk_ev d qX12_readsJoins 59 L (.ref 272 :: st) (fk_E N y l)) ∧
  (∀ (d : Nat) (a0 a1 a2 a3 : Value) (x : Int32) (st : List Value) (h : fk_H), fk_ev d qX12_readsJoins 59 [a0, a1, a2, a3, .int x] st h = fk_ev d qX12_readsJoins 61 [a0, a1, a2, a3, .int x] (.int x :: st) h) ∧
  (∀ (d : Nat) (L st : List Value) (N : Nat) (y : Nat → Nat → Int32) (l : Nat → Nat → Int64) (i : Nat), i < 5 → fk_ev d qX12_readsJoins 61 L (.int (nI i) :: .ref 272 :: st) (fk_E N y l) = fk_ev d qX12_readsJoins 62 L (.int (y 272 i) :: st) (fk_E N y l)) ∧
  (∀ (d : Nat) (L : List Value) (x y : Int32) (st : List Value) (h : fk_H), fk_ev d qX12_readsJoins 62 L (.int y :: .int x :: st) h = fk_ev d qX12_readsJoins 63 L (.int (x <<< (y &&& 31)) :: st) h) ∧
  (∀ (d : Nat) (L : List Value) (x y : Int32) (st : List Value) (h : fk_H), fk_ev d qX12_readsJoins 63 L (.int y :: .int x :: st) h = fk_ev d qX12_readsJoins 64 L (.int (x ||| y) :: st) h) ∧
  (∀ (d : Nat) (a0 a1 a2 a3 a4 : Value) (x : Int32) (st : List Value) (h : fk_H), fk_ev d qX12_readsJoins 64 [a0, a1, a2, a3, a4] (.int x :: st) h = fk_ev d qX12_readsJoins 65 [a0, a1, a2, .int x, a4] st h) ∧
  (∀ (d : Nat) (a0 a1 a2 a3 : Value) (x : Int32) (st : List Value) (h : fk_H), fk_ev d qX12_readsJoins 65 [a0, a1, a2, a3, .int x] st h = fk_ev d qX12_readsJoins 68 [a0, a1, a2, a3, .int (x + (-1 : Int32))] st h) ∧
  (∀ (d : Nat) (L st : List Value) (h : fk_H), fk_ev d qX12_readsJoins 68 L st h = fk_ev d qX12_readsJoins 12 L st h) ∧
  (∀ (d : Nat) (L st : List Value) (h : fk_H), fk_ev d qX12_readsJoins 71 L st h = fk_ev d qX12_readsJoins 72 L (.int (nI 1) :: st) h) ∧
  (∀ (d : Nat) (L : List Value) (h : fk_H), fk_ev d qX12_readsJoins 72 L [.int (nI 0)] h = some (some (.int (nI 0)), h)) ∧
  (∀ (d : Nat) (L : List Value) (h : fk_H), fk_ev d qX12_readsJoins 72 L [.int (nI 1)] h = some (some (.int (nI 1)), h)) ∧
  (∀ (d : Nat) (L : List Value) (p : Prop) [Decidable p] (h : fk_H), fk_ev d qX12_readsJoins 72 L [.int (fk_b p)] h = some (some (.int (fk_b p)), h)) ∧
  (∀ (d : Nat) (L : List Value) (x : Int32) (h : fk_H), (x = nI 0 ∨ x = nI 1) → fk_ev d qX12_readsJoins 72 L [.int x] h = some (some (.int x), h)) := ⟨fun d a0 a2 a3 a4 x st h => fk_w_iloadn 1 [a0, .int x, a2, a3, a4] dX12_readsJoins_0 rfl,
  fun d a0 a1 a2 a3 a4 x st h => fk_w_istoren 2 5 [] [a0, a1, a2, a3, a4] [a0, a1, .int x, a3, a4] dX12_readsJoins_1 rfl rfl (by decide) rfl,
  fun d L st h => fk_w_iconst dX12_readsJoins_2 (by decide),
  fun d a0 a1 a2 a3 a4 x st h => fk_w_istoren 3 5 [] [a0, a1, a2, a3, a4] [a0, a1, a2, .int x, a4] dX12_readsJoins_3 rfl rfl (by decide) rfl,
  fun d a1 a2 a3 a4 x st h => fk_w_aloadn 0 [.ref x, a1, a2, a3, a4] dX12_readsJoins_4 rfl,
  fun d L st N y l => fk_g_getI rfl lf_12_369 (by decide) dX12_readsJoins_5 fk_at_246,
  fun d L st h => fk_w_iconst dX12_readsJoins_8 (by decide),
  fun d L x y st h => fk_r_isub dX12_readsJoins_9,
  fun d a0 a1 a2 a3 a4 x st h => fk_w_istore 4 5 [] [a0, a1, a2, a3, a4] [a0, a1, a2, a3, .int x] dX12_readsJoins_10 rfl rfl (by decide) rfl,
  fun d L x st h => fk_r_if_lt dX12_readsJoins_14 (by decide),
  fun d a1 a2 a3 a4 x st h => fk_w_aloadn 0 [.ref x, a1, a2, a3, a4] dX12_readsJoins_17 rfl,
  fun d L st N y l => fk_g_getC rfl lf_12_88 (by decide) rfl dX12_readsJoins_18 fk_at_246,
  fun d a0 a1 a2 a3 x st h => fk_w_iload 4 [a0, a1, a2, a3, .int x] dX12_readsJoins_21 rfl,
  fun d a0 a1 a3 a4 x st h => fk_w_iloadn 2 [a0, a1, .int x, a3, a4] dX12_readsJoins_23 rfl,
  fun d a1 a2 a3 a4 x st h => fk_w_aloadn 0 [.ref x, a1, a2, a3, a4] dX12_readsJoins_24 rfl,
  fun d L st N y l => fk_g_getI rfl lf_12_369 (by decide) dX12_readsJoins_25 fk_at_246,
  fun d L x y st h => fk_r_irem dX12_readsJoins_28,
  fun d L st N y l i v hi => fk_g_iast fk_at_272 fk_ln_272 (by decide) dX12_readsJoins_29 hi,
  fun d a0 a1 a3 a4 x st h => fk_w_iloadn 2 [a0, a1, .int x, a3, a4] dX12_readsJoins_30 rfl,
  fun d a1 a2 a3 a4 x st h => fk_w_aloadn 0 [.ref x, a1, a2, a3, a4] dX12_readsJoins_31 rfl,
  fun d L st N y l => fk_g_getI rfl lf_12_369 (by decide) dX12_readsJoins_32 fk_at_246,
  fun d L x y st h => fk_r_idiv dX12_readsJoins_35,
  fun d a0 a1 a2 a3 a4 x st h => fk_w_istoren 2 5 [] [a0, a1, a2, a3, a4] [a0, a1, .int x, a3, a4] dX12_readsJoins_36 rfl rfl (by decide) rfl,
  fun d a0 a1 a2 a4 x st h => fk_w_iloadn 3 [a0, a1, a2, .int x, a4] dX12_readsJoins_37 rfl,
  fun d a1 a2 a3 a4 x st h => fk_w_aloadn 0 [.ref x, a1, a2, a3, a4] dX12_readsJoins_38 rfl,
  fun d L st N y l => fk_g_getC rfl lf_12_88 (by decide) rfl dX12_readsJoins_39 fk_at_246,
  fun d a0 a1 a2 a3 x st h => fk_w_iload 4 [a0, a1, a2, a3, .int x] dX12_readsJoins_42 rfl,
  fun d L st N y l i hi => fk_g_iald fk_at_272 fk_ln_272 (by decide) dX12_readsJoins_44 hi,
  fun d L x0 x1 h => fk_g_calls [.int x0, .int x1] [] rfl lm_12_108 dX12_readsJoins_45 rfl ⟨rfl, by decide⟩ (by simp),
  fun d L x st h => fk_r_if_eq dX12_readsJoins_48 (by decide),
  fun d L st h => fk_w_iconst dX12_readsJoins_51 (by decide),
  fun d L h => fk_r_ret dX12_readsJoins_52 (Or.inr (Or.inl ⟨rfl, by decide⟩)),
  fun d L h => fk_r_ret dX12_readsJoins_52 (Or.inr (Or.inl ⟨rfl, by decide⟩)),
  fun d L p _ h => fk_r_ret dX12_readsJoins_52 (Or.inr (Or.inl ⟨rfl, fk_b_01⟩)),
  fun d L x h hx => fk_r_ret dX12_readsJoins_52 (Or.inr (Or.inl ⟨rfl, hx⟩)),
  fun d a0 a1 a2 a4 x st h => fk_w_iloadn 3 [a0, a1, a2, .int x, a4] dX12_readsJoins_53 rfl,
  fun d L st h => fk_w_iconst dX12_readsJoins_54 (by decide),
  fun d a1 a2 a3 a4 x st h => fk_w_aloadn 0 [.ref x, a1, a2, a3, a4] dX12_readsJoins_55 rfl,
  fun d L st N y l => fk_g_getC rfl lf_12_88 (by decide) rfl dX12_readsJoins_56 fk_at_246,
  fun d a0 a1 a2 a3 x st h => fk_w_iload 4 [a0, a1, a2, a3, .int x] dX12_readsJoins_59 rfl,
  fun d L st N y l i hi => fk_g_iald fk_at_272 fk_ln_272 (by decide) dX12_readsJoins_61 hi,
  fun d L x y st h => fk_r_ishl dX12_readsJoins_62,
  fun d L x y st h => fk_r_ior dX12_readsJoins_63,
  fun d a0 a1 a2 a3 a4 x st h => fk_w_istoren 3 5 [] [a0, a1, a2, a3, a4] [a0, a1, a2, .int x, a4] dX12_readsJoins_64 rfl rfl (by decide) rfl,
  fun d a0 a1 a2 a3 x st h => fk_w_iinc 4 5 (-1) [] [a0, a1, a2, a3, .int x] [a0, a1, a2, a3, .int (x + (-1 : Int32))] dX12_readsJoins_65 rfl rfl rfl (by decide) rfl,
  fun d L st h => fk_r_goto dX12_readsJoins_68 (by decide),
  fun d L st h => fk_w_iconst dX12_readsJoins_71 (by decide),
  fun d L h => fk_r_ret dX12_readsJoins_72 (Or.inr (Or.inl ⟨rfl, by decide⟩)),
  fun d L h => fk_r_ret dX12_readsJoins_72 (Or.inr (Or.inl ⟨rfl, by decide⟩)),
  fun d L p _ h => fk_r_ret dX12_readsJoins_72 (Or.inr (Or.inl ⟨rfl, fk_b_01⟩)),
  fun d L x h hx => fk_r_ret dX12_readsJoins_72 (Or.inr (Or.inl ⟨rfl, hx⟩))⟩
theorem hX12_readsJoins_12 : ∀ (d : Nat) (a0 a1 a2 a3 : Value) (x : Int32) (st : List Value) (h : fk_H), fk_ev d qX12_readsJoins 12 [a0, a1, a2, a3, .int x] st h = fk_ev d qX12_readsJoins 14 [a0, a1, a2, a3, .int x] (.int x :: st) h := fun d a0 a1 a2 a3 x st h => fk_w_iload 4 [a0, a1, a2, a3, .int x] dX12_readsJoins_12 rfl
theorem dX12_knownBy_0 : decode cX12_knownBy 0 = .ok (.aload_n 0, 1) := by decide +kernel
theorem dX12_knownBy_1 : decode cX12_knownBy 1 = .ok (.getfield 85, 3) := by decide +kernel
theorem dX12_knownBy_4 : decode cX12_knownBy 4 = .ok (.aload_n 0, 1) := by decide +kernel
theorem dX12_knownBy_5 : decode cX12_knownBy 5 = .ok (.getfield 88, 3) := by decide +kernel
theorem dX12_knownBy_8 : decode cX12_knownBy 8 = .ok (.iconst 0, 1) := by decide +kernel
theorem dX12_knownBy_9 : decode cX12_knownBy 9 = .ok (.iaload, 1) := by decide +kernel
theorem dX12_knownBy_10 : decode cX12_knownBy 10 = .ok (.iaload, 1) := by decide +kernel
theorem dX12_knownBy_11 : decode cX12_knownBy 11 = .ok (.istore_n 1, 1) := by decide +kernel
theorem dX12_knownBy_12 : decode cX12_knownBy 12 = .ok (.aload_n 0, 1) := by decide +kernel
theorem dX12_knownBy_13 : decode cX12_knownBy 13 = .ok (.getfield 7, 3) := by decide +kernel
theorem dX12_knownBy_16 : decode cX12_knownBy 16 = .ok (.sipush 704, 3) := by decide +kernel
theorem dX12_knownBy_19 : decode cX12_knownBy 19 = .ok (.iload_n 1, 1) := by decide +kernel
theorem dX12_knownBy_20 : decode cX12_knownBy 20 = .ok (.iadd, 1) := by decide +kernel
theorem dX12_knownBy_21 : decode cX12_knownBy 21 = .ok (.iaload, 1) := by decide +kernel
theorem dX12_knownBy_22 : decode cX12_knownBy 22 = .ok (.istore_n 2, 1) := by decide +kernel
theorem dX12_knownBy_23 : decode cX12_knownBy 23 = .ok (.aload_n 0, 1) := by decide +kernel
theorem dX12_knownBy_24 : decode cX12_knownBy 24 = .ok (.getfield 7, 3) := by decide +kernel
theorem dX12_knownBy_27 : decode cX12_knownBy 27 = .ok (.sipush 768, 3) := by decide +kernel
theorem dX12_knownBy_30 : decode cX12_knownBy 30 = .ok (.iload_n 1, 1) := by decide +kernel
theorem dX12_knownBy_31 : decode cX12_knownBy 31 = .ok (.iadd, 1) := by decide +kernel
theorem dX12_knownBy_32 : decode cX12_knownBy 32 = .ok (.iaload, 1) := by decide +kernel
theorem dX12_knownBy_33 : decode cX12_knownBy 33 = .ok (.istore_n 3, 1) := by decide +kernel
theorem dX12_knownBy_34 : decode cX12_knownBy 34 = .ok (.iconst 1, 1) := by decide +kernel
theorem dX12_knownBy_35 : decode cX12_knownBy 35 = .ok (.istore 4, 2) := by decide +kernel
theorem dX12_knownBy_37 : decode cX12_knownBy 37 = .ok (.iload 4, 2) := by decide +kernel
theorem dX12_knownBy_39 : decode cX12_knownBy 39 = .ok (.aload_n 0, 1) := by decide +kernel
theorem dX12_knownBy_40 : decode cX12_knownBy 40 = .ok (.getfield 369, 3) := by decide +kernel
theorem dX12_knownBy_43 : decode cX12_knownBy 43 = .ok (.if_icmp .ge 237, 3) := by decide +kernel
theorem dX12_knownBy_46 : decode cX12_knownBy 46 = .ok (.aload_n 0, 1) := by decide +kernel
theorem dX12_knownBy_47 : decode cX12_knownBy 47 = .ok (.getfield 85, 3) := by decide +kernel
theorem dX12_knownBy_50 : decode cX12_knownBy 50 = .ok (.aload_n 0, 1) := by decide +kernel
theorem dX12_knownBy_51 : decode cX12_knownBy 51 = .ok (.getfield 88, 3) := by decide +kernel
theorem dX12_knownBy_54 : decode cX12_knownBy 54 = .ok (.iload 4, 2) := by decide +kernel
theorem dX12_knownBy_56 : decode cX12_knownBy 56 = .ok (.iaload, 1) := by decide +kernel
theorem dX12_knownBy_57 : decode cX12_knownBy 57 = .ok (.iaload, 1) := by decide +kernel
theorem dX12_knownBy_58 : decode cX12_knownBy 58 = .ok (.istore 5, 2) := by decide +kernel
theorem dX12_knownBy_60 : decode cX12_knownBy 60 = .ok (.iload_n 1, 1) := by decide +kernel
theorem dX12_knownBy_61 : decode cX12_knownBy 61 = .ok (.iload 5, 2) := by decide +kernel
theorem dX12_knownBy_63 : decode cX12_knownBy 63 = .ok (.if_icmp .ge 7, 3) := by decide +kernel
theorem dX12_knownBy_66 : decode cX12_knownBy 66 = .ok (.iconst 1, 1) := by decide +kernel
theorem dX12_knownBy_67 : decode cX12_knownBy 67 = .ok (.goto 4, 3) := by decide +kernel
theorem dX12_knownBy_70 : decode cX12_knownBy 70 = .ok (.iconst 0, 1) := by decide +kernel
theorem dX12_knownBy_71 : decode cX12_knownBy 71 = .ok (.istore 6, 2) := by decide +kernel
theorem dX12_knownBy_73 : decode cX12_knownBy 73 = .ok (.iload_n 1, 1) := by decide +kernel
theorem dX12_knownBy_74 : decode cX12_knownBy 74 = .ok (.iload 5, 2) := by decide +kernel
theorem dX12_knownBy_76 : decode cX12_knownBy 76 = .ok (.invokestatic 278, 3) := by decide +kernel
theorem dX12_knownBy_79 : decode cX12_knownBy 79 = .ok (.istore 7, 2) := by decide +kernel
theorem dX12_knownBy_81 : decode cX12_knownBy 81 = .ok (.iload 6, 2) := by decide +kernel
theorem dX12_knownBy_83 : decode cX12_knownBy 83 = .ok (.ifCond .eq 7, 3) := by decide +kernel
theorem dX12_knownBy_86 : decode cX12_knownBy 86 = .ok (.iload_n 3, 1) := by decide +kernel
theorem dX12_knownBy_87 : decode cX12_knownBy 87 = .ok (.goto 14, 3) := by decide +kernel
theorem dX12_knownBy_90 : decode cX12_knownBy 90 = .ok (.aload_n 0, 1) := by decide +kernel
theorem dX12_knownBy_91 : decode cX12_knownBy 91 = .ok (.getfield 7, 3) := by decide +kernel
theorem dX12_knownBy_94 : decode cX12_knownBy 94 = .ok (.sipush 768, 3) := by decide +kernel
theorem dX12_knownBy_97 : decode cX12_knownBy 97 = .ok (.iload 5, 2) := by decide +kernel
theorem dX12_knownBy_99 : decode cX12_knownBy 99 = .ok (.iadd, 1) := by decide +kernel
theorem dX12_knownBy_100 : decode cX12_knownBy 100 = .ok (.iaload, 1) := by decide +kernel
theorem dX12_knownBy_101 : decode cX12_knownBy 101 = .ok (.istore 8, 2) := by decide +kernel
theorem dX12_knownBy_103 : decode cX12_knownBy 103 = .ok (.iload_n 2, 1) := by decide +kernel
theorem dX12_knownBy_104 : decode cX12_knownBy 104 = .ok (.aload_n 0, 1) := by decide +kernel
theorem dX12_knownBy_105 : decode cX12_knownBy 105 = .ok (.getfield 7, 3) := by decide +kernel
theorem dX12_knownBy_108 : decode cX12_knownBy 108 = .ok (.sipush 704, 3) := by decide +kernel
theorem dX12_knownBy_111 : decode cX12_knownBy 111 = .ok (.iload 5, 2) := by decide +kernel
theorem dX12_knownBy_113 : decode cX12_knownBy 113 = .ok (.iadd, 1) := by decide +kernel
theorem dX12_knownBy_114 : decode cX12_knownBy 114 = .ok (.iaload, 1) := by decide +kernel
theorem dX12_knownBy_115 : decode cX12_knownBy 115 = .ok (.iand, 1) := by decide +kernel
theorem dX12_knownBy_116 : decode cX12_knownBy 116 = .ok (.iload_n 3, 1) := by decide +kernel
theorem dX12_knownBy_117 : decode cX12_knownBy 117 = .ok (.aload_n 0, 1) := by decide +kernel
theorem dX12_knownBy_118 : decode cX12_knownBy 118 = .ok (.getfield 7, 3) := by decide +kernel
theorem dX12_knownBy_121 : decode cX12_knownBy 121 = .ok (.sipush 768, 3) := by decide +kernel
theorem dX12_knownBy_124 : decode cX12_knownBy 124 = .ok (.iload 5, 2) := by decide +kernel
theorem dX12_knownBy_126 : decode cX12_knownBy 126 = .ok (.iadd, 1) := by decide +kernel
theorem dX12_knownBy_127 : decode cX12_knownBy 127 = .ok (.iaload, 1) := by decide +kernel
theorem dX12_knownBy_128 : decode cX12_knownBy 128 = .ok (.ixor, 1) := by decide +kernel
theorem dX12_knownBy_129 : decode cX12_knownBy 129 = .ok (.iand, 1) := by decide +kernel
theorem dX12_knownBy_130 : decode cX12_knownBy 130 = .ok (.istore 9, 2) := by decide +kernel
theorem dX12_knownBy_132 : decode cX12_knownBy 132 = .ok (.iconst 0, 1) := by decide +kernel
theorem dX12_knownBy_133 : decode cX12_knownBy 133 = .ok (.istore 10, 2) := by decide +kernel
theorem dX12_knownBy_135 : decode cX12_knownBy 135 = .ok (.aload_n 0, 1) := by decide +kernel
theorem dX12_knownBy_136 : decode cX12_knownBy 136 = .ok (.iload 7, 2) := by decide +kernel
theorem dX12_knownBy_138 : decode cX12_knownBy 138 = .ok (.invokevirtual 263, 3) := by decide +kernel
theorem dX12_knownBy_141 : decode cX12_knownBy 141 = .ok (.iconst 0, 1) := by decide +kernel
theorem dX12_knownBy_142 : decode cX12_knownBy 142 = .ok (.istore 11, 2) := by decide +kernel
theorem dX12_knownBy_144 : decode cX12_knownBy 144 = .ok (.iload 11, 2) := by decide +kernel
theorem dX12_knownBy_146 : decode cX12_knownBy 146 = .ok (.bipush 16, 2) := by decide +kernel
theorem dX12_knownBy_148 : decode cX12_knownBy 148 = .ok (.if_icmp .ge 60, 3) := by decide +kernel
theorem dX12_knownBy_151 : decode cX12_knownBy 151 = .ok (.iload 9, 2) := by decide +kernel
theorem dX12_knownBy_153 : decode cX12_knownBy 153 = .ok (.iload 11, 2) := by decide +kernel
theorem dX12_knownBy_155 : decode cX12_knownBy 155 = .ok (.invokestatic 108, 3) := by decide +kernel
theorem dX12_knownBy_158 : decode cX12_knownBy 158 = .ok (.ifCond .ne 6, 3) := by decide +kernel
theorem dX12_knownBy_161 : decode cX12_knownBy 161 = .ok (.goto 41, 3) := by decide +kernel
theorem dX12_knownBy_164 : decode cX12_knownBy 164 = .ok (.aload_n 0, 1) := by decide +kernel
theorem dX12_knownBy_165 : decode cX12_knownBy 165 = .ok (.getfield 75, 3) := by decide +kernel
theorem dX12_knownBy_168 : decode cX12_knownBy 168 = .ok (.bipush 12, 2) := by decide +kernel
theorem dX12_knownBy_170 : decode cX12_knownBy 170 = .ok (.iload 11, 2) := by decide +kernel
theorem dX12_knownBy_172 : decode cX12_knownBy 172 = .ok (.iastore, 1) := by decide +kernel
theorem dX12_knownBy_173 : decode cX12_knownBy 173 = .ok (.aload_n 0, 1) := by decide +kernel
theorem dX12_knownBy_174 : decode cX12_knownBy 174 = .ok (.getfield 75, 3) := by decide +kernel
theorem dX12_knownBy_177 : decode cX12_knownBy 177 = .ok (.bipush 13, 2) := by decide +kernel
theorem dX12_knownBy_179 : decode cX12_knownBy 179 = .ok (.iload_n 1, 1) := by decide +kernel
theorem dX12_knownBy_180 : decode cX12_knownBy 180 = .ok (.iload 5, 2) := by decide +kernel
theorem dX12_knownBy_182 : decode cX12_knownBy 182 = .ok (.invokestatic 257, 3) := by decide +kernel
theorem dX12_knownBy_185 : decode cX12_knownBy 185 = .ok (.iastore, 1) := by decide +kernel
theorem dX12_knownBy_186 : decode cX12_knownBy 186 = .ok (.aload_n 0, 1) := by decide +kernel
theorem dX12_knownBy_187 : decode cX12_knownBy 187 = .ok (.invokevirtual 275, 3) := by decide +kernel
theorem dX12_knownBy_190 : decode cX12_knownBy 190 = .ok (.ifCond .ne 12, 3) := by decide +kernel
theorem dX12_knownBy_193 : decode cX12_knownBy 193 = .ok (.iload 10, 2) := by decide +kernel
theorem dX12_knownBy_195 : decode cX12_knownBy 195 = .ok (.iconst 1, 1) := by decide +kernel
theorem dX12_knownBy_196 : decode cX12_knownBy 196 = .ok (.iload 11, 2) := by decide +kernel
theorem dX12_knownBy_198 : decode cX12_knownBy 198 = .ok (.ishl, 1) := by decide +kernel
theorem dX12_knownBy_199 : decode cX12_knownBy 199 = .ok (.ior, 1) := by decide +kernel
theorem dX12_knownBy_200 : decode cX12_knownBy 200 = .ok (.istore 10, 2) := by decide +kernel
theorem dX12_knownBy_202 : decode cX12_knownBy 202 = .ok (.iinc 11 1, 3) := by decide +kernel
theorem dX12_knownBy_205 : decode cX12_knownBy 205 = .ok (.goto (-61), 3) := by decide +kernel
theorem dX12_knownBy_208 : decode cX12_knownBy 208 = .ok (.iload_n 3, 1) := by decide +kernel
theorem dX12_knownBy_209 : decode cX12_knownBy 209 = .ok (.iload_n 2, 1) := by decide +kernel
theorem dX12_knownBy_210 : decode cX12_knownBy 210 = .ok (.iand, 1) := by decide +kernel
theorem dX12_knownBy_211 : decode cX12_knownBy 211 = .ok (.aload_n 0, 1) := by decide +kernel
theorem dX12_knownBy_212 : decode cX12_knownBy 212 = .ok (.getfield 7, 3) := by decide +kernel
theorem dX12_knownBy_215 : decode cX12_knownBy 215 = .ok (.sipush 768, 3) := by decide +kernel
theorem dX12_knownBy_218 : decode cX12_knownBy 218 = .ok (.iload 5, 2) := by decide +kernel
theorem dX12_knownBy_220 : decode cX12_knownBy 220 = .ok (.iadd, 1) := by decide +kernel
theorem dX12_knownBy_221 : decode cX12_knownBy 221 = .ok (.iaload, 1) := by decide +kernel
theorem dX12_knownBy_222 : decode cX12_knownBy 222 = .ok (.aload_n 0, 1) := by decide +kernel
theorem dX12_knownBy_223 : decode cX12_knownBy 223 = .ok (.getfield 7, 3) := by decide +kernel
theorem dX12_knownBy_226 : decode cX12_knownBy 226 = .ok (.sipush 704, 3) := by decide +kernel
theorem dX12_knownBy_229 : decode cX12_knownBy 229 = .ok (.iload 5, 2) := by decide +kernel
theorem dX12_knownBy_231 : decode cX12_knownBy 231 = .ok (.iadd, 1) := by decide +kernel
theorem dX12_knownBy_232 : decode cX12_knownBy 232 = .ok (.iaload, 1) := by decide +kernel
theorem dX12_knownBy_233 : decode cX12_knownBy 233 = .ok (.iand, 1) := by decide +kernel
theorem dX12_knownBy_234 : decode cX12_knownBy 234 = .ok (.ior, 1) := by decide +kernel
theorem dX12_knownBy_235 : decode cX12_knownBy 235 = .ok (.iload 9, 2) := by decide +kernel
theorem dX12_knownBy_237 : decode cX12_knownBy 237 = .ok (.iconst (-1), 1) := by decide +kernel
theorem dX12_knownBy_238 : decode cX12_knownBy 238 = .ok (.ixor, 1) := by decide +kernel
theorem dX12_knownBy_239 : decode cX12_knownBy 239 = .ok (.iand, 1) := by decide +kernel
theorem dX12_knownBy_240 : decode cX12_knownBy 240 = .ok (.iload 8, 2) := by decide +kernel
theorem dX12_knownBy_242 : decode cX12_knownBy 242 = .ok (.iload 9, 2) := by decide +kernel
theorem dX12_knownBy_244 : decode cX12_knownBy 244 = .ok (.iand, 1) := by decide +kernel
theorem dX12_knownBy_245 : decode cX12_knownBy 245 = .ok (.ior, 1) := by decide +kernel
theorem dX12_knownBy_246 : decode cX12_knownBy 246 = .ok (.iload 10, 2) := by decide +kernel
theorem dX12_knownBy_248 : decode cX12_knownBy 248 = .ok (.iconst (-1), 1) := by decide +kernel
theorem dX12_knownBy_249 : decode cX12_knownBy 249 = .ok (.ixor, 1) := by decide +kernel
theorem dX12_knownBy_250 : decode cX12_knownBy 250 = .ok (.iand, 1) := by decide +kernel
theorem dX12_knownBy_251 : decode cX12_knownBy 251 = .ok (.istore_n 3, 1) := by decide +kernel
theorem dX12_knownBy_252 : decode cX12_knownBy 252 = .ok (.iload_n 2, 1) := by decide +kernel
theorem dX12_knownBy_253 : decode cX12_knownBy 253 = .ok (.aload_n 0, 1) := by decide +kernel
theorem dX12_knownBy_254 : decode cX12_knownBy 254 = .ok (.getfield 7, 3) := by decide +kernel
theorem dX12_knownBy_257 : decode cX12_knownBy 257 = .ok (.sipush 704, 3) := by decide +kernel
theorem dX12_knownBy_260 : decode cX12_knownBy 260 = .ok (.iload 5, 2) := by decide +kernel
theorem dX12_knownBy_262 : decode cX12_knownBy 262 = .ok (.iadd, 1) := by decide +kernel
theorem dX12_knownBy_263 : decode cX12_knownBy 263 = .ok (.iaload, 1) := by decide +kernel
theorem dX12_knownBy_264 : decode cX12_knownBy 264 = .ok (.ior, 1) := by decide +kernel
theorem dX12_knownBy_265 : decode cX12_knownBy 265 = .ok (.iload 10, 2) := by decide +kernel
theorem dX12_knownBy_267 : decode cX12_knownBy 267 = .ok (.iconst (-1), 1) := by decide +kernel
theorem dX12_knownBy_268 : decode cX12_knownBy 268 = .ok (.ixor, 1) := by decide +kernel
theorem dX12_knownBy_269 : decode cX12_knownBy 269 = .ok (.iand, 1) := by decide +kernel
theorem dX12_knownBy_270 : decode cX12_knownBy 270 = .ok (.istore_n 2, 1) := by decide +kernel
theorem dX12_knownBy_271 : decode cX12_knownBy 271 = .ok (.iload 7, 2) := by decide +kernel
theorem dX12_knownBy_273 : decode cX12_knownBy 273 = .ok (.istore_n 1, 1) := by decide +kernel
theorem dX12_knownBy_274 : decode cX12_knownBy 274 = .ok (.iinc 4 1, 3) := by decide +kernel
theorem dX12_knownBy_277 : decode cX12_knownBy 277 = .ok (.goto (-240), 3) := by decide +kernel
theorem dX12_knownBy_280 : decode cX12_knownBy 280 = .ok (.iload_n 2, 1) := by decide +kernel
theorem dX12_knownBy_281 : decode cX12_knownBy 281 = .ok (.invokestatic 260, 3) := by decide +kernel
theorem dX12_knownBy_284 : decode cX12_knownBy 284 = .ok (.ireturn, 1) := by decide +kernel
theorem rX12_knownBy : (∀ (d : Nat) (a1 a2 a3 a4 a5 a6 a7 a8 a9 a10 a11 : Value) (x : Nat) (st : List Value) (h : fk_H), fk_ev d qX12_knownBy 0 [.ref x, a1, a2, a3, a4, a5, a6, a7, a8, a9, a10, a11] st h = fk_ev d qX12_knownBy 1 [.ref x, a1, a2, a3, a4, a5, a6, a7, a8, a9, a10, a11] (.ref x :: st) h) ∧
  (∀ (d : Nat) (L st : List Value) (N : Nat) (y : Nat → Nat → Int32) (l : Nat → Nat → Int64), fk_ev d qX12_knownBy 1 L (.ref 246 :: st) (fk_E N y l) = fk_ev d qX12_knownBy 4 L (.ref 271 :: st) (fk_E N y l)) ∧
  (∀ (d : Nat) (a1 a2 a3 a4 a5 a6 a7 a8 a9 a10 a11 : Value) (x : Nat) (st : List Value) (h : fk_H), fk_ev d qX12_knownBy 4 [.ref x, a1, a2, a3, a4, a5, a6, a7, a8, a9, a10, a11] st h = fk_ev d qX12_knownBy 5 [.ref x, a1, a2, a3, a4, a5, a6, a7, a8, a9, a10, a11] (.ref x :: st) h) ∧
  (∀ (d : Nat) (L st : List Value) (N : Nat) (y : Nat → Nat → Int32) (l : Nat → Nat → Int64), fk_ev d qX12_knownBy 5 L (.ref 246 :: st) (fk_E N y l) = fk_ev d qX12_knownBy 8 L (.ref 272 :: st) (fk_E N y l)) ∧
  (∀ (d : Nat) (L st : List Value) (h : fk_H), fk_ev d qX12_knownBy 8 L st h = fk_ev d qX12_knownBy 9 L (.int (nI 0) :: st) h) ∧
  (∀ (d : Nat) (L st : List Value) (N : Nat) (y : Nat → Nat → Int32) (l : Nat → Nat → Int64) (i : Nat), i < 5 → fk_ev d qX12_knownBy 9 L (.int (nI i) :: .ref 272 :: st) (fk_E N y l) = fk_ev d qX12_knownBy 10 L (.int (y 272 i) :: st) (fk_E N y l)) ∧
  (∀ (d : Nat) (L st : List Value) (N : Nat) (y : Nat → Nat → Int32) (l : Nat → Nat → Int64) (i : Nat), i < 5 → fk_ev d qX12_knownBy 10 L (.int (nI i) :: .ref 271 :: st) (fk_E N y l) = fk_ev d qX12_knownBy 11 L (.int (y 271 i) :: st) (fk_E N y l)) ∧
  (∀ (d : Nat) (a0 a1 a2 a3 a4 a5 a6 a7 a8 a9 a10 a11 : Value) (x : Int32) (st : List Value) (h : fk_H), fk_ev d qX12_knownBy 11 [a0, a1, a2, a3, a4, a5, a6, a7, a8, a9, a10, a11] (.int x :: st) h = fk_ev d qX12_knownBy 12 [a0, .int x, a2, a3, a4, a5, a6, a7, a8, a9, a10, a11] st h) ∧
  (∀ (d : Nat) (a1 a2 a3 a4 a5 a6 a7 a8 a9 a10 a11 : Value) (x : Nat) (st : List Value) (h : fk_H), fk_ev d qX12_knownBy 12 [.ref x, a1, a2, a3, a4, a5, a6, a7, a8, a9, a10, a11] st h = fk_ev d qX12_knownBy 13 [.ref x, a1, a2, a3, a4, a5, a6, a7, a8, a9, a10, a11] (.ref x :: st) h) ∧
  (∀ (d : Nat) (L st : List Value) (N : Nat) (y : Nat → Nat → Int32) (l : Nat → Nat → Int64), fk_ev d qX12_knownBy 13 L (.ref 246 :: st) (fk_E N y l) = fk_ev d qX12_knownBy 16 L (.ref 247 :: st) (fk_E N y l)) ∧
  (∀ (d : Nat) (L st : List Value) (h : fk_H), fk_ev d qX12_knownBy 16 L st h = fk_ev d qX12_knownBy 19 L (.int (nI 704) :: st) h) ∧
  (∀ (d : Nat) (a0 a2 a3 a4 a5 a6 a7 a8 a9 a10 a11 : Value) (x : Int32) (st : List Value) (h : fk_H), fk_ev d qX12_knownBy 19 [a0, .int x, a2, a3, a4, a5, a6, a7, a8, a9, a10, a11] st h = fk_ev d qX12_knownBy 20 [a0, .int x, a2, a3, a4, a5, a6, a7, a8, a9, a10, a11] (.int x :: st) h) ∧
  (∀ (d : Nat) (L : List Value) (x y : Int32) (st : List Value) (h : fk_H), fk_ev d qX12_knownBy 20 L (.int y :: .int x :: st) h = fk_ev d qX12_knownBy 21 L (.int (x + y) :: st) h) ∧
  (∀ (d : Nat) (L st : List Value) (N : Nat) (y : Nat → Nat → Int32) (l : Nat → Nat → Int64) (i : Nat), i < 3912 → fk_ev d qX12_knownBy 21 L (.int (nI i) :: .ref 247 :: st) (fk_E N y l) = fk_ev d qX12_knownBy 22 L (.int (y 247 i) :: st) (fk_E N y l)) ∧
  (∀ (d : Nat) (a0 a1 a2 a3 a4 a5 a6 a7 a8 a9 a10 a11 : Value) (x : Int32) (st : List Value) (h : fk_H), fk_ev d qX12_knownBy 22 [a0, a1, a2, a3, a4, a5, a6, a7, a8, a9, a10, a11] (.int x :: st) h = fk_ev d qX12_knownBy 23 [a0, a1, .int x, a3, a4, a5, a6, a7, a8, a9, a10, a11] st h) ∧
  (∀ (d : Nat) (a1 a2 a3 a4 a5 a6 a7 a8 a9 a10 a11 : Value) (x : Nat) (st : List Value) (h : fk_H), fk_ev d qX12_knownBy 23 [.ref x, a1, a2, a3, a4, a5, a6, a7, a8, a9, a10, a11] st h = fk_ev d qX12_knownBy 24 [.ref x, a1, a2, a3, a4, a5, a6, a7, a8, a9, a10, a11] (.ref x :: st) h) ∧
  (∀ (d : Nat) (L st : List Value) (N : Nat) (y : Nat → Nat → Int32) (l : Nat → Nat → Int64), fk_ev d qX12_knownBy 24 L (.ref 246 :: st) (fk_E N y l) = fk_ev d qX12_knownBy 27 L (.ref 247 :: st) (fk_E N y l)) ∧
  (∀ (d : Nat) (L st : List Value) (h : fk_H), fk_ev d qX12_knownBy 27 L st h = fk_ev d qX12_knownBy 30 L (.int (nI 768) :: st) h) ∧
  (∀ (d : Nat) (a0 a2 a3 a4 a5 a6 a7 a8 a9 a10 a11 : Value) (x : Int32) (st : List Value) (h : fk_H), fk_ev d qX12_knownBy 30 [a0, .int x, a2, a3, a4, a5, a6, a7, a8, a9, a10, a11] st h = fk_ev d qX12_knownBy 31 [a0, .int x, a2, a3, a4, a5, a6, a7, a8, a9, a10, a11] (.int x :: st) h) ∧
  (∀ (d : Nat) (L : List Value) (x y : Int32) (st : List Value) (h : fk_H), fk_ev d qX12_knownBy 31 L (.int y :: .int x :: st) h = fk_ev d qX12_knownBy 32 L (.int (x + y) :: st) h) ∧
  (∀ (d : Nat) (L st : List Value) (N : Nat) (y : Nat → Nat → Int32) (l : Nat → Nat → Int64) (i : Nat), i < 3912 → fk_ev d qX12_knownBy 32 L (.int (nI i) :: .ref 247 :: st) (fk_E N y l) = fk_ev d qX12_knownBy 33 L (.int (y 247 i) :: st) (fk_E N y l)) ∧
  (∀ (d : Nat) (a0 a1 a2 a3 a4 a5 a6 a7 a8 a9 a10 a11 : Value) (x : Int32) (st : List Value) (h : fk_H), fk_ev d qX12_knownBy 33 [a0, a1, a2, a3, a4, a5, a6, a7, a8, a9, a10, a11] (.int x :: st) h = fk_ev d qX12_knownBy 34 [a0, a1, a2, .int x, a4, a5, a6, a7, a8, a9, a10, a11] st h) ∧
  (∀ (d : Nat) (L st : List Value) (h : fk_H), fk_ev d qX12_knownBy 34 L st h = fk_ev d qX12_knownBy 35 L (.int (nI 1) :: st) h) ∧
  (∀ (d : Nat) (a0 a1 a2 a3 a4 a5 a6 a7 a8 a9 a10 a11 : Value) (x : Int32) (st : List Value) (h : fk_H), fk_ev d qX12_knownBy 35 [a0, a1, a2, a3, a4, a5, a6, a7, a8, a9, a10, a11] (.int x :: st) h = fk_ev d qX12_knownBy 37 [a0, a1, a2, a3, .int x, a5, a6, a7, a8, a9, a10, a11] st h) ∧
  (∀ (d : Nat) (a1 a2 a3 a4 a5 a6 a7 a8 a9 a10 a11 : Value) (x : Nat) (st : List Value) (h : fk_H), fk_ev d qX12_knownBy 39 [.ref x, a1, a2, a3, a4, a5, a6, a7, a8, a9, a10, a11] st h = fk_ev d qX12_knownBy 40 [.ref x, a1, a2, a3, a4, a5, a6, a7, a8, a9, a10, a11] (.ref x :: st) h) ∧
  (∀ (d : Nat) (L st : List Value) (N : Nat) (y : Nat → Nat → Int32) (l : Nat → Nat → Int64), fk_ev d qX12_knownBy 40 L (.ref 246 :: st) (fk_E N y l) = fk_ev d qX12_knownBy 43 L (.int (y 246 44) :: st) (fk_E N y l)) ∧
  (∀ (d : Nat) (L : List Value) (x y : Int32) (st : List Value) (h : fk_H), fk_ev d qX12_knownBy 43 L (.int y :: .int x :: st) h = if y ≤ x then fk_ev d qX12_knownBy 280 L st h else fk_ev d qX12_knownBy 46 L st h) ∧
  (∀ (d : Nat) (a1 a2 a3 a4 a5 a6 a7 a8 a9 a10 a11 : Value) (x : Nat) (st : List Value) (h : fk_H), fk_ev d qX12_knownBy 46 [.ref x, a1, a2, a3, a4, a5, a6, a7, a8, a9, a10, a11] st h = fk_ev d qX12_knownBy 47 [.ref x, a1, a2, a3, a4, a5, a6, a7, a8, a9, a10, a11] (.ref x :: st) h) ∧
  (∀ (d : Nat) (L st : List Value) (N : Nat) (y : Nat → Nat → Int32) (l : Nat → Nat → Int64), fk_ev d qX12_knownBy 47 L (.ref 246 :: st) (fk_E N y l) = fk_ev d qX12_knownBy 50 L (.ref 271 :: st) (fk_E N y l)) ∧
  (∀ (d : Nat) (a1 a2 a3 a4 a5 a6 a7 a8 a9 a10 a11 : Value) (x : Nat) (st : List Value) (h : fk_H), fk_ev d qX12_knownBy 50 [.ref x, a1, a2, a3, a4, a5, a6, a7, a8, a9, a10, a11] st h = fk_ev d qX12_knownBy 51 [.ref x, a1, a2, a3, a4, a5, a6, a7, a8, a9, a10, a11] (.ref x :: st) h) ∧
  (∀ (d : Nat) (L st : List Value) (N : Nat) (y : Nat → Nat → Int32) (l : Nat → Nat → Int64), fk_ev d qX12_knownBy 51 L (.ref 246 :: st) (fk_E N y l) = fk_ev d qX12_knownBy 54 L (.ref 272 :: st) (fk_E N y l)) ∧
  (∀ (d : Nat) (a0 a1 a2 a3 a5 a6 a7 a8 a9 a10 a11 : Value) (x : Int32) (st : List Value) (h : fk_H), fk_ev d qX12_knownBy 54 [a0, a1, a2, a3, .int x, a5, a6, a7, a8, a9, a10, a11] st h = fk_ev d qX12_knownBy 56 [a0, a1, a2, a3, .int x, a5, a6, a7, a8, a9, a10, a11] (.int x :: st) h) ∧
  (∀ (d : Nat) (L st : List Value) (N : Nat) (y : Nat → Nat → Int32) (l : Nat → Nat → Int64) (i : Nat), i < 5 → fk_ev d qX12_knownBy 56 L (.int (nI i) :: .ref 272 :: st) (fk_E N y l) = fk_ev d qX12_knownBy 57 L (.int (y 272 i) :: st) (fk_E N y l)) ∧
  (∀ (d : Nat) (L st : List Value) (N : Nat) (y : Nat → Nat → Int32) (l : Nat → Nat → Int64) (i : Nat), i < 5 → fk_ev d qX12_knownBy 57 L (.int (nI i) :: .ref 271 :: st) (fk_E N y l) = fk_ev d qX12_knownBy 58 L (.int (y 271 i) :: st) (fk_E N y l)) ∧
  (∀ (d : Nat) (a0 a1 a2 a3 a4 a5 a6 a7 a8 a9 a10 a11 : Value) (x : Int32) (st : List Value) (h : fk_H), fk_ev d qX12_knownBy 58 [a0, a1, a2, a3, a4, a5, a6, a7, a8, a9, a10, a11] (.int x :: st) h = fk_ev d qX12_knownBy 60 [a0, a1, a2, a3, a4, .int x, a6, a7, a8, a9, a10, a11] st h) ∧
  (∀ (d : Nat) (a0 a2 a3 a4 a5 a6 a7 a8 a9 a10 a11 : Value) (x : Int32) (st : List Value) (h : fk_H), fk_ev d qX12_knownBy 60 [a0, .int x, a2, a3, a4, a5, a6, a7, a8, a9, a10, a11] st h = fk_ev d qX12_knownBy 61 [a0, .int x, a2, a3, a4, a5, a6, a7, a8, a9, a10, a11] (.int x :: st) h) ∧
  (∀ (d : Nat) (a0 a1 a2 a3 a4 a6 a7 a8 a9 a10 a11 : Value) (x : Int32) (st : List Value) (h : fk_H), fk_ev d qX12_knownBy 61 [a0, a1, a2, a3, a4, .int x, a6, a7, a8, a9, a10, a11] st h = fk_ev d qX12_knownBy 63 [a0, a1, a2, a3, a4, .int x, a6, a7, a8, a9, a10, a11] (.int x :: st) h) ∧
  (∀ (d : Nat) (L : List Value) (x y : Int32) (st : List Value) (h : fk_H), fk_ev d qX12_knownBy 63 L (.int y :: .int x :: st) h = if y ≤ x then fk_ev d qX12_knownBy 70 L st h else fk_ev d qX12_knownBy 66 L st h) ∧
  (∀ (d : Nat) (L st : List Value) (h : fk_H), fk_ev d qX12_knownBy 66 L st h = fk_ev d qX12_knownBy 67 L (.int (nI 1) :: st) h) ∧
  (∀ (d : Nat) (L st : List Value) (h : fk_H), fk_ev d qX12_knownBy 67 L st h = fk_ev d qX12_knownBy 71 L st h) ∧
  (∀ (d : Nat) (L st : List Value) (h : fk_H), fk_ev d qX12_knownBy 70 L st h = fk_ev d qX12_knownBy 71 L (.int (nI 0) :: st) h) ∧
  (∀ (d : Nat) (a0 a1 a2 a3 a4 a5 a6 a7 a8 a9 a10 a11 : Value) (x : Int32) (st : List Value) (h : fk_H), fk_ev d qX12_knownBy 71 [a0, a1, a2, a3, a4, a5, a6, a7, a8, a9, a10, a11] (.int x :: st) h = fk_ev d qX12_knownBy 73 [a0, a1, a2, a3, a4, a5, .int x, a7, a8, a9, a10, a11] st h) ∧
  (∀ (d : Nat) (a0 a2 a3 a4 a5 a6 a7 a8 a9 a10 a11 : Value) (x : Int32) (st : List Value) (h : fk_H), fk_ev d qX12_knownBy 73 [a0, .int x, a2, a3, a4, a5, a6, a7, a8, a9, a10, a11] st h = fk_ev d qX12_knownBy 74 [a0, .int x, a2, a3, a4, a5, a6, a7, a8, a9, a10, a11] (.int x :: st) h) ∧
  (∀ (d : Nat) (a0 a1 a2 a3 a4 a6 a7 a8 a9 a10 a11 : Value) (x : Int32) (st : List Value) (h : fk_H), fk_ev d qX12_knownBy 74 [a0, a1, a2, a3, a4, .int x, a6, a7, a8, a9, a10, a11] st h = fk_ev d qX12_knownBy 76 [a0, a1, a2, a3, a4, .int x, a6, a7, a8, a9, a10, a11] (.int x :: st) h) ∧
  (∀ (d : Nat) (L : List Value) (x0 : Int32) (x1 : Int32)  (h : fk_H), fk_ev (d + 1) qX12_knownBy 76 L (.int x1 :: .int x0 :: []) h = (fk_ev d qX12_min 0 [.int x0, .int x1] [] h).bind fun o => fk_ev (d + 1) qX12_knownBy 79 L (o.1.toList ++ []) o.2) ∧
  (∀ (d : Nat) (a0 a1 a2 a3 a4 a5 a6 a7 a8 a9 a10 a11 : Value) (x : Int32) (st : List Value) (h : fk_H), fk_ev d qX12_knownBy 79 [a0, a1, a2, a3, a4, a5, a6, a7, a8, a9, a10, a11] (.int x :: st) h = fk_ev d qX12_knownBy 81 [a0, a1, a2, a3, a4, a5, a6, .int x, a8, a9, a10, a11] st h) ∧
  (∀ (d : Nat) (a0 a1 a2 a3 a4 a5 a7 a8 a9 a10 a11 : Value) (x : Int32) (st : List Value) (h : fk_H), fk_ev d qX12_knownBy 81 [a0, a1, a2, a3, a4, a5, .int x, a7, a8, a9, a10, a11] st h = fk_ev d qX12_knownBy 83 [a0, a1, a2, a3, a4, a5, .int x, a7, a8, a9, a10, a11] (.int x :: st) h) ∧
  (∀ (d : Nat) (L : List Value) (x : Int32) (st : List Value) (h : fk_H), fk_ev d qX12_knownBy 83 L (.int x :: st) h = if x = nI 0 then fk_ev d qX12_knownBy 90 L st h else fk_ev d qX12_knownBy 86 L st h) ∧
  (∀ (d : Nat) (a0 a1 a2 a4 a5 a6 a7 a8 a9 a10 a11 : Value) (x : Int32) (st : List Value) (h : fk_H), fk_ev d qX12_knownBy 86 [a0, a1, a2, .int x, a4, a5, a6, a7, a8, a9, a10, a11] st h = fk_ev d qX12_knownBy 87 [a0, a1, a2, .int x, a4, a5, a6, a7, a8, a9, a10, a11] (.int x :: st) h) ∧
  (∀ (d : Nat) (L st : List Value) (h : fk_H), fk_ev d qX12_knownBy 87 L st h = fk_ev d qX12_knownBy 101 L st h) ∧
  (∀ (d : Nat) (a1 a2 a3 a4 a5 a6 a7 a8 a9 a10 a11 : Value) (x : Nat) (st : List Value) (h : fk_H), fk_ev d qX12_knownBy 90 [.ref x, a1, a2, a3, a4, a5, a6, a7, a8, a9, a10, a11] st h = fk_ev d qX12_knownBy 91 [.ref x, a1, a2, a3, a4, a5, a6, a7, a8, a9, a10, a11] (.ref x :: st) h) ∧
  (∀ (d : Nat) (L st : List Value) (N : Nat) (y : Nat → Nat → Int32) (l : Nat → Nat → Int64), fk_ev d qX12_knownBy 91 L (.ref 246 :: st) (fk_E N y l) = fk_ev d qX12_knownBy 94 L (.ref 247 :: st) (fk_E N y l)) ∧
  (∀ (d : Nat) (L st : List Value) (h : fk_H), fk_ev d qX12_knownBy 94 L st h = fk_ev d qX12_knownBy 97 L (.int (nI 768) :: st) h) ∧
  (∀ (d : Nat) (a0 a1 a2 a3 a4 a6 a7 a8 a9 a10 a11 : Value) (x : Int32) (st : List Value) (h : fk_H), fk_ev d qX12_knownBy 97 [a0, a1, a2, a3, a4, .int x, a6, a7, a8, a9, a10, a11] st h = fk_ev d qX12_knownBy 99 [a0, a1, a2, a3, a4, .int x, a6, a7, a8, a9, a10, a11] (.int x :: st) h) ∧
  (∀ (d : Nat) (L : List Value) (x y : Int32) (st : List Value) (h : fk_H), fk_ev d qX12_knownBy 99 L (.int y :: .int x :: st) h = fk_ev d qX12_knownBy 100 L (.int (x + y) :: st) h) ∧
  (∀ (d : Nat) (L st : List Value) (N : Nat) (y : Nat → Nat → Int32) (l : Nat → Nat → Int64) (i : Nat), i < 3912 → fk_ev d qX12_knownBy 100 L (.int (nI i) :: .ref 247 :: st) (fk_E N y l) = fk_ev d qX12_knownBy 101 L (.int (y 247 i) :: st) (fk_E N y l)) ∧
  (∀ (d : Nat) (a0 a1 a2 a3 a4 a5 a6 a7 a8 a9 a10 a11 : Value) (x : Int32) (st : List Value) (h : fk_H), fk_ev d qX12_knownBy 101 [a0, a1, a2, a3, a4, a5, a6, a7, a8, a9, a10, a11] (.int x :: st) h = fk_ev d qX12_knownBy 103 [a0, a1, a2, a3, a4, a5, a6, a7, .int x, a9, a10, a11] st h) ∧
  (∀ (d : Nat) (a0 a1 a3 a4 a5 a6 a7 a8 a9 a10 a11 : Value) (x : Int32) (st : List Value) (h : fk_H), fk_ev d qX12_knownBy 103 [a0, a1, .int x, a3, a4, a5, a6, a7, a8, a9, a10, a11] st h = fk_ev d qX12_knownBy 104 [a0, a1, .int x, a3, a4, a5, a6, a7, a8, a9, a10, a11] (.int x :: st) h) ∧
  (∀ (d : Nat) (a1 a2 a3 a4 a5 a6 a7 a8 a9 a10 a11 : Value) (x : Nat) (st : List Value) (h : fk_H), fk_ev d qX12_knownBy 104 [.ref x, a1, a2, a3, a4, a5, a6, a7, a8, a9, a10, a11] st h = fk_ev d qX12_knownBy 105 [.ref x, a1, a2, a3, a4, a5, a6, a7, a8, a9, a10, a11] (.ref x :: st) h) ∧
  (∀ (d : Nat) (L st : List Value) (N : Nat) (y : Nat → Nat → Int32) (l : Nat → Nat → Int64), fk_ev d qX12_knownBy 105 L (.ref 246 :: st) (fk_E N y l) = fk_ev d qX12_knownBy 108 L (.ref 247 :: st) (fk_E N y l)) ∧
  (∀ (d : Nat) (L st : List Value) (h : fk_H), fk_ev d qX12_knownBy 108 L st h = fk_ev d qX12_knownBy 111 L (.int (nI 704) :: st) h) ∧
  (∀ (d : Nat) (a0 a1 a2 a3 a4 a6 a7 a8 a9 a10 a11 : Value) (x : Int32) (st : List Value) (h : fk_H), fk_ev d qX12_knownBy 111 [a0, a1, a2, a3, a4, .int x, a6, a7, a8, a9, a10, a11] st h = fk_ev d qX12_knownBy 113 [a0, a1, a2, a3, a4, .int x, a6, a7, a8, a9, a10, a11] (.int x :: st) h) ∧
  (∀ (d : Nat) (L : List Value) (x y : Int32) (st : List Value) (h : fk_H), fk_ev d qX12_knownBy 113 L (.int y :: .int x :: st) h = fk_ev d qX12_knownBy 114 L (.int (x + y) :: st) h) ∧
  (∀ (d : Nat) (L st : List Value) (N : Nat) (y : Nat → Nat → Int32) (l : Nat → Nat → Int64) (i : Nat), i < 3912 → fk_ev d qX12_knownBy 114 L (.int (nI i) :: .ref 247 :: st) (fk_E N y l) = fk_ev d qX12_knownBy 115 L (.int (y 247 i) :: st) (fk_E N y l)) ∧
  (∀ (d : Nat) (L : List Value) (x y : Int32) (st : List Value) (h : fk_H), fk_ev d qX12_knownBy 115 L (.int y :: .int x :: st) h = fk_ev d qX12_knownBy 116 L (.int (x &&& y) :: st) h) ∧
  (∀ (d : Nat) (a0 a1 a2 a4 a5 a6 a7 a8 a9 a10 a11 : Value) (x : Int32) (st : List Value) (h : fk_H), fk_ev d qX12_knownBy 116 [a0, a1, a2, .int x, a4, a5, a6, a7, a8, a9, a10, a11] st h = fk_ev d qX12_knownBy 117 [a0, a1, a2, .int x, a4, a5, a6, a7, a8, a9, a10, a11] (.int x :: st) h) ∧
  (∀ (d : Nat) (a1 a2 a3 a4 a5 a6 a7 a8 a9 a10 a11 : Value) (x : Nat) (st : List Value) (h : fk_H), fk_ev d qX12_knownBy 117 [.ref x, a1, a2, a3, a4, a5, a6, a7, a8, a9, a10, a11] st h = fk_ev d qX12_knownBy 118 [.ref x, a1, a2, a3, a4, a5, a6, a7, a8, a9, a10, a11] (.ref x :: st) h) ∧
  (∀ (d : Nat) (L st : List Value) (N : Nat) (y : Nat → Nat → Int32) (l : Nat → Nat → Int64), fk_ev d qX12_knownBy 118 L (.ref 246 :: st) (fk_E N y l) = fk_ev d qX12_knownBy 121 L (.ref 247 :: st) (fk_E N y l)) ∧
  (∀ (d : Nat) (L st : List Value) (h : fk_H), fk_ev d qX12_knownBy 121 L st h = fk_ev d qX12_knownBy 124 L (.int (nI 768) :: st) h) ∧
  (∀ (d : Nat) (a0 a1 a2 a3 a4 a6 a7 a8 a9 a10 a11 : Value) (x : Int32) (st : List Value) (h : fk_H), fk_ev d qX12_knownBy 124 [a0, a1, a2, a3, a4, .int x, a6, a7, a8, a9, a10, a11] st h = fk_ev d qX12_knownBy 126 [a0, a1, a2, a3, a4, .int x, a6, a7, a8, a9, a10, a11] (.int x :: st) h) ∧
  (∀ (d : Nat) (L : List Value) (x y : Int32) (st : List Value) (h : fk_H), fk_ev d qX12_knownBy 126 L (.int y :: .int x :: st) h = fk_ev d qX12_knownBy 127 L (.int (x + y) :: st) h) ∧
  (∀ (d : Nat) (L st : List Value) (N : Nat) (y : Nat → Nat → Int32) (l : Nat → Nat → Int64) (i : Nat), i < 3912 → fk_ev d qX12_knownBy 127 L (.int (nI i) :: .ref 247 :: st) (fk_E N y l) = fk_ev d qX12_knownBy 128 L (.int (y 247 i) :: st) (fk_E N y l)) ∧
  (∀ (d : Nat) (L : List Value) (x y : Int32) (st : List Value) (h : fk_H), fk_ev d qX12_knownBy 128 L (.int y :: .int x :: st) h = fk_ev d qX12_knownBy 129 L (.int (x ^^^ y) :: st) h) ∧
  (∀ (d : Nat) (L : List Value) (x y : Int32) (st : List Value) (h : fk_H), fk_ev d qX12_knownBy 129 L (.int y :: .int x :: st) h = fk_ev d qX12_knownBy 130 L (.int (x &&& y) :: st) h) ∧
  (∀ (d : Nat) (a0 a1 a2 a3 a4 a5 a6 a7 a8 a9 a10 a11 : Value) (x : Int32) (st : List Value) (h : fk_H), fk_ev d qX12_knownBy 130 [a0, a1, a2, a3, a4, a5, a6, a7, a8, a9, a10, a11] (.int x :: st) h = fk_ev d qX12_knownBy 132 [a0, a1, a2, a3, a4, a5, a6, a7, a8, .int x, a10, a11] st h) ∧
  (∀ (d : Nat) (L st : List Value) (h : fk_H), fk_ev d qX12_knownBy 132 L st h = fk_ev d qX12_knownBy 133 L (.int (nI 0) :: st) h) ∧
  (∀ (d : Nat) (a0 a1 a2 a3 a4 a5 a6 a7 a8 a9 a10 a11 : Value) (x : Int32) (st : List Value) (h : fk_H), fk_ev d qX12_knownBy 133 [a0, a1, a2, a3, a4, a5, a6, a7, a8, a9, a10, a11] (.int x :: st) h = fk_ev d qX12_knownBy 135 [a0, a1, a2, a3, a4, a5, a6, a7, a8, a9, .int x, a11] st h) ∧
  (∀ (d : Nat) (a1 a2 a3 a4 a5 a6 a7 a8 a9 a10 a11 : Value) (x : Nat) (st : List Value) (h : fk_H), fk_ev d qX12_knownBy 135 [.ref x, a1, a2, a3, a4, a5, a6, a7, a8, a9, a10, a11] st h = fk_ev d qX12_knownBy 136 [.ref x, a1, a2, a3, a4, a5, a6, a7, a8, a9, a10, a11] (.ref x :: st) h) ∧
  (∀ (d : Nat) (a0 a1 a2 a3 a4 a5 a6 a8 a9 a10 a11 : Value) (x : Int32) (st : List Value) (h : fk_H), fk_ev d qX12_knownBy 136 [a0, a1, a2, a3, a4, a5, a6, .int x, a8, a9, a10, a11] st h = fk_ev d qX12_knownBy 138 [a0, a1, a2, a3, a4, a5, a6, .int x, a8, a9, a10, a11] (.int x :: st) h) ∧
  (∀ (d : Nat) (L : List Value) (x0 : Int32)  (N : Nat) (y : Nat → Nat → Int32) (l : Nat → Nat → Int64), fk_ev (d + 1) qX12_knownBy 138 L (.int x0 :: .ref 246 :: []) (fk_E N y l) = (fk_ev d qX12_feels 0 [.ref 246, .int x0, .null] [] (fk_E N y l)).bind fun o => fk_ev (d + 1) qX12_knownBy 141 L (o.1.toList ++ []) o.2) ∧
  (∀ (d : Nat) (L st : List Value) (h : fk_H), fk_ev d qX12_knownBy 141 L st h = fk_ev d qX12_knownBy 142 L (.int (nI 0) :: st) h) ∧
  (∀ (d : Nat) (a0 a1 a2 a3 a4 a5 a6 a7 a8 a9 a10 a11 : Value) (x : Int32) (st : List Value) (h : fk_H), fk_ev d qX12_knownBy 142 [a0, a1, a2, a3, a4, a5, a6, a7, a8, a9, a10, a11] (.int x :: st) h = fk_ev d qX12_knownBy 144 [a0, a1, a2, a3, a4, a5, a6, a7, a8, a9, a10, .int x] st h) ∧
  (∀ (d : Nat) (L st : List Value) (h : fk_H), fk_ev d qX12_knownBy 146 L st h = fk_ev d qX12_knownBy 148 L (.int (nI 16) :: st) h) ∧
  (∀ (d : Nat) (L : List Value) (x y : Int32) (st : List Value) (h : fk_H), fk_ev d qX12_knownBy 148 L (.int y :: .int x :: st) h = if y ≤ x then fk_ev d qX12_knownBy 208 L st h else fk_ev d qX12_knownBy 151 L st h) ∧
  (∀ (d : Nat) (a0 a1 a2 a3 a4 a5 a6 a7 a8 a10 a11 : Value) (x : Int32) (st : List Value) (h : fk_H), fk_ev d qX12_knownBy 151 [a0, a1, a2, a3, a4, a5, a6, a7, a8, .int x, a10, a11] st h = fk_ev d qX12_knownBy 153 [a0, a1, a2, a3, a4, a5, a6, a7, a8, .int x, a10, a11] (.int x :: st) h) ∧
  (∀ (d : Nat) (a0 a1 a2 a3 a4 a5 a6 a7 a8 a9 a10 : Value) (x : Int32) (st : List Value) (h : fk_H), fk_ev d qX12_knownBy 153 [a0, a1, a2, a3, a4, a5, a6, a7, a8, a9, a10, .int x] st h = fk_ev d qX12_knownBy 155 [a0, a1, a2, a3, a4, a5, a6, a7, a8, a9, a10, .int x] (.int x :: st) h) ∧
  (∀ (d : Nat) (L : List Value) (x0 : Int32) (x1 : Int32)  (h : fk_H), fk_ev (d + 1) qX12_knownBy 155 L (.int x1 :: .int x0 :: []) h = (fk_ev d qX12_has 0 [.int x0, .int x1] [] h).bind fun o => fk_ev (d + 1) qX12_knownBy 158 L (o.1.toList ++ []) o.2) ∧
  (∀ (d : Nat) (L : List Value) (x : Int32) (st : List Value) (h : fk_H), fk_ev d qX12_knownBy 158 L (.int x :: st) h = if ¬ x = nI 0 then fk_ev d qX12_knownBy 164 L st h else fk_ev d qX12_knownBy 161 L st h) ∧
  (∀ (d : Nat) (L st : List Value) (h : fk_H), fk_ev d qX12_knownBy 161 L st h = fk_ev d qX12_knownBy 202 L st h) ∧
  (∀ (d : Nat) (a1 a2 a3 a4 a5 a6 a7 a8 a9 a10 a11 : Value) (x : Nat) (st : List Value) (h : fk_H), fk_ev d qX12_knownBy 164 [.ref x, a1, a2, a3, a4, a5, a6, a7, a8, a9, a10, a11] st h = fk_ev d qX12_knownBy 165 [.ref x, a1, a2, a3, a4, a5, a6, a7, a8, a9, a10, a11] (.ref x :: st) h) ∧
  (∀ (d : Nat) (L st : List Value) (N : Nat) (y : Nat → Nat → Int32) (l : Nat → Nat → Int64), fk_ev d qX12_knownBy 165 L (.ref 246 :: st) (fk_E N y l) = fk_ev d qX12_knownBy 168 L (.ref 268 :: st) (fk_E N y l)) ∧
  (∀ (d : Nat) (L st : List Value) (h : fk_H), fk_ev d qX12_knownBy 168 L st h = fk_ev d qX12_knownBy 170 L (.int (nI 12) :: st) h) ∧
  (∀ (d : Nat) (a0 a1 a2 a3 a4 a5 a6 a7 a8 a9 a10 : Value) (x : Int32) (st : List Value) (h : fk_H), fk_ev d qX12_knownBy 170 [a0, a1, a2, a3, a4, a5, a6, a7, a8, a9, a10, .int x] st h = fk_ev d qX12_knownBy 172 [a0, a1, a2, a3, a4, a5, a6, a7, a8, a9, a10, .int x] (.int x :: st) h) ∧
  (∀ (d : Nat) (L st : List Value) (N : Nat) (y : Nat → Nat → Int32) (l : Nat → Nat → Int64) (i : Nat) (v : Int32), i < 14 → fk_ev d qX12_knownBy 172 L (.int v :: .int (nI i) :: .ref 268 :: st) (fk_E N y l) = fk_ev d qX12_knownBy 173 L st (fk_E N (fk_u y 268 i v) l)) ∧
  (∀ (d : Nat) (a1 a2 a3 a4 a5 a6 a7 a8 a9 a10 a11 : Value) (x : Nat) (st : List Value) (h : fk_H), fk_ev d qX12_knownBy 173 [.ref x, a1, a2, a3, a4, a5, a6, a7, a8, a9, a10, a11] st h = fk_ev d qX12_knownBy 174 [.ref x, a1, a2, a3, a4, a5, a6, a7, a8, a9, a10, a11] (.ref x :: st) h) ∧
  (∀ (d : Nat) (L st : List Value) (N : Nat) (y : Nat → Nat → Int32) (l : Nat → Nat → Int64), fk_ev d qX12_knownBy 174 L (.ref 246 :: st) (fk_E N y l) = fk_ev d qX12_knownBy 177 L (.ref 268 :: st) (fk_E N y l)) ∧
  (∀ (d : Nat) (L st : List Value) (h : fk_H), fk_ev d qX12_knownBy 177 L st h = fk_ev d qX12_knownBy 179 L (.int (nI 13) :: st) h) ∧
  (∀ (d : Nat) (a0 a2 a3 a4 a5 a6 a7 a8 a9 a10 a11 : Value) (x : Int32) (st : List Value) (h : fk_H), fk_ev d qX12_knownBy 179 [a0, .int x, a2, a3, a4, a5, a6, a7, a8, a9, a10, a11] st h = fk_ev d qX12_knownBy 180 [a0, .int x, a2, a3, a4, a5, a6, a7, a8, a9, a10, a11] (.int x :: st) h) ∧
  (∀ (d : Nat) (a0 a1 a2 a3 a4 a6 a7 a8 a9 a10 a11 : Value) (x : Int32) (st : List Value) (h : fk_H), fk_ev d qX12_knownBy 180 [a0, a1, a2, a3, a4, .int x, a6, a7, a8, a9, a10, a11] st h = fk_ev d qX12_knownBy 182 [a0, a1, a2, a3, a4, .int x, a6, a7, a8, a9, a10, a11] (.int x :: st) h) ∧
  (∀ (d : Nat) (L : List Value) (x0 : Int32) (x1 : Int32) (w0 w1 : Value) (h : fk_H), fk_ev (d + 1) qX12_knownBy 182 L (.int x1 :: .int x0 :: [w0, w1]) h = (fk_ev d qX12_max 0 [.int x0, .int x1] [] h).bind fun o => fk_ev (d + 1) qX12_knownBy 185 L (o.1.toList ++ [w0, w1]) o.2) ∧
  (∀ (d : Nat) (L st : List Value) (N : Nat) (y : Nat → Nat → Int32) (l : Nat → Nat → Int64) (i : Nat) (v : Int32), i < 14 → fk_ev d qX12_knownBy 185 L (.int v :: .int (nI i) :: .ref 268 :: st) (fk_E N y l) = fk_ev d qX12_knownBy 186 L st (fk_E N (fk_u y 268 i v) l)) ∧
  (∀ (d : Nat) (a1 a2 a3 a4 a5 a6 a7 a8 a9 a10 a11 : Value) (x : Nat) (st : List Value) (h : fk_H), fk_ev d qX12_knownBy 186 [.ref x, a1, a2, a3, a4, a5, a6, a7, a8, a9, a10, a11] st h = fk_ev d qX12_knownBy 187 [.ref x, a1, a2, a3, a4, a5, a6, a7, a8, a9, a10, a11] (.ref x :: st) h) ∧
  (∀ (d : Nat) (L : List Value)   (N : Nat) (y : Nat → Nat → Int32) (l : Nat → Nat → Int64), fk_ev (d + 1) qX12_knownBy 187 L (.ref 246 :: []) (fk_E N y l) = (fk_ev d qX12_isElder 0 [.ref 246, .null] [] (fk_E N y l)).bind fun o => fk_ev (d + 1) qX12_knownBy 190 L (o.1.toList ++ []) o.2) ∧
  (∀ (d : Nat) (L : List Value) (x : Int32) (st : List Value) (h : fk_H), fk_ev d qX12_knownBy 190 L (.int x :: st) h = if ¬ x = nI 0 then fk_ev d qX12_knownBy 202 L st h else fk_ev d qX12_knownBy 193 L st h) ∧
  (∀ (d : Nat) (a0 a1 a2 a3 a4 a5 a6 a7 a8 a9 a11 : Value) (x : Int32) (st : List Value) (h : fk_H), fk_ev d qX12_knownBy 193 [a0, a1, a2, a3, a4, a5, a6, a7, a8, a9, .int x, a11] st h = fk_ev d qX12_knownBy 195 [a0, a1, a2, a3, a4, a5, a6, a7, a8, a9, .int x, a11] (.int x :: st) h) ∧
  (∀ (d : Nat) (L st : List Value) (h : fk_H), fk_ev d qX12_knownBy 195 L st h = fk_ev d qX12_knownBy 196 L (.int (nI 1) :: st) h) ∧
  (∀ (d : Nat) (a0 a1 a2 a3 a4 a5 a6 a7 a8 a9 a10 : Value) (x : Int32) (st : List Value) (h : fk_H), fk_ev d qX12_knownBy 196 [a0, a1, a2, a3, a4, a5, a6, a7, a8, a9, a10, .int x] st h = fk_ev d qX12_knownBy 198 [a0, a1, a2, a3, a4, a5, a6, a7, a8, a9, a10, .int x] (.int x :: st) h) ∧
  (∀ (d : Nat) (L : List Value) (x y : Int32) (st : List Value) (h : fk_H), fk_ev d qX12_knownBy 198 L (.int y :: .int x :: st) h = fk_ev d qX12_knownBy 199 L (.int (x <<< (y &&& 31)) :: st) h) ∧
  (∀ (d : Nat) (L : List Value) (x y : Int32) (st : List Value) (h : fk_H), fk_ev d qX12_knownBy 199 L (.int y :: .int x :: st) h = fk_ev d qX12_knownBy 200 L (.int (x ||| y) :: st) h) ∧
  (∀ (d : Nat) (a0 a1 a2 a3 a4 a5 a6 a7 a8 a9 a10 a11 : Value) (x : Int32) (st : List Value) (h : fk_H), fk_ev d qX12_knownBy 200 [a0, a1, a2, a3, a4, a5, a6, a7, a8, a9, a10, a11] (.int x :: st) h = fk_ev d qX12_knownBy 202 [a0, a1, a2, a3, a4, a5, a6, a7, a8, a9, .int x, a11] st h) ∧
  (∀ (d : Nat) (a0 a1 a2 a3 a4 a5 a6 a7 a8 a9 a10 : Value) (x : Int32) (st : List Value) (h : fk_H), fk_ev d qX12_knownBy 202 [a0, a1, a2, a3, a4, a5, a6, a7, a8, a9, a10, .int x] st h = fk_ev d qX12_knownBy 205 [a0, a1, a2, a3, a4, a5, a6, a7, a8, a9, a10, .int (x + nI 1)] st h) ∧
  (∀ (d : Nat) (L st : List Value) (h : fk_H), fk_ev d qX12_knownBy 205 L st h = fk_ev d qX12_knownBy 144 L st h) ∧
  (∀ (d : Nat) (a0 a1 a2 a4 a5 a6 a7 a8 a9 a10 a11 : Value) (x : Int32) (st : List Value) (h : fk_H), fk_ev d qX12_knownBy 208 [a0, a1, a2, .int x, a4, a5, a6, a7, a8, a9, a10, a11] st h = fk_ev d qX12_knownBy 209 [a0, a1, a2, .int x, a4, a5, a6, a7, a8, a9, a10, a11] (.int x :: st) h) ∧
  (∀ (d : Nat) (a0 a1 a3 a4 a5 a6 a7 a8 a9 a10 a11 : Value) (x : Int32) (st : List Value) (h : fk_H), fk_ev d qX12_knownBy 209 [a0, a1, .int x, a3, a4, a5, a6, a7, a8, a9, a10, a11] st h = fk_ev d qX12_knownBy 210 [a0, a1, .int x, a3, a4, a5, a6, a7, a8, a9, a10, a11] (.int x :: st) h) ∧
  (∀ (d : Nat) (L : List Value) (x y : Int32) (st : List Value) (h : fk_H), fk_ev d qX12_knownBy 210 L (.int y :: .int x :: st) h = fk_ev d qX12_knownBy 211 L (.int (x &&& y) :: st) h) ∧
  (∀ (d : Nat) (a1 a2 a3 a4 a5 a6 a7 a8 a9 a10 a11 : Value) (x : Nat) (st : List Value) (h : fk_H), fk_ev d qX12_knownBy 211 [.ref x, a1, a2, a3, a4, a5, a6, a7, a8, a9, a10, a11] st h = fk_ev d qX12_knownBy 212 [.ref x, a1, a2, a3, a4, a5, a6, a7, a8, a9, a10, a11] (.ref x :: st) h) ∧
  (∀ (d : Nat) (L st : List Value) (N : Nat) (y : Nat → Nat → Int32) (l : Nat → Nat → Int64), fk_ev d qX12_knownBy 212 L (.ref 246 :: st) (fk_E N y l) = fk_ev d qX12_knownBy 215 L (.ref 247 :: st) (fk_E N y l)) ∧
  (∀ (d : Nat) (L st : List Value) (h : fk_H), fk_ev d qX12_knownBy 215 L st h = fk_ev d qX12_knownBy 218 L (.int (nI 768) :: st) h) ∧
  (∀ (d : Nat) (a0 a1 a2 a3 a4 a6 a7 a8 a9 a10 a11 : Value) (x : Int32) (st : List Value) (h : fk_H), fk_ev d qX12_knownBy 218 [a0, a1, a2, a3, a4, .int x, a6, a7, a8, a9, a10, a11] st h = fk_ev d qX12_knownBy 220 [a0, a1, a2, a3, a4, .int x, a6, a7, a8, a9, a10, a11] (.int x :: st) h) ∧
  (∀ (d : Nat) (L : List Value) (x y : Int32) (st : List Value) (h : fk_H), fk_ev d qX12_knownBy 220 L (.int y :: .int x :: st) h = fk_ev d qX12_knownBy 221 L (.int (x + y) :: st) h) ∧
  (∀ (d : Nat) (L st : List Value) (N : Nat) (y : Nat → Nat → Int32) (l : Nat → Nat → Int64) (i : Nat), i < 3912 → fk_ev d qX12_knownBy 221 L (.int (nI i) :: .ref 247 :: st) (fk_E N y l) = fk_ev d qX12_knownBy 222 L (.int (y 247 i) :: st) (fk_E N y l)) ∧
  (∀ (d : Nat) (a1 a2 a3 a4 a5 a6 a7 a8 a9 a10 a11 : Value) (x : Nat) (st : List Value) (h : fk_H), fk_ev d qX12_knownBy 222 [.ref x, a1, a2, a3, a4, a5, a6, a7, a8, a9, a10, a11] st h = fk_ev d qX12_knownBy 223 [.ref x, a1, a2, a3, a4, a5, a6, a7, a8, a9, a10, a11] (.ref x :: st) h) ∧
  (∀ (d : Nat) (L st : List Value) (N : Nat) (y : Nat → Nat → Int32) (l : Nat → Nat → Int64), fk_ev d qX12_knownBy 223 L (.ref 246 :: st) (fk_E N y l) = fk_ev d qX12_knownBy 226 L (.ref 247 :: st) (fk_E N y l)) ∧
  (∀ (d : Nat) (L st : List Value) (h : fk_H), fk_ev d qX12_knownBy 226 L st h = fk_ev d qX12_knownBy 229 L (.int (nI 704) :: st) h) ∧
  (∀ (d : Nat) (a0 a1 a2 a3 a4 a6 a7 a8 a9 a10 a11 : Value) (x : Int32) (st : List Value) (h : fk_H), fk_ev d qX12_knownBy 229 [a0, a1, a2, a3, a4, .int x, a6, a7, a8, a9, a10, a11] st h = fk_ev d qX12_knownBy 231 [a0, a1, a2, a3, a4, .int x, a6, a7, a8, a9, a10, a11] (.int x :: st) h) ∧
  (∀ (d : Nat) (L : List Value) (x y : Int32) (st : List Value) (h : fk_H), fk_ev d qX12_knownBy 231 L (.int y :: .int x :: st) h = fk_ev d qX12_knownBy 232 L (.int (x + y) :: st) h) ∧
  (∀ (d : Nat) (L st : List Value) (N : Nat) (y : Nat → Nat → Int32) (l : Nat → Nat → Int64) (i : Nat), i < 3912 → fk_ev d qX12_knownBy 232 L (.int (nI i) :: .ref 247 :: st) (fk_E N y l) = fk_ev d qX12_knownBy 233 L (.int (y 247 i) :: st) (fk_E N y l)) ∧
  (∀ (d : Nat) (L : List Value) (x y : Int32) (st : List Value) (h : fk_H), fk_ev d qX12_knownBy 233 L (.int y :: .int x :: st) h = fk_ev d qX12_knownBy 234 L (.int (x &&& y) :: st) h) ∧
  (∀ (d : Nat) (L : List Value) (x y : Int32) (st : List Value) (h : fk_H), fk_ev d qX12_knownBy 234 L (.int y :: .int x :: st) h = fk_ev d qX12_knownBy 235 L (.int (x ||| y) :: st) h) ∧
  (∀ (d : Nat) (a0 a1 a2 a3 a4 a5 a6 a7 a8 a10 a11 : Value) (x : Int32) (st : List Value) (h : fk_H), fk_ev d qX12_knownBy 235 [a0, a1, a2, a3, a4, a5, a6, a7, a8, .int x, a10, a11] st h = fk_ev d qX12_knownBy 237 [a0, a1, a2, a3, a4, a5, a6, a7, a8, .int x, a10, a11] (.int x :: st) h) ∧
  (∀ (d : Nat) (L st : List Value) (h : fk_H), fk_ev d qX12_knownBy 237 L st h = fk_ev d qX12_knownBy 238 L (.int ((-1 : Int32)) :: st) h) ∧
  (∀ (d : Nat) (L : List Value) (x y : Int32) (st : List Value) (h : fk_H), fk_ev d qX12_knownBy 238 L (.int y :: .int x :: st) h = fk_ev d qX12_knownBy 239 L (.int (x ^^^ y) :: st) h) ∧
  (∀ (d : Nat) (L : List Value) (x y : Int32) (st : List Value) (h : fk_H), fk_ev d qX12_knownBy 239 L (.int y :: .int x :: st) h = fk_ev d qX12_knownBy 240 L (.int (x &&& y) :: st) h) ∧
  (∀ (d : Nat) (a0 a1 a2 a3 a4 a5 a6 a7 a9 a10 a11 : Value) (x : Int32) (st : List Value) (h : fk_H), fk_ev d qX12_knownBy 240 [a0, a1, a2, a3, a4, a5, a6, a7, .int x, a9, a10, a11] st h = fk_ev d qX12_knownBy 242 [a0, a1, a2, a3, a4, a5, a6, a7, .int x, a9, a10, a11] (.int x :: st) h) ∧
  (∀ (d : Nat) (a0 a1 a2 a3 a4 a5 a6 a7 a8 a10 a11 : Value) (x : Int32) (st : List Value) (h : fk_H), fk_ev d qX12_knownBy 242 [a0, a1, a2, a3, a4, a5, a6, a7, a8, .int x, a10, a11] st h = fk_ev d qX12_knownBy 244 [a0, a1, a2, a3, a4, a5, a6, a7, a8, .int x, a10, a11] (.int x :: st) h) ∧
  (∀ (d : Nat) (L : List Value) (x y : Int32) (st : List Value) (h : fk_H), fk_ev d qX12_knownBy 244 L (.int y :: .int x :: st) h = fk_ev d qX12_knownBy 245 L (.int (x &&& y) :: st) h) ∧
  (∀ (d : Nat) (L : List Value) (x y : Int32) (st : List Value) (h : fk_H), fk_ev d qX12_knownBy 245 L (.int y :: .int x :: st) h = fk_ev d qX12_knownBy 246 L (.int (x ||| y) :: st) h) ∧
  (∀ (d : Nat) (a0 a1 a2 a3 a4 a5 a6 a7 a8 a9 a11 : Value) (x : Int32) (st : List Value) (h : fk_H), fk_ev d qX12_knownBy 246 [a0, a1, a2, a3, a4, a5, a6, a7, a8, a9, .int x, a11] st h = fk_ev d qX12_knownBy 248 [a0, a1, a2, a3, a4, a5, a6, a7, a8, a9, .int x, a11] (.int x :: st) h) ∧
  (∀ (d : Nat) (L st : List Value) (h : fk_H), fk_ev d qX12_knownBy 248 L st h = fk_ev d qX12_knownBy 249 L (.int ((-1 : Int32)) :: st) h) ∧
  (∀ (d : Nat) (L : List Value) (x y : Int32) (st : List Value) (h : fk_H), fk_ev d qX12_knownBy 249 L (.int y :: .int x :: st) h = fk_ev d qX12_knownBy 250 L (.int (x ^^^ y) :: st) h) ∧
  (∀ (d : Nat) (L : List Value) (x y : Int32) (st : List Value) (h : fk_H), fk_ev d qX12_knownBy 250 L (.int y :: .int x :: st) h = fk_ev d qX12_knownBy 251 L (.int (x &&& y) :: st) h) ∧
  (∀ (d : Nat) (a0 a1 a2 a3 a4 a5 a6 a7 a8 a9 a10 a11 : Value) (x : Int32) (st : List Value) (h : fk_H), fk_ev d qX12_knownBy 251 [a0, a1, a2, a3, a4, a5, a6, a7, a8, a9, a10, a11] (.int x :: st) h = fk_ev d qX12_knownBy 252 [a0, a1, a2, .int x, a4, a5, a6, a7, a8, a9, a10, a11] st h) ∧
  (∀ (d : Nat) (a0 a1 a3 a4 a5 a6 a7 a8 a9 a10 a11 : Value) (x : Int32) (st : List Value) (h : fk_H), fk_ev d qX12_knownBy 252 [a0, a1, .int x, a3, a4, a5, a6, a7, a8, a9, a10, a11] st h = fk_ev d qX12_knownBy 253 [a0, a1, .int x, a3, a4, a5, a6, a7, a8, a9, a10, a11] (.int x :: st) h) ∧
  (∀ (d : Nat) (a1 a2 a3 a4 a5 a6 a7 a8 a9 a10 a11 : Value) (x : Nat) (st : List Value) (h : fk_H), fk_ev d qX12_knownBy 253 [.ref x, a1, a2, a3, a4, a5, a6, a7, a8, a9, a10, a11] st h = fk_ev d qX12_knownBy 254 [.ref x, a1, a2, a3, a4, a5, a6, a7, a8, a9, a10, a11] (.ref x :: st) h) ∧
  (∀ (d : Nat) (L st : List Value) (N : Nat) (y : Nat → Nat → Int32) (l : Nat → Nat → Int64), fk_ev d qX12_knownBy 254 L (.ref 246 :: st) (fk_E N y l) = fk_ev d qX12_knownBy 257 L (.ref 247 :: st) (fk_E N y l)) ∧
  (∀ (d : Nat) (L st : List Value) (h : fk_H), fk_ev d qX12_knownBy 257 L st h = fk_ev d qX12_knownBy 260 L (.int (nI 704) :: st) h) ∧
  (∀ (d : Nat) (a0 a1 a2 a3 a4 a6 a7 a8 a9 a10 a11 : Value) (x : Int32) (st : List Value) (h : fk_H), fk_ev d qX12_knownBy 260 [a0, a1, a2, a3, a4, .int x, a6, a7, a8, a9, a10, a11] st h = fk_ev d qX12_knownBy 262 [a0, a1, a2, a3, a4, .int x, a6, a7, a8, a9, a10, a11] (.int x :: st) h) ∧
  (∀ (d : Nat) (L : List Value) (x y : Int32) (st : List Value) (h : fk_H), fk_ev d qX12_knownBy 262 L (.int y :: .int x :: st) h = fk_ev d qX12_knownBy 263 L (.int (x + y) :: st) h) ∧
  (∀ (d : Nat) (L st : List Value) (N : Nat) (y : Nat → Nat → Int32) (l : Nat → Nat → Int64) (i : Nat), i < 3912 → fk_ev d qX12_knownBy 263 L (.int (nI i) :: .ref 247 :: st) (fk_E N y l) = fk_ev d qX12_knownBy 264 L (.int (y 247 i) :: st) (fk_E N y l)) ∧
  (∀ (d : Nat) (L : List Value) (x y : Int32) (st : List Value) (h : fk_H), fk_ev d qX12_knownBy 264 L (.int y :: .int x :: st) h = fk_ev d qX12_knownBy 265 L (.int (x ||| y) :: st) h) ∧
  (∀ (d : Nat) (a0 a1 a2 a3 a4 a5 a6 a7 a8 a9 a11 : Value) (x : Int32) (st : List Value) (h : fk_H), fk_ev d qX12_knownBy 265 [a0, a1, a2, a3, a4, a5, a6, a7, a8, a9, .int x, a11] st h = fk_ev d qX12_knownBy 267 [a0, a1, a2, a3, a4, a5, a6, a7, a8, a9, .int x, a11] (.int x :: st) h) ∧
  (∀ (d : Nat) (L st : List Value) (h : fk_H), fk_ev d qX12_knownBy 267 L st h = fk_ev d qX12_knownBy 268 L (.int ((-1 : Int32)) :: st) h) ∧
  (∀ (d : Nat) (L : List Value) (x y : Int32) (st : List Value) (h : fk_H), fk_ev d qX12_knownBy 268 L (.int y :: .int x :: st) h = fk_ev d qX12_knownBy 269 L (.int (x ^^^ y) :: st) h) ∧
  (∀ (d : Nat) (L : List Value) (x y : Int32) (st : List Value) (h : fk_H), fk_ev d qX12_knownBy 269 L (.int y :: .int x :: st) h = fk_ev d qX12_knownBy 270 L (.int (x &&& y) :: st) h) ∧
  (∀ (d : Nat) (a0 a1 a2 a3 a4 a5 a6 a7 a8 a9 a10 a11 : Value) (x : Int32) (st : List Value) (h : fk_H), fk_ev d qX12_knownBy 270 [a0, a1, a2, a3, a4, a5, a6, a7, a8, a9, a10, a11] (.int x :: st) h = fk_ev d qX12_knownBy 271 [a0, a1, .int x, a3, a4, a5, a6, a7, a8, a9, a10, a11] st h) ∧
  (∀ (d : Nat) (a0 a1 a2 a3 a4 a5 a6 a8 a9 a10 a11 : Value) (x : Int32) (st : List Value) (h : fk_H), fk_ev d qX12_knownBy 271 [a0, a1, a2, a3, a4, a5, a6, .int x, a8, a9, a10, a11] st h = fk_ev d qX12_knownBy 273 [a0, a1, a2, a3, a4, a5, a6, .int x, a8, a9, a10, a11] (.int x :: st) h) ∧
  (∀ (d : Nat) (a0 a1 a2 a3 a4 a5 a6 a7 a8 a9 a10 a11 : Value) (x : Int32) (st : List Value) (h : fk_H), fk_ev d qX12_knownBy 273 [a0, a1, a2, a3, a4, a5, a6, a7, a8, a9, a10, a11] (.int x :: st) h = fk_ev d qX12_knownBy 274 [a0, .int x, a2, a3, a4, a5, a6, a7, a8, a9, a10, a11] st h) ∧
  (∀ (d : Nat) (a0 a1 a2 a3 a5 a6 a7 a8 a9 a10 a11 : Value) (x : Int32) (st : List Value) (h : fk_H), fk_ev d qX12_knownBy 274 [a0, a1, a2, a3, .int x, a5, a6, a7, a8, a9, a10, a11] st h = fk_ev d qX12_knownBy 277 [a0, a1, a2, a3, .int (x + nI 1), a5, a6, a7, a8, a9, a10, a11] st h) ∧
  (∀ (d : Nat) (L st : List Value) (h : fk_H), fk_ev d qX12_knownBy 277 L st h = fk_ev d qX12_knownBy 37 L st h) ∧
  (∀ (d : Nat) (a0 a1 a3 a4 a5 a6 a7 a8 a9 a10 a11 : Value) (x : Int32) (st : List Value) (h : fk_H), fk_ev d qX12_knownBy 280 [a0, a1, .int x, a3, a4, a5, a6, a7, a8, a9, a10, a11] st h = fk_ev d qX12_knownBy 281 [a0, a1, .int x, a3, a4, a5, a6, a7, a8, a9, a10, a11] (.int x :: st) h) ∧
  (∀ (d : Nat) (L : List Value) (x0 : Int32)  (h : fk_H), fk_ev (d + 1) qX12_knownBy 281 L (.int x0 :: []) h = (fk_ev d qX12_bits 0 [.int x0, .null, .null] [] h).bind fun o => fk_ev (d + 1) qX12_knownBy 284 L (o.1.toList ++ []) o.2) ∧
  (∀ (d : Nat) (L : List Value) (x : Int32) (h : fk_H), fk_ev d qX12_knownBy 284 L [.int x] h = some (some (.int x), h)) := ⟨fun d a1 a2 a3 a4 a5 a6 a7 a8 a9 a10 a11 x st h => fk_w_aloadn 0 [.ref x, a1, a2, a3, a4, a5, a6, a7, a8, a9, a10, a11] dX12_knownBy_0 rfl,
  fun d L st N y l => fk_g_getC rfl lf_12_85 (by decide) rfl dX12_knownBy_1 fk_at_246,
  fun d a1 a2 a3 a4 a5 a6 a7 a8 a9 a10 a11 x st h => fk_w_aloadn 0 [.ref x, a1, a2, a3, a4, a5, a6, a7, a8, a9, a10, a11] dX12_knownBy_4 rfl,
  fun d L st N y l => fk_g_getC rfl lf_12_88 (by decide) rfl dX12_knownBy_5 fk_at_246,
  fun d L st h => fk_w_iconst dX12_knownBy_8 (by decide),
  fun d L st N y l i hi => fk_g_iald fk_at_272 fk_ln_272 (by decide) dX12_knownBy_9 hi,
  fun d L st N y l i hi => fk_g_iald fk_at_271 fk_ln_271 (by decide) dX12_knownBy_10 hi,
  fun d a0 a1 a2 a3 a4 a5 a6 a7 a8 a9 a10 a11 x st h => fk_w_istoren 1 12 [] [a0, a1, a2, a3, a4, a5, a6, a7, a8, a9, a10, a11] [a0, .int x, a2, a3, a4, a5, a6, a7, a8, a9, a10, a11] dX12_knownBy_11 rfl rfl (by decide) rfl,
  fun d a1 a2 a3 a4 a5 a6 a7 a8 a9 a10 a11 x st h => fk_w_aloadn 0 [.ref x, a1, a2, a3, a4, a5, a6, a7, a8, a9, a10, a11] dX12_knownBy_12 rfl,
  fun d L st N y l => fk_g_getC rfl lf_12_7 (by decide) rfl dX12_knownBy_13 fk_at_246,
  fun d L st h => fk_w_sipush dX12_knownBy_16 (by decide),
  fun d a0 a2 a3 a4 a5 a6 a7 a8 a9 a10 a11 x st h => fk_w_iloadn 1 [a0, .int x, a2, a3, a4, a5, a6, a7, a8, a9, a10, a11] dX12_knownBy_19 rfl,
  fun d L x y st h => fk_r_iadd dX12_knownBy_20,
  fun d L st N y l i hi => fk_g_iald fk_at_247 fk_ln_247 (by decide) dX12_knownBy_21 hi,
  fun d a0 a1 a2 a3 a4 a5 a6 a7 a8 a9 a10 a11 x st h => fk_w_istoren 2 12 [] [a0, a1, a2, a3, a4, a5, a6, a7, a8, a9, a10, a11] [a0, a1, .int x, a3, a4, a5, a6, a7, a8, a9, a10, a11] dX12_knownBy_22 rfl rfl (by decide) rfl,
  fun d a1 a2 a3 a4 a5 a6 a7 a8 a9 a10 a11 x st h => fk_w_aloadn 0 [.ref x, a1, a2, a3, a4, a5, a6, a7, a8, a9, a10, a11] dX12_knownBy_23 rfl,
  fun d L st N y l => fk_g_getC rfl lf_12_7 (by decide) rfl dX12_knownBy_24 fk_at_246,
  fun d L st h => fk_w_sipush dX12_knownBy_27 (by decide),
  fun d a0 a2 a3 a4 a5 a6 a7 a8 a9 a10 a11 x st h => fk_w_iloadn 1 [a0, .int x, a2, a3, a4, a5, a6, a7, a8, a9, a10, a11] dX12_knownBy_30 rfl,
  fun d L x y st h => fk_r_iadd dX12_knownBy_31,
  fun d L st N y l i hi => fk_g_iald fk_at_247 fk_ln_247 (by decide) dX12_knownBy_32 hi,
  fun d a0 a1 a2 a3 a4 a5 a6 a7 a8 a9 a10 a11 x st h => fk_w_istoren 3 12 [] [a0, a1, a2, a3, a4, a5, a6, a7, a8, a9, a10, a11] [a0, a1, a2, .int x, a4, a5, a6, a7, a8, a9, a10, a11] dX12_knownBy_33 rfl rfl (by decide) rfl,
  fun d L st h => fk_w_iconst dX12_knownBy_34 (by decide),
  fun d a0 a1 a2 a3 a4 a5 a6 a7 a8 a9 a10 a11 x st h => fk_w_istore 4 12 [] [a0, a1, a2, a3, a4, a5, a6, a7, a8, a9, a10, a11] [a0, a1, a2, a3, .int x, a5, a6, a7, a8, a9, a10, a11] dX12_knownBy_35 rfl rfl (by decide) rfl,
  fun d a1 a2 a3 a4 a5 a6 a7 a8 a9 a10 a11 x st h => fk_w_aloadn 0 [.ref x, a1, a2, a3, a4, a5, a6, a7, a8, a9, a10, a11] dX12_knownBy_39 rfl,
  fun d L st N y l => fk_g_getI rfl lf_12_369 (by decide) dX12_knownBy_40 fk_at_246,
  fun d L x y st h => fk_r_icmp_ge dX12_knownBy_43 (by decide),
  fun d a1 a2 a3 a4 a5 a6 a7 a8 a9 a10 a11 x st h => fk_w_aloadn 0 [.ref x, a1, a2, a3, a4, a5, a6, a7, a8, a9, a10, a11] dX12_knownBy_46 rfl,
  fun d L st N y l => fk_g_getC rfl lf_12_85 (by decide) rfl dX12_knownBy_47 fk_at_246,
  fun d a1 a2 a3 a4 a5 a6 a7 a8 a9 a10 a11 x st h => fk_w_aloadn 0 [.ref x, a1, a2, a3, a4, a5, a6, a7, a8, a9, a10, a11] dX12_knownBy_50 rfl,
  fun d L st N y l => fk_g_getC rfl lf_12_88 (by decide) rfl dX12_knownBy_51 fk_at_246,
  fun d a0 a1 a2 a3 a5 a6 a7 a8 a9 a10 a11 x st h => fk_w_iload 4 [a0, a1, a2, a3, .int x, a5, a6, a7, a8, a9, a10, a11] dX12_knownBy_54 rfl,
  fun d L st N y l i hi => fk_g_iald fk_at_272 fk_ln_272 (by decide) dX12_knownBy_56 hi,
  fun d L st N y l i hi => fk_g_iald fk_at_271 fk_ln_271 (by decide) dX12_knownBy_57 hi,
  fun d a0 a1 a2 a3 a4 a5 a6 a7 a8 a9 a10 a11 x st h => fk_w_istore 5 12 [] [a0, a1, a2, a3, a4, a5, a6, a7, a8, a9, a10, a11] [a0, a1, a2, a3, a4, .int x, a6, a7, a8, a9, a10, a11] dX12_knownBy_58 rfl rfl (by decide) rfl,
  fun d a0 a2 a3 a4 a5 a6 a7 a8 a9 a10 a11 x st h => fk_w_iloadn 1 [a0, .int x, a2, a3, a4, a5, a6, a7, a8, a9, a10, a11] dX12_knownBy_60 rfl,
  fun d a0 a1 a2 a3 a4 a6 a7 a8 a9 a10 a11 x st h => fk_w_iload 5 [a0, a1, a2, a3, a4, .int x, a6, a7, a8, a9, a10, a11] dX12_knownBy_61 rfl,
  fun d L x y st h => fk_r_icmp_ge dX12_knownBy_63 (by decide),
  fun d L st h => fk_w_iconst dX12_knownBy_66 (by decide),
  fun d L st h => fk_r_goto dX12_knownBy_67 (by decide),
  fun d L st h => fk_w_iconst dX12_knownBy_70 (by decide),
  fun d a0 a1 a2 a3 a4 a5 a6 a7 a8 a9 a10 a11 x st h => fk_w_istore 6 12 [] [a0, a1, a2, a3, a4, a5, a6, a7, a8, a9, a10, a11] [a0, a1, a2, a3, a4, a5, .int x, a7, a8, a9, a10, a11] dX12_knownBy_71 rfl rfl (by decide) rfl,
  fun d a0 a2 a3 a4 a5 a6 a7 a8 a9 a10 a11 x st h => fk_w_iloadn 1 [a0, .int x, a2, a3, a4, a5, a6, a7, a8, a9, a10, a11] dX12_knownBy_73 rfl,
  fun d a0 a1 a2 a3 a4 a6 a7 a8 a9 a10 a11 x st h => fk_w_iload 5 [a0, a1, a2, a3, a4, .int x, a6, a7, a8, a9, a10, a11] dX12_knownBy_74 rfl,
  fun d L x0 x1 h => fk_g_calls [.int x0, .int x1] [] rfl lm_12_278 dX12_knownBy_76 rfl ⟨rfl, by decide⟩ (by simp),
  fun d a0 a1 a2 a3 a4 a5 a6 a7 a8 a9 a10 a11 x st h => fk_w_istore 7 12 [] [a0, a1, a2, a3, a4, a5, a6, a7, a8, a9, a10, a11] [a0, a1, a2, a3, a4, a5, a6, .int x, a8, a9, a10, a11] dX12_knownBy_79 rfl rfl (by decide) rfl,
  fun d a0 a1 a2 a3 a4 a5 a7 a8 a9 a10 a11 x st h => fk_w_iload 6 [a0, a1, a2, a3, a4, a5, .int x, a7, a8, a9, a10, a11] dX12_knownBy_81 rfl,
  fun d L x st h => fk_r_if_eq dX12_knownBy_83 (by decide),
  fun d a0 a1 a2 a4 a5 a6 a7 a8 a9 a10 a11 x st h => fk_w_iloadn 3 [a0, a1, a2, .int x, a4, a5, a6, a7, a8, a9, a10, a11] dX12_knownBy_86 rfl,
  fun d L st h => fk_r_goto dX12_knownBy_87 (by decide),
  fun d a1 a2 a3 a4 a5 a6 a7 a8 a9 a10 a11 x st h => fk_w_aloadn 0 [.ref x, a1, a2, a3, a4, a5, a6, a7, a8, a9, a10, a11] dX12_knownBy_90 rfl,
  fun d L st N y l => fk_g_getC rfl lf_12_7 (by decide) rfl dX12_knownBy_91 fk_at_246,
  fun d L st h => fk_w_sipush dX12_knownBy_94 (by decide),
  fun d a0 a1 a2 a3 a4 a6 a7 a8 a9 a10 a11 x st h => fk_w_iload 5 [a0, a1, a2, a3, a4, .int x, a6, a7, a8, a9, a10, a11] dX12_knownBy_97 rfl,
  fun d L x y st h => fk_r_iadd dX12_knownBy_99,
  fun d L st N y l i hi => fk_g_iald fk_at_247 fk_ln_247 (by decide) dX12_knownBy_100 hi,
  fun d a0 a1 a2 a3 a4 a5 a6 a7 a8 a9 a10 a11 x st h => fk_w_istore 8 12 [] [a0, a1, a2, a3, a4, a5, a6, a7, a8, a9, a10, a11] [a0, a1, a2, a3, a4, a5, a6, a7, .int x, a9, a10, a11] dX12_knownBy_101 rfl rfl (by decide) rfl,
  fun d a0 a1 a3 a4 a5 a6 a7 a8 a9 a10 a11 x st h => fk_w_iloadn 2 [a0, a1, .int x, a3, a4, a5, a6, a7, a8, a9, a10, a11] dX12_knownBy_103 rfl,
  fun d a1 a2 a3 a4 a5 a6 a7 a8 a9 a10 a11 x st h => fk_w_aloadn 0 [.ref x, a1, a2, a3, a4, a5, a6, a7, a8, a9, a10, a11] dX12_knownBy_104 rfl,
  fun d L st N y l => fk_g_getC rfl lf_12_7 (by decide) rfl dX12_knownBy_105 fk_at_246,
  fun d L st h => fk_w_sipush dX12_knownBy_108 (by decide),
  fun d a0 a1 a2 a3 a4 a6 a7 a8 a9 a10 a11 x st h => fk_w_iload 5 [a0, a1, a2, a3, a4, .int x, a6, a7, a8, a9, a10, a11] dX12_knownBy_111 rfl,
  fun d L x y st h => fk_r_iadd dX12_knownBy_113,
  fun d L st N y l i hi => fk_g_iald fk_at_247 fk_ln_247 (by decide) dX12_knownBy_114 hi,
  fun d L x y st h => fk_r_iand dX12_knownBy_115,
  fun d a0 a1 a2 a4 a5 a6 a7 a8 a9 a10 a11 x st h => fk_w_iloadn 3 [a0, a1, a2, .int x, a4, a5, a6, a7, a8, a9, a10, a11] dX12_knownBy_116 rfl,
  fun d a1 a2 a3 a4 a5 a6 a7 a8 a9 a10 a11 x st h => fk_w_aloadn 0 [.ref x, a1, a2, a3, a4, a5, a6, a7, a8, a9, a10, a11] dX12_knownBy_117 rfl,
  fun d L st N y l => fk_g_getC rfl lf_12_7 (by decide) rfl dX12_knownBy_118 fk_at_246,
  fun d L st h => fk_w_sipush dX12_knownBy_121 (by decide),
  fun d a0 a1 a2 a3 a4 a6 a7 a8 a9 a10 a11 x st h => fk_w_iload 5 [a0, a1, a2, a3, a4, .int x, a6, a7, a8, a9, a10, a11] dX12_knownBy_124 rfl,
  fun d L x y st h => fk_r_iadd dX12_knownBy_126,
  fun d L st N y l i hi => fk_g_iald fk_at_247 fk_ln_247 (by decide) dX12_knownBy_127 hi,
  fun d L x y st h => fk_r_ixor dX12_knownBy_128,
  fun d L x y st h => fk_r_iand dX12_knownBy_129,
  fun d a0 a1 a2 a3 a4 a5 a6 a7 a8 a9 a10 a11 x st h => fk_w_istore 9 12 [] [a0, a1, a2, a3, a4, a5, a6, a7, a8, a9, a10, a11] [a0, a1, a2, a3, a4, a5, a6, a7, a8, .int x, a10, a11] dX12_knownBy_130 rfl rfl (by decide) rfl,
  fun d L st h => fk_w_iconst dX12_knownBy_132 (by decide),
  fun d a0 a1 a2 a3 a4 a5 a6 a7 a8 a9 a10 a11 x st h => fk_w_istore 10 12 [] [a0, a1, a2, a3, a4, a5, a6, a7, a8, a9, a10, a11] [a0, a1, a2, a3, a4, a5, a6, a7, a8, a9, .int x, a11] dX12_knownBy_133 rfl rfl (by decide) rfl,
  fun d a1 a2 a3 a4 a5 a6 a7 a8 a9 a10 a11 x st h => fk_w_aloadn 0 [.ref x, a1, a2, a3, a4, a5, a6, a7, a8, a9, a10, a11] dX12_knownBy_135 rfl,
  fun d a0 a1 a2 a3 a4 a5 a6 a8 a9 a10 a11 x st h => fk_w_iload 7 [a0, a1, a2, a3, a4, a5, a6, .int x, a8, a9, a10, a11] dX12_knownBy_136 rfl,
  fun d L x0 N y l  => fk_g_call [.int x0] [] rfl lm_12_263 dX12_knownBy_138 rfl ⟨rfl, by decide⟩ (by simp) fk_at_246,
  fun d L st h => fk_w_iconst dX12_knownBy_141 (by decide),
  fun d a0 a1 a2 a3 a4 a5 a6 a7 a8 a9 a10 a11 x st h => fk_w_istore 11 12 [] [a0, a1, a2, a3, a4, a5, a6, a7, a8, a9, a10, a11] [a0, a1, a2, a3, a4, a5, a6, a7, a8, a9, a10, .int x] dX12_knownBy_142 rfl rfl (by decide) rfl,
  fun d L st h => fk_w_bipush dX12_knownBy_146 (by decide),
  fun d L x y st h => fk_r_icmp_ge dX12_knownBy_148 (by decide),
  fun d a0 a1 a2 a3 a4 a5 a6 a7 a8 a10 a11 x st h => fk_w_iload 9 [a0, a1, a2, a3, a4, a5, a6, a7, a8, .int x, a10, a11] dX12_knownBy_151 rfl,
  fun d a0 a1 a2 a3 a4 a5 a6 a7 a8 a9 a10 x st h => fk_w_iload 11 [a0, a1, a2, a3, a4, a5, a6, a7, a8, a9, a10, .int x] dX12_knownBy_153 rfl,
  fun d L x0 x1 h => fk_g_calls [.int x0, .int x1] [] rfl lm_12_108 dX12_knownBy_155 rfl ⟨rfl, by decide⟩ (by simp),
  fun d L x st h => fk_r_if_ne dX12_knownBy_158 (by decide),
  fun d L st h => fk_r_goto dX12_knownBy_161 (by decide),
  fun d a1 a2 a3 a4 a5 a6 a7 a8 a9 a10 a11 x st h => fk_w_aloadn 0 [.ref x, a1, a2, a3, a4, a5, a6, a7, a8, a9, a10, a11] dX12_knownBy_164 rfl,
  fun d L st N y l => fk_g_getC rfl lf_12_75 (by decide) rfl dX12_knownBy_165 fk_at_246,
  fun d L st h => fk_w_bipush dX12_knownBy_168 (by decide),
  fun d a0 a1 a2 a3 a4 a5 a6 a7 a8 a9 a10 x st h => fk_w_iload 11 [a0, a1, a2, a3, a4, a5, a6, a7, a8, a9, a10, .int x] dX12_knownBy_170 rfl,
  fun d L st N y l i v hi => fk_g_iast fk_at_268 fk_ln_268 (by decide) dX12_knownBy_172 hi,
  fun d a1 a2 a3 a4 a5 a6 a7 a8 a9 a10 a11 x st h => fk_w_aloadn 0 [.ref x, a1, a2, a3, a4, a5, a6, a7, a8, a9, a10, a11] dX12_knownBy_173 rfl,
  fun d L st N y l => fk_g_getC rfl lf_12_75 (by decide) rfl dX12_knownBy_174 fk_at_246,
  fun d L st h => fk_w_bipush dX12_knownBy_177 (by decide),
  fun d a0 a2 a3 a4 a5 a6 a7 a8 a9 a10 a11 x st h => fk_w_iloadn 1 [a0, .int x, a2, a3, a4, a5, a6, a7, a8, a9, a10, a11] dX12_knownBy_179 rfl,
  fun d a0 a1 a2 a3 a4 a6 a7 a8 a9 a10 a11 x st h => fk_w_iload 5 [a0, a1, a2, a3, a4, .int x, a6, a7, a8, a9, a10, a11] dX12_knownBy_180 rfl,
  fun d L x0 x1 w0 w1 h => fk_g_calls [.int x0, .int x1] [w0, w1] rfl lm_12_257 dX12_knownBy_182 rfl ⟨rfl, by decide⟩ (by simp),
  fun d L st N y l i v hi => fk_g_iast fk_at_268 fk_ln_268 (by decide) dX12_knownBy_185 hi,
  fun d a1 a2 a3 a4 a5 a6 a7 a8 a9 a10 a11 x st h => fk_w_aloadn 0 [.ref x, a1, a2, a3, a4, a5, a6, a7, a8, a9, a10, a11] dX12_knownBy_186 rfl,
  fun d L  N y l  => fk_g_call [] [] rfl lm_12_275 dX12_knownBy_187 rfl ⟨rfl, by decide⟩ (by simp) fk_at_246,
  fun d L x st h => fk_r_if_ne dX12_knownBy_190 (by decide),
  fun d a0 a1 a2 a3 a4 a5 a6 a7 a8 a9 a11 x st h => fk_w_iload 10 [a0, a1, a2, a3, a4, a5, a6, a7, a8, a9, .int x, a11] dX12_knownBy_193 rfl,
  fun d L st h => fk_w_iconst dX12_knownBy_195 (by decide),
  fun d a0 a1 a2 a3 a4 a5 a6 a7 a8 a9 a10 x st h => fk_w_iload 11 [a0, a1, a2, a3, a4, a5, a6, a7, a8, a9, a10, .int x] dX12_knownBy_196 rfl,
  fun d L x y st h => fk_r_ishl dX12_knownBy_198,
  fun d L x y st h => fk_r_ior dX12_knownBy_199,
  fun d a0 a1 a2 a3 a4 a5 a6 a7 a8 a9 a10 a11 x st h => fk_w_istore 10 12 [] [a0, a1, a2, a3, a4, a5, a6, a7, a8, a9, a10, a11] [a0, a1, a2, a3, a4, a5, a6, a7, a8, a9, .int x, a11] dX12_knownBy_200 rfl rfl (by decide) rfl,
  fun d a0 a1 a2 a3 a4 a5 a6 a7 a8 a9 a10 x st h => fk_w_iinc 11 12 (1) [] [a0, a1, a2, a3, a4, a5, a6, a7, a8, a9, a10, .int x] [a0, a1, a2, a3, a4, a5, a6, a7, a8, a9, a10, .int (x + nI 1)] dX12_knownBy_202 rfl rfl rfl (by decide) rfl,
  fun d L st h => fk_r_goto dX12_knownBy_205 (by decide),
  fun d a0 a1 a2 a4 a5 a6 a7 a8 a9 a10 a11 x st h => fk_w_iloadn 3 [a0, a1, a2, .int x, a4, a5, a6, a7, a8, a9, a10, a11] dX12_knownBy_208 rfl,
  fun d a0 a1 a3 a4 a5 a6 a7 a8 a9 a10 a11 x st h => fk_w_iloadn 2 [a0, a1, .int x, a3, a4, a5, a6, a7, a8, a9, a10, a11] dX12_knownBy_209 rfl,
  fun d L x y st h => fk_r_iand dX12_knownBy_210,
  fun d a1 a2 a3 a4 a5 a6 a7 a8 a9 a10 a11 x st h => fk_w_aloadn 0 [.ref x, a1, a2, a3, a4, a5, a6, a7, a8, a9, a10, a11] dX12_knownBy_211 rfl,
  fun d L st N y l => fk_g_getC rfl lf_12_7 (by decide) rfl dX12_knownBy_212 fk_at_246,
  fun d L st h => fk_w_sipush dX12_knownBy_215 (by decide),
  fun d a0 a1 a2 a3 a4 a6 a7 a8 a9 a10 a11 x st h => fk_w_iload 5 [a0, a1, a2, a3, a4, .int x, a6, a7, a8, a9, a10, a11] dX12_knownBy_218 rfl,
  fun d L x y st h => fk_r_iadd dX12_knownBy_220,
  fun d L st N y l i hi => fk_g_iald fk_at_247 fk_ln_247 (by decide) dX12_knownBy_221 hi,
  fun d a1 a2 a3 a4 a5 a6 a7 a8 a9 a10 a11 x st h => fk_w_aloadn 0 [.ref x, a1, a2, a3, a4, a5, a6, a7, a8, a9, a10, a11] dX12_knownBy_222 rfl,
  fun d L st N y l => fk_g_getC rfl lf_12_7 (by decide) rfl dX12_knownBy_223 fk_at_246,
  fun d L st h => fk_w_sipush dX12_knownBy_226 (by decide),
  fun d a0 a1 a2 a3 a4 a6 a7 a8 a9 a10 a11 x st h => fk_w_iload 5 [a0, a1, a2, a3, a4, .int x, a6, a7, a8, a9, a10, a11] dX12_knownBy_229 rfl,
  fun d L x y st h => fk_r_iadd dX12_knownBy_231,
  fun d L st N y l i hi => fk_g_iald fk_at_247 fk_ln_247 (by decide) dX12_knownBy_232 hi,
  fun d L x y st h => fk_r_iand dX12_knownBy_233,
  fun d L x y st h => fk_r_ior dX12_knownBy_234,
  fun d a0 a1 a2 a3 a4 a5 a6 a7 a8 a10 a11 x st h => fk_w_iload 9 [a0, a1, a2, a3, a4, a5, a6, a7, a8, .int x, a10, a11] dX12_knownBy_235 rfl,
  fun d L st h => fk_w_iconst dX12_knownBy_237 (by decide),
  fun d L x y st h => fk_r_ixor dX12_knownBy_238,
  fun d L x y st h => fk_r_iand dX12_knownBy_239,
  fun d a0 a1 a2 a3 a4 a5 a6 a7 a9 a10 a11 x st h => fk_w_iload 8 [a0, a1, a2, a3, a4, a5, a6, a7, .int x, a9, a10, a11] dX12_knownBy_240 rfl,
  fun d a0 a1 a2 a3 a4 a5 a6 a7 a8 a10 a11 x st h => fk_w_iload 9 [a0, a1, a2, a3, a4, a5, a6, a7, a8, .int x, a10, a11] dX12_knownBy_242 rfl,
  fun d L x y st h => fk_r_iand dX12_knownBy_244,
  fun d L x y st h => fk_r_ior dX12_knownBy_245,
  fun d a0 a1 a2 a3 a4 a5 a6 a7 a8 a9 a11 x st h => fk_w_iload 10 [a0, a1, a2, a3, a4, a5, a6, a7, a8, a9, .int x, a11] dX12_knownBy_246 rfl,
  fun d L st h => fk_w_iconst dX12_knownBy_248 (by decide),
  fun d L x y st h => fk_r_ixor dX12_knownBy_249,
  fun d L x y st h => fk_r_iand dX12_knownBy_250,
  fun d a0 a1 a2 a3 a4 a5 a6 a7 a8 a9 a10 a11 x st h => fk_w_istoren 3 12 [] [a0, a1, a2, a3, a4, a5, a6, a7, a8, a9, a10, a11] [a0, a1, a2, .int x, a4, a5, a6, a7, a8, a9, a10, a11] dX12_knownBy_251 rfl rfl (by decide) rfl,
  fun d a0 a1 a3 a4 a5 a6 a7 a8 a9 a10 a11 x st h => fk_w_iloadn 2 [a0, a1, .int x, a3, a4, a5, a6, a7, a8, a9, a10, a11] dX12_knownBy_252 rfl,
  fun d a1 a2 a3 a4 a5 a6 a7 a8 a9 a10 a11 x st h => fk_w_aloadn 0 [.ref x, a1, a2, a3, a4, a5, a6, a7, a8, a9, a10, a11] dX12_knownBy_253 rfl,
  fun d L st N y l => fk_g_getC rfl lf_12_7 (by decide) rfl dX12_knownBy_254 fk_at_246,
  fun d L st h => fk_w_sipush dX12_knownBy_257 (by decide),
  fun d a0 a1 a2 a3 a4 a6 a7 a8 a9 a10 a11 x st h => fk_w_iload 5 [a0, a1, a2, a3, a4, .int x, a6, a7, a8, a9, a10, a11] dX12_knownBy_260 rfl,
  fun d L x y st h => fk_r_iadd dX12_knownBy_262,
  fun d L st N y l i hi => fk_g_iald fk_at_247 fk_ln_247 (by decide) dX12_knownBy_263 hi,
  fun d L x y st h => fk_r_ior dX12_knownBy_264,
  fun d a0 a1 a2 a3 a4 a5 a6 a7 a8 a9 a11 x st h => fk_w_iload 10 [a0, a1, a2, a3, a4, a5, a6, a7, a8, a9, .int x, a11] dX12_knownBy_265 rfl,
  fun d L st h => fk_w_iconst dX12_knownBy_267 (by decide),
  fun d L x y st h => fk_r_ixor dX12_knownBy_268,
  fun d L x y st h => fk_r_iand dX12_knownBy_269,
  fun d a0 a1 a2 a3 a4 a5 a6 a7 a8 a9 a10 a11 x st h => fk_w_istoren 2 12 [] [a0, a1, a2, a3, a4, a5, a6, a7, a8, a9, a10, a11] [a0, a1, .int x, a3, a4, a5, a6, a7, a8, a9, a10, a11] dX12_knownBy_270 rfl rfl (by decide) rfl,
  fun d a0 a1 a2 a3 a4 a5 a6 a8 a9 a10 a11 x st h => fk_w_iload 7 [a0, a1, a2, a3, a4, a5, a6, .int x, a8, a9, a10, a11] dX12_knownBy_271 rfl,
  fun d a0 a1 a2 a3 a4 a5 a6 a7 a8 a9 a10 a11 x st h => fk_w_istoren 1 12 [] [a0, a1, a2, a3, a4, a5, a6, a7, a8, a9, a10, a11] [a0, .int x, a2, a3, a4, a5, a6, a7, a8, a9, a10, a11] dX12_knownBy_273 rfl rfl (by decide) rfl,
  fun d a0 a1 a2 a3 a5 a6 a7 a8 a9 a10 a11 x st h => fk_w_iinc 4 12 (1) [] [a0, a1, a2, a3, .int x, a5, a6, a7, a8, a9, a10, a11] [a0, a1, a2, a3, .int (x + nI 1), a5, a6, a7, a8, a9, a10, a11] dX12_knownBy_274 rfl rfl rfl (by decide) rfl,
  fun d L st h => fk_r_goto dX12_knownBy_277 (by decide),
  fun d a0 a1 a3 a4 a5 a6 a7 a8 a9 a10 a11 x st h => fk_w_iloadn 2 [a0, a1, .int x, a3, a4, a5, a6, a7, a8, a9, a10, a11] dX12_knownBy_280 rfl,
  fun d L x0 h => fk_g_calls [.int x0] [] rfl lm_12_260 dX12_knownBy_281 rfl ⟨rfl, by decide⟩ (by simp),
  fun d L x h => fk_r_ret dX12_knownBy_284 (Or.inl rfl)⟩
theorem hX12_knownBy_37 : ∀ (d : Nat) (a0 a1 a2 a3 a5 a6 a7 a8 a9 a10 a11 : Value) (x : Int32) (st : List Value) (h : fk_H), fk_ev d qX12_knownBy 37 [a0, a1, a2, a3, .int x, a5, a6, a7, a8, a9, a10, a11] st h = fk_ev d qX12_knownBy 39 [a0, a1, a2, a3, .int x, a5, a6, a7, a8, a9, a10, a11] (.int x :: st) h := fun d a0 a1 a2 a3 a5 a6 a7 a8 a9 a10 a11 x st h => fk_w_iload 4 [a0, a1, a2, a3, .int x, a5, a6, a7, a8, a9, a10, a11] dX12_knownBy_37 rfl
theorem hX12_knownBy_144 : ∀ (d : Nat) (a0 a1 a2 a3 a4 a5 a6 a7 a8 a9 a10 : Value) (x : Int32) (st : List Value) (h : fk_H), fk_ev d qX12_knownBy 144 [a0, a1, a2, a3, a4, a5, a6, a7, a8, a9, a10, .int x] st h = fk_ev d qX12_knownBy 146 [a0, a1, a2, a3, a4, a5, a6, a7, a8, a9, a10, .int x] (.int x :: st) h := fun d a0 a1 a2 a3 a4 a5 a6 a7 a8 a9 a10 x st h => fk_w_iload 11 [a0, a1, a2, a3, a4, a5, a6, a7, a8, a9, a10, .int x] dX12_knownBy_144 rfl
theorem dX12_joined_0 : decode cX12_joined 0 = .ok (.iload_n 1, 1) := by decide +kernel
theorem dX12_joined_1 : decode cX12_joined 1 = .ok (.iconst 2, 1) := by decide +kernel
theorem dX12_joined_2 : decode cX12_joined 2 = .ok (.iconst 5, 1) := by decide +kernel
theorem dX12_joined_3 : decode cX12_joined 3 = .ok (.invokestatic 112, 3) := by decide +kernel
theorem dX12_joined_6 : decode cX12_joined 6 = .ok (.ifCond .eq 11, 3) := by decide +kernel
theorem dX12_joined_9 : decode cX12_joined 9 = .ok (.iload_n 1, 1) := by decide +kernel
theorem dX12_joined_10 : decode cX12_joined 10 = .ok (.aload_n 0, 1) := by decide +kernel
theorem dX12_joined_11 : decode cX12_joined 11 = .ok (.getfield 148, 3) := by decide +kernel
theorem dX12_joined_14 : decode cX12_joined 14 = .ok (.if_icmp .le 5, 3) := by decide +kernel
theorem dX12_joined_17 : decode cX12_joined 17 = .ok (.iconst (-1), 1) := by decide +kernel
theorem dX12_joined_18 : decode cX12_joined 18 = .ok (.ireturn, 1) := by decide +kernel
theorem dX12_joined_19 : decode cX12_joined 19 = .ok (.aload_n 0, 1) := by decide +kernel
theorem dX12_joined_20 : decode cX12_joined 20 = .ok (.iconst 0, 1) := by decide +kernel
theorem dX12_joined_21 : decode cX12_joined 21 = .ok (.putfield 148, 3) := by decide +kernel
theorem dX12_joined_24 : decode cX12_joined 24 = .ok (.aload_n 0, 1) := by decide +kernel
theorem dX12_joined_25 : decode cX12_joined 25 = .ok (.iload_n 1, 1) := by decide +kernel
theorem dX12_joined_26 : decode cX12_joined 26 = .ok (.invokevirtual 372, 3) := by decide +kernel
theorem dX12_joined_29 : decode cX12_joined 29 = .ok (.ifCond .ne 6, 3) := by decide +kernel
theorem dX12_joined_32 : decode cX12_joined 32 = .ok (.bipush (-2), 2) := by decide +kernel
theorem dX12_joined_34 : decode cX12_joined 34 = .ok (.ireturn, 1) := by decide +kernel
theorem dX12_joined_35 : decode cX12_joined 35 = .ok (.iload_n 2, 1) := by decide +kernel
theorem dX12_joined_36 : decode cX12_joined 36 = .ok (.iconst (-1), 1) := by decide +kernel
theorem dX12_joined_37 : decode cX12_joined 37 = .ok (.iload_n 1, 1) := by decide +kernel
theorem dX12_joined_38 : decode cX12_joined 38 = .ok (.iconst 1, 1) := by decide +kernel
theorem dX12_joined_39 : decode cX12_joined 39 = .ok (.isub, 1) := by decide +kernel
theorem dX12_joined_40 : decode cX12_joined 40 = .ok (.invokestatic 112, 3) := by decide +kernel
theorem dX12_joined_43 : decode cX12_joined 43 = .ok (.ifCond .ne 6, 3) := by decide +kernel
theorem dX12_joined_46 : decode cX12_joined 46 = .ok (.bipush (-3), 2) := by decide +kernel
theorem dX12_joined_48 : decode cX12_joined 48 = .ok (.ireturn, 1) := by decide +kernel
theorem dX12_joined_49 : decode cX12_joined 49 = .ok (.iconst 1, 1) := by decide +kernel
theorem dX12_joined_50 : decode cX12_joined 50 = .ok (.istore_n 3, 1) := by decide +kernel
theorem dX12_joined_51 : decode cX12_joined 51 = .ok (.iconst 0, 1) := by decide +kernel
theorem dX12_joined_52 : decode cX12_joined 52 = .ok (.istore 4, 2) := by decide +kernel
theorem dX12_joined_54 : decode cX12_joined 54 = .ok (.iload 4, 2) := by decide +kernel
theorem dX12_joined_56 : decode cX12_joined 56 = .ok (.iload_n 1, 1) := by decide +kernel
theorem dX12_joined_57 : decode cX12_joined 57 = .ok (.if_icmp .ge 13, 3) := by decide +kernel
theorem dX12_joined_60 : decode cX12_joined 60 = .ok (.iload_n 3, 1) := by decide +kernel
theorem dX12_joined_61 : decode cX12_joined 61 = .ok (.iload_n 1, 1) := by decide +kernel
theorem dX12_joined_62 : decode cX12_joined 62 = .ok (.imul, 1) := by decide +kernel
theorem dX12_joined_63 : decode cX12_joined 63 = .ok (.istore_n 3, 1) := by decide +kernel
theorem dX12_joined_64 : decode cX12_joined 64 = .ok (.iinc 4 1, 3) := by decide +kernel
theorem dX12_joined_67 : decode cX12_joined 67 = .ok (.goto (-13), 3) := by decide +kernel
theorem dX12_joined_70 : decode cX12_joined 70 = .ok (.iconst (-1), 1) := by decide +kernel
theorem dX12_joined_71 : decode cX12_joined 71 = .ok (.istore 4, 2) := by decide +kernel
theorem dX12_joined_73 : decode cX12_joined 73 = .ok (.iconst (-1), 1) := by decide +kernel
theorem dX12_joined_74 : decode cX12_joined 74 = .ok (.istore 5, 2) := by decide +kernel
theorem dX12_joined_76 : decode cX12_joined 76 = .ok (.iconst 0, 1) := by decide +kernel
theorem dX12_joined_77 : decode cX12_joined 77 = .ok (.istore 6, 2) := by decide +kernel
theorem dX12_joined_79 : decode cX12_joined 79 = .ok (.iload 6, 2) := by decide +kernel
theorem dX12_joined_81 : decode cX12_joined 81 = .ok (.iload_n 3, 1) := by decide +kernel
theorem dX12_joined_82 : decode cX12_joined 82 = .ok (.if_icmp .ge 45, 3) := by decide +kernel
theorem dX12_joined_85 : decode cX12_joined 85 = .ok (.aload_n 0, 1) := by decide +kernel
theorem dX12_joined_86 : decode cX12_joined 86 = .ok (.iload 6, 2) := by decide +kernel
theorem dX12_joined_88 : decode cX12_joined 88 = .ok (.invokevirtual 375, 3) := by decide +kernel
theorem dX12_joined_91 : decode cX12_joined 91 = .ok (.ifCond .ne 6, 3) := by decide +kernel
theorem dX12_joined_94 : decode cX12_joined 94 = .ok (.goto 27, 3) := by decide +kernel
theorem dX12_joined_97 : decode cX12_joined 97 = .ok (.aload_n 0, 1) := by decide +kernel
theorem dX12_joined_98 : decode cX12_joined 98 = .ok (.invokevirtual 378, 3) := by decide +kernel
theorem dX12_joined_101 : decode cX12_joined 101 = .ok (.istore 7, 2) := by decide +kernel
theorem dX12_joined_103 : decode cX12_joined 103 = .ok (.iload 7, 2) := by decide +kernel
theorem dX12_joined_105 : decode cX12_joined 105 = .ok (.iload 5, 2) := by decide +kernel
theorem dX12_joined_107 : decode cX12_joined 107 = .ok (.if_icmp .gt 6, 3) := by decide +kernel
theorem dX12_joined_110 : decode cX12_joined 110 = .ok (.goto 11, 3) := by decide +kernel
theorem dX12_joined_113 : decode cX12_joined 113 = .ok (.iload 7, 2) := by decide +kernel
theorem dX12_joined_115 : decode cX12_joined 115 = .ok (.istore 5, 2) := by decide +kernel
theorem dX12_joined_117 : decode cX12_joined 117 = .ok (.iload 6, 2) := by decide +kernel
theorem dX12_joined_119 : decode cX12_joined 119 = .ok (.istore 4, 2) := by decide +kernel
theorem dX12_joined_121 : decode cX12_joined 121 = .ok (.iinc 6 1, 3) := by decide +kernel
theorem dX12_joined_124 : decode cX12_joined 124 = .ok (.goto (-45), 3) := by decide +kernel
theorem dX12_joined_127 : decode cX12_joined 127 = .ok (.aload_n 0, 1) := by decide +kernel
theorem dX12_joined_128 : decode cX12_joined 128 = .ok (.iload 4, 2) := by decide +kernel
theorem dX12_joined_130 : decode cX12_joined 130 = .ok (.invokevirtual 375, 3) := by decide +kernel
theorem dX12_joined_133 : decode cX12_joined 133 = .ok (.pop, 1) := by decide +kernel
theorem dX12_joined_134 : decode cX12_joined 134 = .ok (.iload_n 2, 1) := by decide +kernel
theorem dX12_joined_135 : decode cX12_joined 135 = .ok (.iconst (-1), 1) := by decide +kernel
theorem dX12_joined_136 : decode cX12_joined 136 = .ok (.if_icmp .ne 8, 3) := by decide +kernel
theorem dX12_joined_139 : decode cX12_joined 139 = .ok (.iload 5, 2) := by decide +kernel
theorem dX12_joined_141 : decode cX12_joined 141 = .ok (.goto 14, 3) := by decide +kernel
theorem dX12_joined_144 : decode cX12_joined 144 = .ok (.aload_n 0, 1) := by decide +kernel
theorem dX12_joined_145 : decode cX12_joined 145 = .ok (.getfield 85, 3) := by decide +kernel
theorem dX12_joined_148 : decode cX12_joined 148 = .ok (.aload_n 0, 1) := by decide +kernel
theorem dX12_joined_149 : decode cX12_joined 149 = .ok (.getfield 88, 3) := by decide +kernel
theorem dX12_joined_152 : decode cX12_joined 152 = .ok (.iload_n 2, 1) := by decide +kernel
theorem dX12_joined_153 : decode cX12_joined 153 = .ok (.iaload, 1) := by decide +kernel
theorem dX12_joined_154 : decode cX12_joined 154 = .ok (.iaload, 1) := by decide +kernel
theorem dX12_joined_155 : decode cX12_joined 155 = .ok (.ireturn, 1) := by decide +kernel
theorem rX12_joined : (∀ (d : Nat) (a0 a2 a3 a4 a5 a6 a7 : Value) (x : Int32) (st : List Value) (h : fk_H), fk_ev d qX12_joined 0 [a0, .int x, a2, a3, a4, a5, a6, a7] st h = fk_ev d qX12_joined 1 [a0, .int x, a2, a3, a4, a5, a6, a7] (.int x :: st) h) ∧
  (∀ (d : Nat) (L st : List Value) (h : fk_H), fk_ev d qX12_joined 1 L st h = fk_ev d qX12_joined 2 L (.int (nI 2) :: st) h) ∧
  (∀ (d : Nat) (L st : List Value) (h : fk_H), fk_ev d qX12_joined 2 L st h = fk_ev d qX12_joined 3 L (.int (nI 5) :: st) h) ∧
  (∀ (d : Nat) (L : List Value) (x0 : Int32) (x1 : Int32) (x2 : Int32)  (h : fk_H), fk_ev (d + 1) qX12_joined 3 L (.int x2 :: .int x1 :: .int x0 :: []) h = (fk_ev d qX12_in 0 [.int x0, .int x1, .int x2] [] h).bind fun o => fk_ev (d + 1) qX12_joined 6 L (o.1.toList ++ []) o.2) ∧
  (∀ (d : Nat) (L : List Value) (x : Int32) (st : List Value) (h : fk_H), fk_ev d qX12_joined 6 L (.int x :: st) h = if x = nI 0 then fk_ev d qX12_joined 17 L st h else fk_ev d qX12_joined 9 L st h) ∧
  (∀ (d : Nat) (a0 a2 a3 a4 a5 a6 a7 : Value) (x : Int32) (st : List Value) (h : fk_H), fk_ev d qX12_joined 9 [a0, .int x, a2, a3, a4, a5, a6, a7] st h = fk_ev d qX12_joined 10 [a0, .int x, a2, a3, a4, a5, a6, a7] (.int x :: st) h) ∧
  (∀ (d : Nat) (a1 a2 a3 a4 a5 a6 a7 : Value) (x : Nat) (st : List Value) (h : fk_H), fk_ev d qX12_joined 10 [.ref x, a1, a2, a3, a4, a5, a6, a7] st h = fk_ev d qX12_joined 11 [.ref x, a1, a2, a3, a4, a5, a6, a7] (.ref x :: st) h) ∧
  (∀ (d : Nat) (L st : List Value) (N : Nat) (y : Nat → Nat → Int32) (l : Nat → Nat → Int64), fk_ev d qX12_joined 11 L (.ref 246 :: st) (fk_E N y l) = fk_ev d qX12_joined 14 L (.int (y 246 10) :: st) (fk_E N y l)) ∧
  (∀ (d : Nat) (L : List Value) (x y : Int32) (st : List Value) (h : fk_H), fk_ev d qX12_joined 14 L (.int y :: .int x :: st) h = if x ≤ y then fk_ev d qX12_joined 19 L st h else fk_ev d qX12_joined 17 L st h) ∧
  (∀ (d : Nat) (L st : List Value) (h : fk_H), fk_ev d qX12_joined 17 L st h = fk_ev d qX12_joined 18 L (.int ((-1 : Int32)) :: st) h) ∧
  (∀ (d : Nat) (L : List Value) (x : Int32) (h : fk_H), fk_ev d qX12_joined 18 L [.int x] h = some (some (.int x), h)) ∧
  (∀ (d : Nat) (a1 a2 a3 a4 a5 a6 a7 : Value) (x : Nat) (st : List Value) (h : fk_H), fk_ev d qX12_joined 19 [.ref x, a1, a2, a3, a4, a5, a6, a7] st h = fk_ev d qX12_joined 20 [.ref x, a1, a2, a3, a4, a5, a6, a7] (.ref x :: st) h) ∧
  (∀ (d : Nat) (L st : List Value) (h : fk_H), fk_ev d qX12_joined 20 L st h = fk_ev d qX12_joined 21 L (.int (nI 0) :: st) h) ∧
  (∀ (d : Nat) (L st : List Value) (N : Nat) (y : Nat → Nat → Int32) (l : Nat → Nat → Int64) (v : Int32), fk_ev d qX12_joined 21 L (.int v :: .ref 246 :: st) (fk_E N y l) = fk_ev d qX12_joined 24 L st (fk_E N (fk_u y 246 10 v) l)) ∧
  (∀ (d : Nat) (a1 a2 a3 a4 a5 a6 a7 : Value) (x : Nat) (st : List Value) (h : fk_H), fk_ev d qX12_joined 24 [.ref x, a1, a2, a3, a4, a5, a6, a7] st h = fk_ev d qX12_joined 25 [.ref x, a1, a2, a3, a4, a5, a6, a7] (.ref x :: st) h) ∧
  (∀ (d : Nat) (a0 a2 a3 a4 a5 a6 a7 : Value) (x : Int32) (st : List Value) (h : fk_H), fk_ev d qX12_joined 25 [a0, .int x, a2, a3, a4, a5, a6, a7] st h = fk_ev d qX12_joined 26 [a0, .int x, a2, a3, a4, a5, a6, a7] (.int x :: st) h) ∧
  (∀ (d : Nat) (L : List Value) (x0 : Int32)  (N : Nat) (y : Nat → Nat → Int32) (l : Nat → Nat → Int64), fk_ev (d + 1) qX12_joined 26 L (.int x0 :: .ref 246 :: []) (fk_E N y l) = (fk_ev d qX12_takesHalves 0 [.ref 246, .int x0, .null, .null, .null, .null] [] (fk_E N y l)).bind fun o => fk_ev (d + 1) qX12_joined 29 L (o.1.toList ++ []) o.2) ∧
  (∀ (d : Nat) (L : List Value) (x : Int32) (st : List Value) (h : fk_H), fk_ev d qX12_joined 29 L (.int x :: st) h = if ¬ x = nI 0 then fk_ev d qX12_joined 35 L st h else fk_ev d qX12_joined 32 L st h) ∧
  (∀ (d : Nat) (L st : List Value) (h : fk_H), fk_ev d qX12_joined 32 L st h = fk_ev d qX12_joined 34 L (.int ((-2 : Int32)) :: st) h) ∧
  (∀ (d : Nat) (L : List Value) (x : Int32) (h : fk_H), fk_ev d qX12_joined 34 L [.int x] h = some (some (.int x), h)) ∧
  (∀ (d : Nat) (a0 a1 a3 a4 a5 a6 a7 : Value) (x : Int32) (st : List Value) (h : fk_H), fk_ev d qX12_joined 35 [a0, a1, .int x, a3, a4, a5, a6, a7] st h = fk_ev d qX12_joined 36 [a0, a1, .int x, a3, a4, a5, a6, a7] (.int x :: st) h) ∧
  (∀ (d : Nat) (L st : List Value) (h : fk_H), fk_ev d qX12_joined 36 L st h = fk_ev d qX12_joined 37 L (.int ((-1 : Int32)) :: st) h) ∧
  (∀ (d : Nat) (a0 a2 a3 a4 a5 a6 a7 : Value) (x : Int32) (st : List Value) (h : fk_H), fk_ev d qX12_joined 37 [a0, .int x, a2, a3, a4, a5, a6, a7] st h = fk_ev d qX12_joined 38 [a0, .int x, a2, a3, a4, a5, a6, a7] (.int x :: st) h) ∧
  (∀ (d : Nat) (L st : List Value) (h : fk_H), fk_ev d qX12_joined 38 L st h = fk_ev d qX12_joined 39 L (.int (nI 1) :: st) h) ∧
  (∀ (d : Nat) (L : List Value) (x y : Int32) (st : List Value) (h : fk_H), fk_ev d qX12_joined 39 L (.int y :: .int x :: st) h = fk_ev d qX12_joined 40 L (.int (x - y) :: st) h) ∧
  (∀ (d : Nat) (L : List Value) (x0 : Int32) (x1 : Int32) (x2 : Int32)  (h : fk_H), fk_ev (d + 1) qX12_joined 40 L (.int x2 :: .int x1 :: .int x0 :: []) h = (fk_ev d qX12_in 0 [.int x0, .int x1, .int x2] [] h).bind fun o => fk_ev (d + 1) qX12_joined 43 L (o.1.toList ++ []) o.2) ∧
  (∀ (d : Nat) (L : List Value) (x : Int32) (st : List Value) (h : fk_H), fk_ev d qX12_joined 43 L (.int x :: st) h = if ¬ x = nI 0 then fk_ev d qX12_joined 49 L st h else fk_ev d qX12_joined 46 L st h) ∧
  (∀ (d : Nat) (L st : List Value) (h : fk_H), fk_ev d qX12_joined 46 L st h = fk_ev d qX12_joined 48 L (.int ((-3 : Int32)) :: st) h) ∧
  (∀ (d : Nat) (L : List Value) (x : Int32) (h : fk_H), fk_ev d qX12_joined 48 L [.int x] h = some (some (.int x), h)) ∧
  (∀ (d : Nat) (L st : List Value) (h : fk_H), fk_ev d qX12_joined 49 L st h = fk_ev d qX12_joined 50 L (.int (nI 1) :: st) h) ∧
  (∀ (d : Nat) (a0 a1 a2 a3 a4 a5 a6 a7 : Value) (x : Int32) (st : List Value) (h : fk_H), fk_ev d qX12_joined 50 [a0, a1, a2, a3, a4, a5, a6, a7] (.int x :: st) h = fk_ev d qX12_joined 51 [a0, a1, a2, .int x, a4, a5, a6, a7] st h) ∧
  (∀ (d : Nat) (L st : List Value) (h : fk_H), fk_ev d qX12_joined 51 L st h = fk_ev d qX12_joined 52 L (.int (nI 0) :: st) h) ∧
  (∀ (d : Nat) (a0 a1 a2 a3 a4 a5 a6 a7 : Value) (x : Int32) (st : List Value) (h : fk_H), fk_ev d qX12_joined 52 [a0, a1, a2, a3, a4, a5, a6, a7] (.int x :: st) h = fk_ev d qX12_joined 54 [a0, a1, a2, a3, .int x, a5, a6, a7] st h) ∧
  (∀ (d : Nat) (a0 a2 a3 a4 a5 a6 a7 : Value) (x : Int32) (st : List Value) (h : fk_H), fk_ev d qX12_joined 56 [a0, .int x, a2, a3, a4, a5, a6, a7] st h = fk_ev d qX12_joined 57 [a0, .int x, a2, a3, a4, a5, a6, a7] (.int x :: st) h) ∧
  (∀ (d : Nat) (L : List Value) (x y : Int32) (st : List Value) (h : fk_H), fk_ev d qX12_joined 57 L (.int y :: .int x :: st) h = if y ≤ x then fk_ev d qX12_joined 70 L st h else fk_ev d qX12_joined 60 L st h) ∧
  (∀ (d : Nat) (a0 a1 a2 a4 a5 a6 a7 : Value) (x : Int32) (st : List Value) (h : fk_H), fk_ev d qX12_joined 60 [a0, a1, a2, .int x, a4, a5, a6, a7] st h = fk_ev d qX12_joined 61 [a0, a1, a2, .int x, a4, a5, a6, a7] (.int x :: st) h) ∧
  (∀ (d : Nat) (a0 a2 a3 a4 a5 a6 a7 : Value) (x : Int32) (st : List Value) (h : fk_H), fk_ev d qX12_joined 61 [a0, .int x, a2, a3, a4, a5, a6, a7] st h = fk_ev d qX12_joined 62 [a0, .int x, a2, a3, a4, a5, a6, a7] (.int x :: st) h) ∧
  (∀ (d : Nat) (L : List Value) (x y : Int32) (st : List Value) (h : fk_H), fk_ev d qX12_joined 62 L (.int y :: .int x :: st) h = fk_ev d qX12_joined 63 L (.int (x * y) :: st) h) ∧
  (∀ (d : Nat) (a0 a1 a2 a3 a4 a5 a6 a7 : Value) (x : Int32) (st : List Value) (h : fk_H), fk_ev d qX12_joined 63 [a0, a1, a2, a3, a4, a5, a6, a7] (.int x :: st) h = fk_ev d qX12_joined 64 [a0, a1, a2, .int x, a4, a5, a6, a7] st h) ∧
  (∀ (d : Nat) (a0 a1 a2 a3 a5 a6 a7 : Value) (x : Int32) (st : List Value) (h : fk_H), fk_ev d qX12_joined 64 [a0, a1, a2, a3, .int x, a5, a6, a7] st h = fk_ev d qX12_joined 67 [a0, a1, a2, a3, .int (x + nI 1), a5, a6, a7] st h) ∧
  (∀ (d : Nat) (L st : List Value) (h : fk_H), fk_ev d qX12_joined 67 L st h = fk_ev d qX12_joined 54 L st h) ∧
  (∀ (d : Nat) (L st : List Value) (h : fk_H), fk_ev d qX12_joined 70 L st h = fk_ev d qX12_joined 71 L (.int ((-1 : Int32)) :: st) h) ∧
  (∀ (d : Nat) (a0 a1 a2 a3 a4 a5 a6 a7 : Value) (x : Int32) (st : List Value) (h : fk_H), fk_ev d qX12_joined 71 [a0, a1, a2, a3, a4, a5, a6, a7] (.int x :: st) h = fk_ev d qX12_joined 73 [a0, a1, a2, a3, .int x, a5, a6, a7] st h) ∧
  (∀ (d : Nat) (L st : List Value) (h : fk_H), fk_ev d qX12_joined 73 L st h = fk_ev d qX12_joined 74 L (.int ((-1 : Int32)) :: st) h) ∧
  (∀ (d : Nat) (a0 a1 a2 a3 a4 a5 a6 a7 : Value) (x : Int32) (st : List Value) (h : fk_H), fk_ev d qX12_joined 74 [a0, a1, a2, a3, a4, a5, a6, a7] (.int x :: st) h = fk_ev d qX12_joined 76 [a0, a1, a2, a3, a4, .int x, a6, a7] st h) ∧
  (∀ (d : Nat) (L st : List Value) (h : fk_H), fk_ev d qX12_joined 76 L st h = fk_ev d qX12_joined 77 L (.int (nI 0) :: st) h) ∧
  (∀ (d : Nat) (a0 a1 a2 a3 a4 a5 a6 a7 : Value) (x : Int32) (st : List Value) (h : fk_H), fk_ev d qX12_joined 77 [a0, a1, a2, a3, a4, a5, a6, a7] (.int x :: st) h = fk_ev d qX12_joined 79 [a0, a1, a2, a3, a4, a5, .int x, a7] st h) ∧
  (∀ (d : Nat) (a0 a1 a2 a4 a5 a6 a7 : Value) (x : Int32) (st : List Value) (h : fk_H), fk_ev d qX12_joined 81 [a0, a1, a2, .int x, a4, a5, a6, a7] st h = fk_ev d qX12_joined 82 [a0, a1, a2, .int x, a4, a5, a6, a7] (.int x :: st) h) ∧
  (∀ (d : Nat) (L : List Value) (x y : Int32) (st : List Value) (h : fk_H), fk_ev d qX12_joined 82 L (.int y :: .int x :: st) h = if y ≤ x then fk_ev d qX12_joined 127 L st h else fk_ev d qX12_joined 85 L st h) ∧
  (∀ (d : Nat) (a1 a2 a3 a4 a5 a6 a7 : Value) (x : Nat) (st : List Value) (h : fk_H), fk_ev d qX12_joined 85 [.ref x, a1, a2, a3, a4, a5, a6, a7] st h = fk_ev d qX12_joined 86 [.ref x, a1, a2, a3, a4, a5, a6, a7] (.ref x :: st) h) ∧
  (∀ (d : Nat) (a0 a1 a2 a3 a4 a5 a7 : Value) (x : Int32) (st : List Value) (h : fk_H), fk_ev d qX12_joined 86 [a0, a1, a2, a3, a4, a5, .int x, a7] st h = fk_ev d qX12_joined 88 [a0, a1, a2, a3, a4, a5, .int x, a7] (.int x :: st) h) ∧
  (∀ (d : Nat) (L : List Value) (x0 : Int32)  (N : Nat) (y : Nat → Nat → Int32) (l : Nat → Nat → Int64), fk_ev (d + 1) qX12_joined 88 L (.int x0 :: .ref 246 :: []) (fk_E N y l) = (fk_ev d qX12_readsJoins 0 [.ref 246, .int x0, .null, .null, .null] [] (fk_E N y l)).bind fun o => fk_ev (d + 1) qX12_joined 91 L (o.1.toList ++ []) o.2) ∧
  (∀ (d : Nat) (L : List Value) (x : Int32) (st : List Value) (h : fk_H), fk_ev d qX12_joined 91 L (.int x :: st) h = if ¬ x = nI 0 then fk_ev d qX12_joined 97 L st h else fk_ev d qX12_joined 94 L st h) ∧
  (∀ (d : Nat) (L st : List Value) (h : fk_H), fk_ev d qX12_joined 94 L st h = fk_ev d qX12_joined 121 L st h) ∧
  (∀ (d : Nat) (a1 a2 a3 a4 a5 a6 a7 : Value) (x : Nat) (st : List Value) (h : fk_H), fk_ev d qX12_joined 97 [.ref x, a1, a2, a3, a4, a5, a6, a7] st h = fk_ev d qX12_joined 98 [.ref x, a1, a2, a3, a4, a5, a6, a7] (.ref x :: st) h) ∧
  (∀ (d : Nat) (L : List Value)   (N : Nat) (y : Nat → Nat → Int32) (l : Nat → Nat → Int64), fk_ev (d + 1) qX12_joined 98 L (.ref 246 :: []) (fk_E N y l) = (fk_ev d qX12_knownBy 0 [.ref 246, .null, .null, .null, .null, .null, .null, .null, .null, .null, .null, .null] [] (fk_E N y l)).bind fun o => fk_ev (d + 1) qX12_joined 101 L (o.1.toList ++ []) o.2) ∧
  (∀ (d : Nat) (a0 a1 a2 a3 a4 a5 a6 a7 : Value) (x : Int32) (st : List Value) (h : fk_H), fk_ev d qX12_joined 101 [a0, a1, a2, a3, a4, a5, a6, a7] (.int x :: st) h = fk_ev d qX12_joined 103 [a0, a1, a2, a3, a4, a5, a6, .int x] st h) ∧
  (∀ (d : Nat) (a0 a1 a2 a3 a4 a5 a6 : Value) (x : Int32) (st : List Value) (h : fk_H), fk_ev d qX12_joined 103 [a0, a1, a2, a3, a4, a5, a6, .int x] st h = fk_ev d qX12_joined 105 [a0, a1, a2, a3, a4, a5, a6, .int x] (.int x :: st) h) ∧
  (∀ (d : Nat) (a0 a1 a2 a3 a4 a6 a7 : Value) (x : Int32) (st : List Value) (h : fk_H), fk_ev d qX12_joined 105 [a0, a1, a2, a3, a4, .int x, a6, a7] st h = fk_ev d qX12_joined 107 [a0, a1, a2, a3, a4, .int x, a6, a7] (.int x :: st) h) ∧
  (∀ (d : Nat) (L : List Value) (x y : Int32) (st : List Value) (h : fk_H), fk_ev d qX12_joined 107 L (.int y :: .int x :: st) h = if y < x then fk_ev d qX12_joined 113 L st h else fk_ev d qX12_joined 110 L st h) ∧
  (∀ (d : Nat) (L st : List Value) (h : fk_H), fk_ev d qX12_joined 110 L st h = fk_ev d qX12_joined 121 L st h) ∧
  (∀ (d : Nat) (a0 a1 a2 a3 a4 a5 a6 : Value) (x : Int32) (st : List Value) (h : fk_H), fk_ev d qX12_joined 113 [a0, a1, a2, a3, a4, a5, a6, .int x] st h = fk_ev d qX12_joined 115 [a0, a1, a2, a3, a4, a5, a6, .int x] (.int x :: st) h) ∧
  (∀ (d : Nat) (a0 a1 a2 a3 a4 a5 a6 a7 : Value) (x : Int32) (st : List Value) (h : fk_H), fk_ev d qX12_joined 115 [a0, a1, a2, a3, a4, a5, a6, a7] (.int x :: st) h = fk_ev d qX12_joined 117 [a0, a1, a2, a3, a4, .int x, a6, a7] st h) ∧
  (∀ (d : Nat) (a0 a1 a2 a3 a4 a5 a7 : Value) (x : Int32) (st : List Value) (h : fk_H), fk_ev d qX12_joined 117 [a0, a1, a2, a3, a4, a5, .int x, a7] st h = fk_ev d qX12_joined 119 [a0, a1, a2, a3, a4, a5, .int x, a7] (.int x :: st) h) ∧
  (∀ (d : Nat) (a0 a1 a2 a3 a4 a5 a6 a7 : Value) (x : Int32) (st : List Value) (h : fk_H), fk_ev d qX12_joined 119 [a0, a1, a2, a3, a4, a5, a6, a7] (.int x :: st) h = fk_ev d qX12_joined 121 [a0, a1, a2, a3, .int x, a5, a6, a7] st h) ∧
  (∀ (d : Nat) (a0 a1 a2 a3 a4 a5 a7 : Value) (x : Int32) (st : List Value) (h : fk_H), fk_ev d qX12_joined 121 [a0, a1, a2, a3, a4, a5, .int x, a7] st h = fk_ev d qX12_joined 124 [a0, a1, a2, a3, a4, a5, .int (x + nI 1), a7] st h) ∧
  (∀ (d : Nat) (L st : List Value) (h : fk_H), fk_ev d qX12_joined 124 L st h = fk_ev d qX12_joined 79 L st h) ∧
  (∀ (d : Nat) (a1 a2 a3 a4 a5 a6 a7 : Value) (x : Nat) (st : List Value) (h : fk_H), fk_ev d qX12_joined 127 [.ref x, a1, a2, a3, a4, a5, a6, a7] st h = fk_ev d qX12_joined 128 [.ref x, a1, a2, a3, a4, a5, a6, a7] (.ref x :: st) h) ∧
  (∀ (d : Nat) (a0 a1 a2 a3 a5 a6 a7 : Value) (x : Int32) (st : List Value) (h : fk_H), fk_ev d qX12_joined 128 [a0, a1, a2, a3, .int x, a5, a6, a7] st h = fk_ev d qX12_joined 130 [a0, a1, a2, a3, .int x, a5, a6, a7] (.int x :: st) h) ∧
  (∀ (d : Nat) (L : List Value) (x0 : Int32)  (N : Nat) (y : Nat → Nat → Int32) (l : Nat → Nat → Int64), fk_ev (d + 1) qX12_joined 130 L (.int x0 :: .ref 246 :: []) (fk_E N y l) = (fk_ev d qX12_readsJoins 0 [.ref 246, .int x0, .null, .null, .null] [] (fk_E N y l)).bind fun o => fk_ev (d + 1) qX12_joined 133 L (o.1.toList ++ []) o.2) ∧
  (∀ (d : Nat) (L : List Value) (x : Int32) (st : List Value) (h : fk_H), fk_ev d qX12_joined 133 L (.int x :: st) h = fk_ev d qX12_joined 134 L st h) ∧
  (∀ (d : Nat) (a0 a1 a3 a4 a5 a6 a7 : Value) (x : Int32) (st : List Value) (h : fk_H), fk_ev d qX12_joined 134 [a0, a1, .int x, a3, a4, a5, a6, a7] st h = fk_ev d qX12_joined 135 [a0, a1, .int x, a3, a4, a5, a6, a7] (.int x :: st) h) ∧
  (∀ (d : Nat) (L st : List Value) (h : fk_H), fk_ev d qX12_joined 135 L st h = fk_ev d qX12_joined 136 L (.int ((-1 : Int32)) :: st) h) ∧
  (∀ (d : Nat) (L : List Value) (x y : Int32) (st : List Value) (h : fk_H), fk_ev d qX12_joined 136 L (.int y :: .int x :: st) h = if ¬ x = y then fk_ev d qX12_joined 144 L st h else fk_ev d qX12_joined 139 L st h) ∧
  (∀ (d : Nat) (a0 a1 a2 a3 a4 a6 a7 : Value) (x : Int32) (st : List Value) (h : fk_H), fk_ev d qX12_joined 139 [a0, a1, a2, a3, a4, .int x, a6, a7] st h = fk_ev d qX12_joined 141 [a0, a1, a2, a3, a4, .int x, a6, a7] (.int x :: st) h) ∧
  (∀ (d : Nat) (L st : List Value) (h : fk_H), fk_ev d qX12_joined 141 L st h = fk_ev d qX12_joined 155 L st h) ∧
  (∀ (d : Nat) (a1 a2 a3 a4 a5 a6 a7 : Value) (x : Nat) (st : List Value) (h : fk_H), fk_ev d qX12_joined 144 [.ref x, a1, a2, a3, a4, a5, a6, a7] st h = fk_ev d qX12_joined 145 [.ref x, a1, a2, a3, a4, a5, a6, a7] (.ref x :: st) h) ∧
  (∀ (d : Nat) (L st : List Value) (N : Nat) (y : Nat → Nat → Int32) (l : Nat → Nat → Int64), fk_ev d qX12_joined 145 L (.ref 246 :: st) (fk_E N y l) = fk_ev d qX12_joined 148 L (.ref 271 :: st) (fk_E N y l)) ∧
  (∀ (d : Nat) (a1 a2 a3 a4 a5 a6 a7 : Value) (x : Nat) (st : List Value) (h : fk_H), fk_ev d qX12_joined 148 [.ref x, a1, a2, a3, a4, a5, a6, a7] st h = fk_ev d qX12_joined 149 [.ref x, a1, a2, a3, a4, a5, a6, a7] (.ref x :: st) h) ∧
  (∀ (d : Nat) (L st : List Value) (N : Nat) (y : Nat → Nat → Int32) (l : Nat → Nat → Int64), fk_ev d qX12_joined 149 L (.ref 246 :: st) (fk_E N y l) = fk_ev d qX12_joined 152 L (.ref 272 :: st) (fk_E N y l)) ∧
  (∀ (d : Nat) (a0 a1 a3 a4 a5 a6 a7 : Value) (x : Int32) (st : List Value) (h : fk_H), fk_ev d qX12_joined 152 [a0, a1, .int x, a3, a4, a5, a6, a7] st h = fk_ev d qX12_joined 153 [a0, a1, .int x, a3, a4, a5, a6, a7] (.int x :: st) h) ∧
  (∀ (d : Nat) (L st : List Value) (N : Nat) (y : Nat → Nat → Int32) (l : Nat → Nat → Int64) (i : Nat), i < 5 → fk_ev d qX12_joined 153 L (.int (nI i) :: .ref 272 :: st) (fk_E N y l) = fk_ev d qX12_joined 154 L (.int (y 272 i) :: st) (fk_E N y l)) ∧
  (∀ (d : Nat) (L st : List Value) (N : Nat) (y : Nat → Nat → Int32) (l : Nat → Nat → Int64) (i : Nat), i < 5 → fk_ev d qX12_joined 154 L (.int (nI i) :: .ref 271 :: st) (fk_E N y l) = fk_ev d qX12_joined 155 L (.int (y 271 i) :: st) (fk_E N y l)) ∧
  (∀ (d : Nat) (L : List Value) (x : Int32) (h : fk_H), fk_ev d qX12_joined 155 L [.int x] h = some (some (.int x), h)) := ⟨fun d a0 a2 a3 a4 a5 a6 a7 x st h => fk_w_iloadn 1 [a0, .int x, a2, a3, a4, a5, a6, a7] dX12_joined_0 rfl,
  fun d L st h => fk_w_iconst dX12_joined_1 (by decide),
  fun d L st h => fk_w_iconst dX12_joined_2 (by decide),
  fun d L x0 x1 x2 h => fk_g_calls [.int x0, .int x1, .int x2] [] rfl lm_12_112 dX12_joined_3 rfl ⟨rfl, by decide⟩ (by simp),
  fun d L x st h => fk_r_if_eq dX12_joined_6 (by decide),
  fun d a0 a2 a3 a4 a5 a6 a7 x st h => fk_w_iloadn 1 [a0, .int x, a2, a3, a4, a5, a6, a7] dX12_joined_9 rfl,
  fun d a1 a2 a3 a4 a5 a6 a7 x st h => fk_w_aloadn 0 [.ref x, a1, a2, a3, a4, a5, a6, a7] dX12_joined_10 rfl,
  fun d L st N y l => fk_g_getI rfl lf_12_148 (by decide) dX12_joined_11 fk_at_246,
  fun d L x y st h => fk_r_icmp_le dX12_joined_14 (by decide),
  fun d L st h => fk_w_iconst dX12_joined_17 (by decide),
  fun d L x h => fk_r_ret dX12_joined_18 (Or.inl rfl),
  fun d a1 a2 a3 a4 a5 a6 a7 x st h => fk_w_aloadn 0 [.ref x, a1, a2, a3, a4, a5, a6, a7] dX12_joined_19 rfl,
  fun d L st h => fk_w_iconst dX12_joined_20 (by decide),
  fun d L st N y l v => fk_g_putI rfl lf_12_148 (by decide) dX12_joined_21 rfl fk_at_246,
  fun d a1 a2 a3 a4 a5 a6 a7 x st h => fk_w_aloadn 0 [.ref x, a1, a2, a3, a4, a5, a6, a7] dX12_joined_24 rfl,
  fun d a0 a2 a3 a4 a5 a6 a7 x st h => fk_w_iloadn 1 [a0, .int x, a2, a3, a4, a5, a6, a7] dX12_joined_25 rfl,
  fun d L x0 N y l  => fk_g_call [.int x0] [] rfl lm_12_372 dX12_joined_26 rfl ⟨rfl, by decide⟩ (by simp) fk_at_246,
  fun d L x st h => fk_r_if_ne dX12_joined_29 (by decide),
  fun d L st h => fk_w_bipush dX12_joined_32 (by decide),
  fun d L x h => fk_r_ret dX12_joined_34 (Or.inl rfl),
  fun d a0 a1 a3 a4 a5 a6 a7 x st h => fk_w_iloadn 2 [a0, a1, .int x, a3, a4, a5, a6, a7] dX12_joined_35 rfl,
  fun d L st h => fk_w_iconst dX12_joined_36 (by decide),
  fun d a0 a2 a3 a4 a5 a6 a7 x st h => fk_w_iloadn 1 [a0, .int x, a2, a3, a4, a5, a6, a7] dX12_joined_37 rfl,
  fun d L st h => fk_w_iconst dX12_joined_38 (by decide),
  fun d L x y st h => fk_r_isub dX12_joined_39,
  fun d L x0 x1 x2 h => fk_g_calls [.int x0, .int x1, .int x2] [] rfl lm_12_112 dX12_joined_40 rfl ⟨rfl, by decide⟩ (by simp),
  fun d L x st h => fk_r_if_ne dX12_joined_43 (by decide),
  fun d L st h => fk_w_bipush dX12_joined_46 (by decide),
  fun d L x h => fk_r_ret dX12_joined_48 (Or.inl rfl),
  fun d L st h => fk_w_iconst dX12_joined_49 (by decide),
  fun d a0 a1 a2 a3 a4 a5 a6 a7 x st h => fk_w_istoren 3 8 [] [a0, a1, a2, a3, a4, a5, a6, a7] [a0, a1, a2, .int x, a4, a5, a6, a7] dX12_joined_50 rfl rfl (by decide) rfl,
  fun d L st h => fk_w_iconst dX12_joined_51 (by decide),
  fun d a0 a1 a2 a3 a4 a5 a6 a7 x st h => fk_w_istore 4 8 [] [a0, a1, a2, a3, a4, a5, a6, a7] [a0, a1, a2, a3, .int x, a5, a6, a7] dX12_joined_52 rfl rfl (by decide) rfl,
  fun d a0 a2 a3 a4 a5 a6 a7 x st h => fk_w_iloadn 1 [a0, .int x, a2, a3, a4, a5, a6, a7] dX12_joined_56 rfl,
  fun d L x y st h => fk_r_icmp_ge dX12_joined_57 (by decide),
  fun d a0 a1 a2 a4 a5 a6 a7 x st h => fk_w_iloadn 3 [a0, a1, a2, .int x, a4, a5, a6, a7] dX12_joined_60 rfl,
  fun d a0 a2 a3 a4 a5 a6 a7 x st h => fk_w_iloadn 1 [a0, .int x, a2, a3, a4, a5, a6, a7] dX12_joined_61 rfl,
  fun d L x y st h => fk_r_imul dX12_joined_62,
  fun d a0 a1 a2 a3 a4 a5 a6 a7 x st h => fk_w_istoren 3 8 [] [a0, a1, a2, a3, a4, a5, a6, a7] [a0, a1, a2, .int x, a4, a5, a6, a7] dX12_joined_63 rfl rfl (by decide) rfl,
  fun d a0 a1 a2 a3 a5 a6 a7 x st h => fk_w_iinc 4 8 (1) [] [a0, a1, a2, a3, .int x, a5, a6, a7] [a0, a1, a2, a3, .int (x + nI 1), a5, a6, a7] dX12_joined_64 rfl rfl rfl (by decide) rfl,
  fun d L st h => fk_r_goto dX12_joined_67 (by decide),
  fun d L st h => fk_w_iconst dX12_joined_70 (by decide),
  fun d a0 a1 a2 a3 a4 a5 a6 a7 x st h => fk_w_istore 4 8 [] [a0, a1, a2, a3, a4, a5, a6, a7] [a0, a1, a2, a3, .int x, a5, a6, a7] dX12_joined_71 rfl rfl (by decide) rfl,
  fun d L st h => fk_w_iconst dX12_joined_73 (by decide),
  fun d a0 a1 a2 a3 a4 a5 a6 a7 x st h => fk_w_istore 5 8 [] [a0, a1, a2, a3, a4, a5, a6, a7] [a0, a1, a2, a3, a4, .int x, a6, a7] dX12_joined_74 rfl rfl (by decide) rfl,
  fun d L st h => fk_w_iconst dX12_joined_76 (by decide),
  fun d a0 a1 a2 a3 a4 a5 a6 a7 x st h => fk_w_istore 6 8 [] [a0, a1, a2, a3, a4, a5, a6, a7] [a0, a1, a2, a3, a4, a5, .int x, a7] dX12_joined_77 rfl rfl (by decide) rfl,
  fun d a0 a1 a2 a4 a5 a6 a7 x st h => fk_w_iloadn 3 [a0, a1, a2, .int x, a4, a5, a6, a7] dX12_joined_81 rfl,
  fun d L x y st h => fk_r_icmp_ge dX12_joined_82 (by decide),
  fun d a1 a2 a3 a4 a5 a6 a7 x st h => fk_w_aloadn 0 [.ref x, a1, a2, a3, a4, a5, a6, a7] dX12_joined_85 rfl,
  fun d a0 a1 a2 a3 a4 a5 a7 x st h => fk_w_iload 6 [a0, a1, a2, a3, a4, a5, .int x, a7] dX12_joined_86 rfl,
  fun d L x0 N y l  => fk_g_call [.int x0] [] rfl lm_12_375 dX12_joined_88 rfl ⟨rfl, by decide⟩ (by simp) fk_at_246,
  fun d L x st h => fk_r_if_ne dX12_joined_91 (by decide),
  fun d L st h => fk_r_goto dX12_joined_94 (by decide),
  fun d a1 a2 a3 a4 a5 a6 a7 x st h => fk_w_aloadn 0 [.ref x, a1, a2, a3, a4, a5, a6, a7] dX12_joined_97 rfl,
  fun d L  N y l  => fk_g_call [] [] rfl lm_12_378 dX12_joined_98 rfl ⟨rfl, by decide⟩ (by simp) fk_at_246,
  fun d a0 a1 a2 a3 a4 a5 a6 a7 x st h => fk_w_istore 7 8 [] [a0, a1, a2, a3, a4, a5, a6, a7] [a0, a1, a2, a3, a4, a5, a6, .int x] dX12_joined_101 rfl rfl (by decide) rfl,
  fun d a0 a1 a2 a3 a4 a5 a6 x st h => fk_w_iload 7 [a0, a1, a2, a3, a4, a5, a6, .int x] dX12_joined_103 rfl,
  fun d a0 a1 a2 a3 a4 a6 a7 x st h => fk_w_iload 5 [a0, a1, a2, a3, a4, .int x, a6, a7] dX12_joined_105 rfl,
  fun d L x y st h => fk_r_icmp_gt dX12_joined_107 (by decide),
  fun d L st h => fk_r_goto dX12_joined_110 (by decide),
  fun d a0 a1 a2 a3 a4 a5 a6 x st h => fk_w_iload 7 [a0, a1, a2, a3, a4, a5, a6, .int x] dX12_joined_113 rfl,
  fun d a0 a1 a2 a3 a4 a5 a6 a7 x st h => fk_w_istore 5 8 [] [a0, a1, a2, a3, a4, a5, a6, a7] [a0, a1, a2, a3, a4, .int x, a6, a7] dX12_joined_115 rfl rfl (by decide) rfl,
  fun d a0 a1 a2 a3 a4 a5 a7 x st h => fk_w_iload 6 [a0, a1, a2, a3, a4, a5, .int x, a7] dX12_joined_117 rfl,
  fun d a0 a1 a2 a3 a4 a5 a6 a7 x st h => fk_w_istore 4 8 [] [a0, a1, a2, a3, a4, a5, a6, a7] [a0, a1, a2, a3, .int x, a5, a6, a7] dX12_joined_119 rfl rfl (by decide) rfl,
  fun d a0 a1 a2 a3 a4 a5 a7 x st h => fk_w_iinc 6 8 (1) [] [a0, a1, a2, a3, a4, a5, .int x, a7] [a0, a1, a2, a3, a4, a5, .int (x + nI 1), a7] dX12_joined_121 rfl rfl rfl (by decide) rfl,
  fun d L st h => fk_r_goto dX12_joined_124 (by decide),
  fun d a1 a2 a3 a4 a5 a6 a7 x st h => fk_w_aloadn 0 [.ref x, a1, a2, a3, a4, a5, a6, a7] dX12_joined_127 rfl,
  fun d a0 a1 a2 a3 a5 a6 a7 x st h => fk_w_iload 4 [a0, a1, a2, a3, .int x, a5, a6, a7] dX12_joined_128 rfl,
  fun d L x0 N y l  => fk_g_call [.int x0] [] rfl lm_12_375 dX12_joined_130 rfl ⟨rfl, by decide⟩ (by simp) fk_at_246,
  fun d L x st h => fk_r_pop_int dX12_joined_133,
  fun d a0 a1 a3 a4 a5 a6 a7 x st h => fk_w_iloadn 2 [a0, a1, .int x, a3, a4, a5, a6, a7] dX12_joined_134 rfl,
  fun d L st h => fk_w_iconst dX12_joined_135 (by decide),
  fun d L x y st h => fk_r_icmp_ne dX12_joined_136 (by decide),
  fun d a0 a1 a2 a3 a4 a6 a7 x st h => fk_w_iload 5 [a0, a1, a2, a3, a4, .int x, a6, a7] dX12_joined_139 rfl,
  fun d L st h => fk_r_goto dX12_joined_141 (by decide),
  fun d a1 a2 a3 a4 a5 a6 a7 x st h => fk_w_aloadn 0 [.ref x, a1, a2, a3, a4, a5, a6, a7] dX12_joined_144 rfl,
  fun d L st N y l => fk_g_getC rfl lf_12_85 (by decide) rfl dX12_joined_145 fk_at_246,
  fun d a1 a2 a3 a4 a5 a6 a7 x st h => fk_w_aloadn 0 [.ref x, a1, a2, a3, a4, a5, a6, a7] dX12_joined_148 rfl,
  fun d L st N y l => fk_g_getC rfl lf_12_88 (by decide) rfl dX12_joined_149 fk_at_246,
  fun d a0 a1 a3 a4 a5 a6 a7 x st h => fk_w_iloadn 2 [a0, a1, .int x, a3, a4, a5, a6, a7] dX12_joined_152 rfl,
  fun d L st N y l i hi => fk_g_iald fk_at_272 fk_ln_272 (by decide) dX12_joined_153 hi,
  fun d L st N y l i hi => fk_g_iald fk_at_271 fk_ln_271 (by decide) dX12_joined_154 hi,
  fun d L x h => fk_r_ret dX12_joined_155 (Or.inl rfl)⟩
theorem hX12_joined_54 : ∀ (d : Nat) (a0 a1 a2 a3 a5 a6 a7 : Value) (x : Int32) (st : List Value) (h : fk_H), fk_ev d qX12_joined 54 [a0, a1, a2, a3, .int x, a5, a6, a7] st h = fk_ev d qX12_joined 56 [a0, a1, a2, a3, .int x, a5, a6, a7] (.int x :: st) h := fun d a0 a1 a2 a3 a5 a6 a7 x st h => fk_w_iload 4 [a0, a1, a2, a3, .int x, a5, a6, a7] dX12_joined_54 rfl
theorem hX12_joined_79 : ∀ (d : Nat) (a0 a1 a2 a3 a4 a5 a7 : Value) (x : Int32) (st : List Value) (h : fk_H), fk_ev d qX12_joined 79 [a0, a1, a2, a3, a4, a5, .int x, a7] st h = fk_ev d qX12_joined 81 [a0, a1, a2, a3, a4, a5, .int x, a7] (.int x :: st) h := fun d a0 a1 a2 a3 a4 a5 a7 x st h => fk_w_iload 6 [a0, a1, a2, a3, a4, a5, .int x, a7] dX12_joined_79 rfl
theorem dX12_gainOf_0 : decode cX12_gainOf 0 = .ok (.aload_n 0, 1) := by decide +kernel
theorem dX12_gainOf_1 : decode cX12_gainOf 1 = .ok (.iload_n 1, 1) := by decide +kernel
theorem dX12_gainOf_2 : decode cX12_gainOf 2 = .ok (.iload_n 2, 1) := by decide +kernel
theorem dX12_gainOf_3 : decode cX12_gainOf 3 = .ok (.invokevirtual 292, 3) := by decide +kernel
theorem dX12_gainOf_6 : decode cX12_gainOf 6 = .ok (.istore 4, 2) := by decide +kernel
theorem dX12_gainOf_8 : decode cX12_gainOf 8 = .ok (.iload_n 2, 1) := by decide +kernel
theorem dX12_gainOf_9 : decode cX12_gainOf 9 = .ok (.iload_n 3, 1) := by decide +kernel
theorem dX12_gainOf_10 : decode cX12_gainOf 10 = .ok (.if_icmp .ne 10, 3) := by decide +kernel
theorem dX12_gainOf_13 : decode cX12_gainOf 13 = .ok (.iload 4, 2) := by decide +kernel
theorem dX12_gainOf_15 : decode cX12_gainOf 15 = .ok (.iconst 2, 1) := by decide +kernel
theorem dX12_gainOf_16 : decode cX12_gainOf 16 = .ok (.idiv, 1) := by decide +kernel
theorem dX12_gainOf_17 : decode cX12_gainOf 17 = .ok (.goto 5, 3) := by decide +kernel
theorem dX12_gainOf_20 : decode cX12_gainOf 20 = .ok (.iload 4, 2) := by decide +kernel
theorem dX12_gainOf_22 : decode cX12_gainOf 22 = .ok (.ireturn, 1) := by decide +kernel
theorem rX12_gainOf : (∀ (d : Nat) (a1 a2 a3 a4 : Value) (x : Nat) (st : List Value) (h : fk_H), fk_ev d qX12_gainOf 0 [.ref x, a1, a2, a3, a4] st h = fk_ev d qX12_gainOf 1 [.ref x, a1, a2, a3, a4] (.ref x :: st) h) ∧
  (∀ (d : Nat) (a0 a2 a3 a4 : Value) (x : Int32) (st : List Value) (h : fk_H), fk_ev d qX12_gainOf 1 [a0, .int x, a2, a3, a4] st h = fk_ev d qX12_gainOf 2 [a0, .int x, a2, a3, a4] (.int x :: st) h) ∧
  (∀ (d : Nat) (a0 a1 a3 a4 : Value) (x : Int32) (st : List Value) (h : fk_H), fk_ev d qX12_gainOf 2 [a0, a1, .int x, a3, a4] st h = fk_ev d qX12_gainOf 3 [a0, a1, .int x, a3, a4] (.int x :: st) h) ∧
  (∀ (d : Nat) (L : List Value) (x0 : Int32) (x1 : Int32)  (N : Nat) (y : Nat → Nat → Int32) (l : Nat → Nat → Int64), fk_ev (d + 1) qX12_gainOf 3 L (.int x1 :: .int x0 :: .ref 246 :: []) (fk_E N y l) = (fk_ev d qX12_gladlyFor 0 [.ref 246, .int x0, .int x1] [] (fk_E N y l)).bind fun o => fk_ev (d + 1) qX12_gainOf 6 L (o.1.toList ++ []) o.2) ∧
  (∀ (d : Nat) (a0 a1 a2 a3 a4 : Value) (x : Int32) (st : List Value) (h : fk_H), fk_ev d qX12_gainOf 6 [a0, a1, a2, a3, a4] (.int x :: st) h = fk_ev d qX12_gainOf 8 [a0, a1, a2, a3, .int x] st h) ∧
  (∀ (d : Nat) (a0 a1 a3 a4 : Value) (x : Int32) (st : List Value) (h : fk_H), fk_ev d qX12_gainOf 8 [a0, a1, .int x, a3, a4] st h = fk_ev d qX12_gainOf 9 [a0, a1, .int x, a3, a4] (.int x :: st) h) ∧
  (∀ (d : Nat) (a0 a1 a2 a4 : Value) (x : Int32) (st : List Value) (h : fk_H), fk_ev d qX12_gainOf 9 [a0, a1, a2, .int x, a4] st h = fk_ev d qX12_gainOf 10 [a0, a1, a2, .int x, a4] (.int x :: st) h) ∧
  (∀ (d : Nat) (L : List Value) (x y : Int32) (st : List Value) (h : fk_H), fk_ev d qX12_gainOf 10 L (.int y :: .int x :: st) h = if ¬ x = y then fk_ev d qX12_gainOf 20 L st h else fk_ev d qX12_gainOf 13 L st h) ∧
  (∀ (d : Nat) (a0 a1 a2 a3 : Value) (x : Int32) (st : List Value) (h : fk_H), fk_ev d qX12_gainOf 13 [a0, a1, a2, a3, .int x] st h = fk_ev d qX12_gainOf 15 [a0, a1, a2, a3, .int x] (.int x :: st) h) ∧
  (∀ (d : Nat) (L st : List Value) (h : fk_H), fk_ev d qX12_gainOf 15 L st h = fk_ev d qX12_gainOf 16 L (.int (nI 2) :: st) h) ∧
  (∀ (d : Nat) (L : List Value) (x y : Int32) (st : List Value) (h : fk_H), fk_ev d qX12_gainOf 16 L (.int y :: .int x :: st) h = if y = 0 then none else fk_ev d qX12_gainOf 17 L (.int (x / y) :: st) h) ∧
  (∀ (d : Nat) (L st : List Value) (h : fk_H), fk_ev d qX12_gainOf 17 L st h = fk_ev d qX12_gainOf 22 L st h) ∧
  (∀ (d : Nat) (a0 a1 a2 a3 : Value) (x : Int32) (st : List Value) (h : fk_H), fk_ev d qX12_gainOf 20 [a0, a1, a2, a3, .int x] st h = fk_ev d qX12_gainOf 22 [a0, a1, a2, a3, .int x] (.int x :: st) h) ∧
  (∀ (d : Nat) (L : List Value) (x : Int32) (h : fk_H), fk_ev d qX12_gainOf 22 L [.int x] h = some (some (.int x), h)) := ⟨fun d a1 a2 a3 a4 x st h => fk_w_aloadn 0 [.ref x, a1, a2, a3, a4] dX12_gainOf_0 rfl,
  fun d a0 a2 a3 a4 x st h => fk_w_iloadn 1 [a0, .int x, a2, a3, a4] dX12_gainOf_1 rfl,
  fun d a0 a1 a3 a4 x st h => fk_w_iloadn 2 [a0, a1, .int x, a3, a4] dX12_gainOf_2 rfl,
  fun d L x0 x1 N y l  => fk_g_call [.int x0, .int x1] [] rfl lm_12_292 dX12_gainOf_3 rfl ⟨rfl, by decide⟩ (by simp) fk_at_246,
  fun d a0 a1 a2 a3 a4 x st h => fk_w_istore 4 5 [] [a0, a1, a2, a3, a4] [a0, a1, a2, a3, .int x] dX12_gainOf_6 rfl rfl (by decide) rfl,
  fun d a0 a1 a3 a4 x st h => fk_w_iloadn 2 [a0, a1, .int x, a3, a4] dX12_gainOf_8 rfl,
  fun d a0 a1 a2 a4 x st h => fk_w_iloadn 3 [a0, a1, a2, .int x, a4] dX12_gainOf_9 rfl,
  fun d L x y st h => fk_r_icmp_ne dX12_gainOf_10 (by decide),
  fun d a0 a1 a2 a3 x st h => fk_w_iload 4 [a0, a1, a2, a3, .int x] dX12_gainOf_13 rfl,
  fun d L st h => fk_w_iconst dX12_gainOf_15 (by decide),
  fun d L x y st h => fk_r_idiv dX12_gainOf_16,
  fun d L st h => fk_r_goto dX12_gainOf_17 (by decide),
  fun d a0 a1 a2 a3 x st h => fk_w_iload 4 [a0, a1, a2, a3, .int x] dX12_gainOf_20 rfl,
  fun d L x h => fk_r_ret dX12_gainOf_22 (Or.inl rfl)⟩
theorem dX12_isGlad_0 : decode cX12_isGlad 0 = .ok (.aload_n 0, 1) := by decide +kernel
theorem dX12_isGlad_1 : decode cX12_isGlad 1 = .ok (.iload_n 2, 1) := by decide +kernel
theorem dX12_isGlad_2 : decode cX12_isGlad 2 = .ok (.invokevirtual 289, 3) := by decide +kernel
theorem dX12_isGlad_5 : decode cX12_isGlad 5 = .ok (.ifCond .eq 35, 3) := by decide +kernel
theorem dX12_isGlad_8 : decode cX12_isGlad 8 = .ok (.aload_n 0, 1) := by decide +kernel
theorem dX12_isGlad_9 : decode cX12_isGlad 9 = .ok (.getfield 19, 3) := by decide +kernel
theorem dX12_isGlad_12 : decode cX12_isGlad 12 = .ok (.iload_n 2, 1) := by decide +kernel
theorem dX12_isGlad_13 : decode cX12_isGlad 13 = .ok (.iaload, 1) := by decide +kernel
theorem dX12_isGlad_14 : decode cX12_isGlad 14 = .ok (.aload_n 0, 1) := by decide +kernel
theorem dX12_isGlad_15 : decode cX12_isGlad 15 = .ok (.getfield 7, 3) := by decide +kernel
theorem dX12_isGlad_18 : decode cX12_isGlad 18 = .ok (.sipush 320, 3) := by decide +kernel
theorem dX12_isGlad_21 : decode cX12_isGlad 21 = .ok (.iload_n 1, 1) := by decide +kernel
theorem dX12_isGlad_22 : decode cX12_isGlad 22 = .ok (.iadd, 1) := by decide +kernel
theorem dX12_isGlad_23 : decode cX12_isGlad 23 = .ok (.iaload, 1) := by decide +kernel
theorem dX12_isGlad_24 : decode cX12_isGlad 24 = .ok (.if_icmp .ne 16, 3) := by decide +kernel
theorem dX12_isGlad_27 : decode cX12_isGlad 27 = .ok (.aload_n 0, 1) := by decide +kernel
theorem dX12_isGlad_28 : decode cX12_isGlad 28 = .ok (.iload_n 1, 1) := by decide +kernel
theorem dX12_isGlad_29 : decode cX12_isGlad 29 = .ok (.iload_n 2, 1) := by decide +kernel
theorem dX12_isGlad_30 : decode cX12_isGlad 30 = .ok (.invokevirtual 292, 3) := by decide +kernel
theorem dX12_isGlad_33 : decode cX12_isGlad 33 = .ok (.ifCond .le 7, 3) := by decide +kernel
theorem dX12_isGlad_36 : decode cX12_isGlad 36 = .ok (.iconst 1, 1) := by decide +kernel
theorem dX12_isGlad_37 : decode cX12_isGlad 37 = .ok (.goto 4, 3) := by decide +kernel
theorem dX12_isGlad_40 : decode cX12_isGlad 40 = .ok (.iconst 0, 1) := by decide +kernel
theorem dX12_isGlad_41 : decode cX12_isGlad 41 = .ok (.ireturn, 1) := by decide +kernel
theorem rX12_isGlad : (∀ (d : Nat) (a1 a2 : Value) (x : Nat) (st : List Value) (h : fk_H), fk_ev d qX12_isGlad 0 [.ref x, a1, a2] st h = fk_ev d qX12_isGlad 1 [.ref x, a1, a2] (.ref x :: st) h) ∧
  (∀ (d : Nat) (a0 a1 : Value) (x : Int32) (st : List Value) (h : fk_H), fk_ev d qX12_isGlad 1 [a0, a1, .int x] st h = fk_ev d qX12_isGlad 2 [a0, a1, .int x] (.int x :: st) h) ∧
  (∀ (d : Nat) (L : List Value) (x0 : Int32)  (N : Nat) (y : Nat → Nat → Int32) (l : Nat → Nat → Int64), fk_ev (d + 1) qX12_isGlad 2 L (.int x0 :: .ref 246 :: []) (fk_E N y l) = (fk_ev d qX12_isRoad 0 [.ref 246, .int x0] [] (fk_E N y l)).bind fun o => fk_ev (d + 1) qX12_isGlad 5 L (o.1.toList ++ []) o.2) ∧
  (∀ (d : Nat) (L : List Value) (x : Int32) (st : List Value) (h : fk_H), fk_ev d qX12_isGlad 5 L (.int x :: st) h = if x = nI 0 then fk_ev d qX12_isGlad 40 L st h else fk_ev d qX12_isGlad 8 L st h) ∧
  (∀ (d : Nat) (a1 a2 : Value) (x : Nat) (st : List Value) (h : fk_H), fk_ev d qX12_isGlad 8 [.ref x, a1, a2] st h = fk_ev d qX12_isGlad 9 [.ref x, a1, a2] (.ref x :: st) h) ∧
  (∀ (d : Nat) (L st : List Value) (N : Nat) (y : Nat → Nat → Int32) (l : Nat → Nat → Int64), fk_ev d qX12_isGlad 9 L (.ref 246 :: st) (fk_E N y l) = fk_ev d qX12_isGlad 12 L (.ref 250 :: st) (fk_E N y l)) ∧
  (∀ (d : Nat) (a0 a1 : Value) (x : Int32) (st : List Value) (h : fk_H), fk_ev d qX12_isGlad 12 [a0, a1, .int x] st h = fk_ev d qX12_isGlad 13 [a0, a1, .int x] (.int x :: st) h) ∧
  (∀ (d : Nat) (L st : List Value) (N : Nat) (y : Nat → Nat → Int32) (l : Nat → Nat → Int64) (i : Nat), i < 32 → fk_ev d qX12_isGlad 13 L (.int (nI i) :: .ref 250 :: st) (fk_E N y l) = fk_ev d qX12_isGlad 14 L (.int (y 250 i) :: st) (fk_E N y l)) ∧
  (∀ (d : Nat) (a1 a2 : Value) (x : Nat) (st : List Value) (h : fk_H), fk_ev d qX12_isGlad 14 [.ref x, a1, a2] st h = fk_ev d qX12_isGlad 15 [.ref x, a1, a2] (.ref x :: st) h) ∧
  (∀ (d : Nat) (L st : List Value) (N : Nat) (y : Nat → Nat → Int32) (l : Nat → Nat → Int64), fk_ev d qX12_isGlad 15 L (.ref 246 :: st) (fk_E N y l) = fk_ev d qX12_isGlad 18 L (.ref 247 :: st) (fk_E N y l)) ∧
  (∀ (d : Nat) (L st : List Value) (h : fk_H), fk_ev d qX12_isGlad 18 L st h = fk_ev d qX12_isGlad 21 L (.int (nI 320) :: st) h) ∧
  (∀ (d : Nat) (a0 a2 : Value) (x : Int32) (st : List Value) (h : fk_H), fk_ev d qX12_isGlad 21 [a0, .int x, a2] st h = fk_ev d qX12_isGlad 22 [a0, .int x, a2] (.int x :: st) h) ∧
  (∀ (d : Nat) (L : List Value) (x y : Int32) (st : List Value) (h : fk_H), fk_ev d qX12_isGlad 22 L (.int y :: .int x :: st) h = fk_ev d qX12_isGlad 23 L (.int (x + y) :: st) h) ∧
  (∀ (d : Nat) (L st : List Value) (N : Nat) (y : Nat → Nat → Int32) (l : Nat → Nat → Int64) (i : Nat), i < 3912 → fk_ev d qX12_isGlad 23 L (.int (nI i) :: .ref 247 :: st) (fk_E N y l) = fk_ev d qX12_isGlad 24 L (.int (y 247 i) :: st) (fk_E N y l)) ∧
  (∀ (d : Nat) (L : List Value) (x y : Int32) (st : List Value) (h : fk_H), fk_ev d qX12_isGlad 24 L (.int y :: .int x :: st) h = if ¬ x = y then fk_ev d qX12_isGlad 40 L st h else fk_ev d qX12_isGlad 27 L st h) ∧
  (∀ (d : Nat) (a1 a2 : Value) (x : Nat) (st : List Value) (h : fk_H), fk_ev d qX12_isGlad 27 [.ref x, a1, a2] st h = fk_ev d qX12_isGlad 28 [.ref x, a1, a2] (.ref x :: st) h) ∧
  (∀ (d : Nat) (a0 a2 : Value) (x : Int32) (st : List Value) (h : fk_H), fk_ev d qX12_isGlad 28 [a0, .int x, a2] st h = fk_ev d qX12_isGlad 29 [a0, .int x, a2] (.int x :: st) h) ∧
  (∀ (d : Nat) (a0 a1 : Value) (x : Int32) (st : List Value) (h : fk_H), fk_ev d qX12_isGlad 29 [a0, a1, .int x] st h = fk_ev d qX12_isGlad 30 [a0, a1, .int x] (.int x :: st) h) ∧
  (∀ (d : Nat) (L : List Value) (x0 : Int32) (x1 : Int32)  (N : Nat) (y : Nat → Nat → Int32) (l : Nat → Nat → Int64), fk_ev (d + 1) qX12_isGlad 30 L (.int x1 :: .int x0 :: .ref 246 :: []) (fk_E N y l) = (fk_ev d qX12_gladlyFor 0 [.ref 246, .int x0, .int x1] [] (fk_E N y l)).bind fun o => fk_ev (d + 1) qX12_isGlad 33 L (o.1.toList ++ []) o.2) ∧
  (∀ (d : Nat) (L : List Value) (x : Int32) (st : List Value) (h : fk_H), fk_ev d qX12_isGlad 33 L (.int x :: st) h = if x ≤ nI 0 then fk_ev d qX12_isGlad 40 L st h else fk_ev d qX12_isGlad 36 L st h) ∧
  (∀ (d : Nat) (L st : List Value) (h : fk_H), fk_ev d qX12_isGlad 36 L st h = fk_ev d qX12_isGlad 37 L (.int (nI 1) :: st) h) ∧
  (∀ (d : Nat) (L st : List Value) (h : fk_H), fk_ev d qX12_isGlad 37 L st h = fk_ev d qX12_isGlad 41 L st h) ∧
  (∀ (d : Nat) (L st : List Value) (h : fk_H), fk_ev d qX12_isGlad 40 L st h = fk_ev d qX12_isGlad 41 L (.int (nI 0) :: st) h) ∧
  (∀ (d : Nat) (L : List Value) (h : fk_H), fk_ev d qX12_isGlad 41 L [.int (nI 0)] h = some (some (.int (nI 0)), h)) ∧
  (∀ (d : Nat) (L : List Value) (h : fk_H), fk_ev d qX12_isGlad 41 L [.int (nI 1)] h = some (some (.int (nI 1)), h)) ∧
  (∀ (d : Nat) (L : List Value) (p : Prop) [Decidable p] (h : fk_H), fk_ev d qX12_isGlad 41 L [.int (fk_b p)] h = some (some (.int (fk_b p)), h)) ∧
  (∀ (d : Nat) (L : List Value) (x : Int32) (h : fk_H), (x = nI 0 ∨ x = nI 1) → fk_ev d qX12_isGlad 41 L [.int x] h = some (some (.int x), h)) := ⟨fun d a1 a2 x st h => fk_w_aloadn 0 [.ref x, a1, a2] dX12_isGlad_0 rfl,
  fun d a0 a1 x st h => fk_w_iloadn 2 [a0, a1, .int x] dX12_isGlad_1 rfl,
  fun d L x0 N y l  => fk_g_call [.int x0] [] rfl lm_12_289 dX12_isGlad_2 rfl ⟨rfl, by decide⟩ (by simp) fk_at_246,
  fun d L x st h => fk_r_if_eq dX12_isGlad_5 (by decide),
  fun d a1 a2 x st h => fk_w_aloadn 0 [.ref x, a1, a2] dX12_isGlad_8 rfl,
  fun d L st N y l => fk_g_getC rfl lf_12_19 (by decide) rfl dX12_isGlad_9 fk_at_246,
  fun d a0 a1 x st h => fk_w_iloadn 2 [a0, a1, .int x] dX12_isGlad_12 rfl,
  fun d L st N y l i hi => fk_g_iald fk_at_250 fk_ln_250 (by decide) dX12_isGlad_13 hi,
  fun d a1 a2 x st h => fk_w_aloadn 0 [.ref x, a1, a2] dX12_isGlad_14 rfl,
  fun d L st N y l => fk_g_getC rfl lf_12_7 (by decide) rfl dX12_isGlad_15 fk_at_246,
  fun d L st h => fk_w_sipush dX12_isGlad_18 (by decide),
  fun d a0 a2 x st h => fk_w_iloadn 1 [a0, .int x, a2] dX12_isGlad_21 rfl,
  fun d L x y st h => fk_r_iadd dX12_isGlad_22,
  fun d L st N y l i hi => fk_g_iald fk_at_247 fk_ln_247 (by decide) dX12_isGlad_23 hi,
  fun d L x y st h => fk_r_icmp_ne dX12_isGlad_24 (by decide),
  fun d a1 a2 x st h => fk_w_aloadn 0 [.ref x, a1, a2] dX12_isGlad_27 rfl,
  fun d a0 a2 x st h => fk_w_iloadn 1 [a0, .int x, a2] dX12_isGlad_28 rfl,
  fun d a0 a1 x st h => fk_w_iloadn 2 [a0, a1, .int x] dX12_isGlad_29 rfl,
  fun d L x0 x1 N y l  => fk_g_call [.int x0, .int x1] [] rfl lm_12_292 dX12_isGlad_30 rfl ⟨rfl, by decide⟩ (by simp) fk_at_246,
  fun d L x st h => fk_r_if_le dX12_isGlad_33 (by decide),
  fun d L st h => fk_w_iconst dX12_isGlad_36 (by decide),
  fun d L st h => fk_r_goto dX12_isGlad_37 (by decide),
  fun d L st h => fk_w_iconst dX12_isGlad_40 (by decide),
  fun d L h => fk_r_ret dX12_isGlad_41 (Or.inr (Or.inl ⟨rfl, by decide⟩)),
  fun d L h => fk_r_ret dX12_isGlad_41 (Or.inr (Or.inl ⟨rfl, by decide⟩)),
  fun d L p _ h => fk_r_ret dX12_isGlad_41 (Or.inr (Or.inl ⟨rfl, fk_b_01⟩)),
  fun d L x h hx => fk_r_ret dX12_isGlad_41 (Or.inr (Or.inl ⟨rfl, hx⟩))⟩
theorem dX12_rests_0 : decode cX12_rests 0 = .ok (.iconst 0, 1) := by decide +kernel
theorem dX12_rests_1 : decode cX12_rests 1 = .ok (.istore 5, 2) := by decide +kernel
theorem dX12_rests_3 : decode cX12_rests 3 = .ok (.iload 5, 2) := by decide +kernel
theorem dX12_rests_5 : decode cX12_rests 5 = .ok (.bipush 32, 2) := by decide +kernel
theorem dX12_rests_7 : decode cX12_rests 7 = .ok (.if_icmp .ge 72, 3) := by decide +kernel
theorem dX12_rests_10 : decode cX12_rests 10 = .ok (.aload_n 0, 1) := by decide +kernel
theorem dX12_rests_11 : decode cX12_rests 11 = .ok (.iload_n 1, 1) := by decide +kernel
theorem dX12_rests_12 : decode cX12_rests 12 = .ok (.iload 5, 2) := by decide +kernel
theorem dX12_rests_14 : decode cX12_rests 14 = .ok (.invokevirtual 381, 3) := by decide +kernel
theorem dX12_rests_17 : decode cX12_rests 17 = .ok (.ifCond .eq 25, 3) := by decide +kernel
theorem dX12_rests_20 : decode cX12_rests 20 = .ok (.aload_n 0, 1) := by decide +kernel
theorem dX12_rests_21 : decode cX12_rests 21 = .ok (.iload_n 1, 1) := by decide +kernel
theorem dX12_rests_22 : decode cX12_rests 22 = .ok (.iload 5, 2) := by decide +kernel
theorem dX12_rests_24 : decode cX12_rests 24 = .ok (.iload 4, 2) := by decide +kernel
theorem dX12_rests_26 : decode cX12_rests 26 = .ok (.invokevirtual 384, 3) := by decide +kernel
theorem dX12_rests_29 : decode cX12_rests 29 = .ok (.aload_n 0, 1) := by decide +kernel
theorem dX12_rests_30 : decode cX12_rests 30 = .ok (.iload_n 1, 1) := by decide +kernel
theorem dX12_rests_31 : decode cX12_rests 31 = .ok (.iload_n 3, 1) := by decide +kernel
theorem dX12_rests_32 : decode cX12_rests 32 = .ok (.iload 4, 2) := by decide +kernel
theorem dX12_rests_34 : decode cX12_rests 34 = .ok (.invokevirtual 384, 3) := by decide +kernel
theorem dX12_rests_37 : decode cX12_rests 37 = .ok (.if_icmp .le 5, 3) := by decide +kernel
theorem dX12_rests_40 : decode cX12_rests 40 = .ok (.iconst 0, 1) := by decide +kernel
theorem dX12_rests_41 : decode cX12_rests 41 = .ok (.ireturn, 1) := by decide +kernel
theorem dX12_rests_42 : decode cX12_rests 42 = .ok (.aload_n 0, 1) := by decide +kernel
theorem dX12_rests_43 : decode cX12_rests 43 = .ok (.iload_n 2, 1) := by decide +kernel
theorem dX12_rests_44 : decode cX12_rests 44 = .ok (.iload 5, 2) := by decide +kernel
theorem dX12_rests_46 : decode cX12_rests 46 = .ok (.invokevirtual 381, 3) := by decide +kernel
theorem dX12_rests_49 : decode cX12_rests 49 = .ok (.ifCond .eq 24, 3) := by decide +kernel
theorem dX12_rests_52 : decode cX12_rests 52 = .ok (.aload_n 0, 1) := by decide +kernel
theorem dX12_rests_53 : decode cX12_rests 53 = .ok (.iload_n 2, 1) := by decide +kernel
theorem dX12_rests_54 : decode cX12_rests 54 = .ok (.iload 5, 2) := by decide +kernel
theorem dX12_rests_56 : decode cX12_rests 56 = .ok (.iload_n 3, 1) := by decide +kernel
theorem dX12_rests_57 : decode cX12_rests 57 = .ok (.invokevirtual 384, 3) := by decide +kernel
theorem dX12_rests_60 : decode cX12_rests 60 = .ok (.aload_n 0, 1) := by decide +kernel
theorem dX12_rests_61 : decode cX12_rests 61 = .ok (.iload_n 2, 1) := by decide +kernel
theorem dX12_rests_62 : decode cX12_rests 62 = .ok (.iload 4, 2) := by decide +kernel
theorem dX12_rests_64 : decode cX12_rests 64 = .ok (.iload_n 3, 1) := by decide +kernel
theorem dX12_rests_65 : decode cX12_rests 65 = .ok (.invokevirtual 384, 3) := by decide +kernel
theorem dX12_rests_68 : decode cX12_rests 68 = .ok (.if_icmp .le 5, 3) := by decide +kernel
theorem dX12_rests_71 : decode cX12_rests 71 = .ok (.iconst 0, 1) := by decide +kernel
theorem dX12_rests_72 : decode cX12_rests 72 = .ok (.ireturn, 1) := by decide +kernel
theorem dX12_rests_73 : decode cX12_rests 73 = .ok (.iinc 5 1, 3) := by decide +kernel
theorem dX12_rests_76 : decode cX12_rests 76 = .ok (.goto (-73), 3) := by decide +kernel
theorem dX12_rests_79 : decode cX12_rests 79 = .ok (.iconst 1, 1) := by decide +kernel
theorem dX12_rests_80 : decode cX12_rests 80 = .ok (.ireturn, 1) := by decide +kernel
theorem rX12_rests : (∀ (d : Nat) (L st : List Value) (h : fk_H), fk_ev d qX12_rests 0 L st h = fk_ev d qX12_rests 1 L (.int (nI 0) :: st) h) ∧
  (∀ (d : Nat) (a0 a1 a2 a3 a4 a5 : Value) (x : Int32) (st : List Value) (h : fk_H), fk_ev d qX12_rests 1 [a0, a1, a2, a3, a4, a5] (.int x :: st) h = fk_ev d qX12_rests 3 [a0, a1, a2, a3, a4, .int x] st h) ∧
  (∀ (d : Nat) (L st : List Value) (h : fk_H), fk_ev d qX12_rests 5 L st h = fk_ev d qX12_rests 7 L (.int (nI 32) :: st) h) ∧
  (∀ (d : Nat) (L : List Value) (x y : Int32) (st : List Value) (h : fk_H), fk_ev d qX12_rests 7 L (.int y :: .int x :: st) h = if y ≤ x then fk_ev d qX12_rests 79 L st h else fk_ev d qX12_rests 10 L st h) ∧
  (∀ (d : Nat) (a1 a2 a3 a4 a5 : Value) (x : Nat) (st : List Value) (h : fk_H), fk_ev d qX12_rests 10 [.ref x, a1, a2, a3, a4, a5] st h = fk_ev d qX12_rests 11 [.ref x, a1, a2, a3, a4, a5] (.ref x :: st) h) ∧
  (∀ (d : Nat) (a0 a2 a3 a4 a5 : Value) (x : Int32) (st : List Value) (h : fk_H), fk_ev d qX12_rests 11 [a0, .int x, a2, a3, a4, a5] st h = fk_ev d qX12_rests 12 [a0, .int x, a2, a3, a4, a5] (.int x :: st) h) ∧
  (∀ (d : Nat) (a0 a1 a2 a3 a4 : Value) (x : Int32) (st : List Value) (h : fk_H), fk_ev d qX12_rests 12 [a0, a1, a2, a3, a4, .int x] st h = fk_ev d qX12_rests 14 [a0, a1, a2, a3, a4, .int x] (.int x :: st) h) ∧
  (∀ (d : Nat) (L : List Value) (x0 : Int32) (x1 : Int32)  (N : Nat) (y : Nat → Nat → Int32) (l : Nat → Nat → Int64), fk_ev (d + 1) qX12_rests 14 L (.int x1 :: .int x0 :: .ref 246 :: []) (fk_E N y l) = (fk_ev d qX12_isGlad 0 [.ref 246, .int x0, .int x1] [] (fk_E N y l)).bind fun o => fk_ev (d + 1) qX12_rests 17 L (o.1.toList ++ []) o.2) ∧
  (∀ (d : Nat) (L : List Value) (x : Int32) (st : List Value) (h : fk_H), fk_ev d qX12_rests 17 L (.int x :: st) h = if x = nI 0 then fk_ev d qX12_rests 42 L st h else fk_ev d qX12_rests 20 L st h) ∧
  (∀ (d : Nat) (a1 a2 a3 a4 a5 : Value) (x : Nat) (st : List Value) (h : fk_H), fk_ev d qX12_rests 20 [.ref x, a1, a2, a3, a4, a5] st h = fk_ev d qX12_rests 21 [.ref x, a1, a2, a3, a4, a5] (.ref x :: st) h) ∧
  (∀ (d : Nat) (a0 a2 a3 a4 a5 : Value) (x : Int32) (st : List Value) (h : fk_H), fk_ev d qX12_rests 21 [a0, .int x, a2, a3, a4, a5] st h = fk_ev d qX12_rests 22 [a0, .int x, a2, a3, a4, a5] (.int x :: st) h) ∧
  (∀ (d : Nat) (a0 a1 a2 a3 a4 : Value) (x : Int32) (st : List Value) (h : fk_H), fk_ev d qX12_rests 22 [a0, a1, a2, a3, a4, .int x] st h = fk_ev d qX12_rests 24 [a0, a1, a2, a3, a4, .int x] (.int x :: st) h) ∧
  (∀ (d : Nat) (a0 a1 a2 a3 a5 : Value) (x : Int32) (st : List Value) (h : fk_H), fk_ev d qX12_rests 24 [a0, a1, a2, a3, .int x, a5] st h = fk_ev d qX12_rests 26 [a0, a1, a2, a3, .int x, a5] (.int x :: st) h) ∧
  (∀ (d : Nat) (L : List Value) (x0 : Int32) (x1 : Int32) (x2 : Int32)  (N : Nat) (y : Nat → Nat → Int32) (l : Nat → Nat → Int64), fk_ev (d + 1) qX12_rests 26 L (.int x2 :: .int x1 :: .int x0 :: .ref 246 :: []) (fk_E N y l) = (fk_ev d qX12_gainOf 0 [.ref 246, .int x0, .int x1, .int x2, .null] [] (fk_E N y l)).bind fun o => fk_ev (d + 1) qX12_rests 29 L (o.1.toList ++ []) o.2) ∧
  (∀ (d : Nat) (a1 a2 a3 a4 a5 : Value) (x : Nat) (st : List Value) (h : fk_H), fk_ev d qX12_rests 29 [.ref x, a1, a2, a3, a4, a5] st h = fk_ev d qX12_rests 30 [.ref x, a1, a2, a3, a4, a5] (.ref x :: st) h) ∧
  (∀ (d : Nat) (a0 a2 a3 a4 a5 : Value) (x : Int32) (st : List Value) (h : fk_H), fk_ev d qX12_rests 30 [a0, .int x, a2, a3, a4, a5] st h = fk_ev d qX12_rests 31 [a0, .int x, a2, a3, a4, a5] (.int x :: st) h) ∧
  (∀ (d : Nat) (a0 a1 a2 a4 a5 : Value) (x : Int32) (st : List Value) (h : fk_H), fk_ev d qX12_rests 31 [a0, a1, a2, .int x, a4, a5] st h = fk_ev d qX12_rests 32 [a0, a1, a2, .int x, a4, a5] (.int x :: st) h) ∧
  (∀ (d : Nat) (a0 a1 a2 a3 a5 : Value) (x : Int32) (st : List Value) (h : fk_H), fk_ev d qX12_rests 32 [a0, a1, a2, a3, .int x, a5] st h = fk_ev d qX12_rests 34 [a0, a1, a2, a3, .int x, a5] (.int x :: st) h) ∧
  (∀ (d : Nat) (L : List Value) (x0 : Int32) (x1 : Int32) (x2 : Int32) (w0 : Value) (N : Nat) (y : Nat → Nat → Int32) (l : Nat → Nat → Int64), fk_ev (d + 1) qX12_rests 34 L (.int x2 :: .int x1 :: .int x0 :: .ref 246 :: [w0]) (fk_E N y l) = (fk_ev d qX12_gainOf 0 [.ref 246, .int x0, .int x1, .int x2, .null] [] (fk_E N y l)).bind fun o => fk_ev (d + 1) qX12_rests 37 L (o.1.toList ++ [w0]) o.2) ∧
  (∀ (d : Nat) (L : List Value) (x y : Int32) (st : List Value) (h : fk_H), fk_ev d qX12_rests 37 L (.int y :: .int x :: st) h = if x ≤ y then fk_ev d qX12_rests 42 L st h else fk_ev d qX12_rests 40 L st h) ∧
  (∀ (d : Nat) (L st : List Value) (h : fk_H), fk_ev d qX12_rests 40 L st h = fk_ev d qX12_rests 41 L (.int (nI 0) :: st) h) ∧
  (∀ (d : Nat) (L : List Value) (h : fk_H), fk_ev d qX12_rests 41 L [.int (nI 0)] h = some (some (.int (nI 0)), h)) ∧
  (∀ (d : Nat) (L : List Value) (h : fk_H), fk_ev d qX12_rests 41 L [.int (nI 1)] h = some (some (.int (nI 1)), h)) ∧
  (∀ (d : Nat) (L : List Value) (p : Prop) [Decidable p] (h : fk_H), fk_ev d qX12_rests 41 L [.int (fk_b p)] h = some (some (.int (fk_b p)), h)) ∧
  (∀ (d : Nat) (L : List Value) (x : Int32) (h : fk_H), (x = nI 0 ∨ x = nI 1) → fk_ev d qX12_rests 41 L [.int x] h = some (some (.int x), h)) ∧
  (∀ (d : Nat) (a1 a2 a3 a4 a5 : Value) (x : Nat) (st : List Value) (h : fk_H), fk_ev d qX12_rests 42 [.ref x, a1, a2, a3, a4, a5] st h = fk_ev d qX12_rests 43 [.ref x, a1, a2, a3, a4, a5] (.ref x :: st) h) ∧
  (∀ (d : Nat) (a0 a1 a3 a4 a5 : Value) (x : Int32) (st : List Value) (h : fk_H), fk_ev d qX12_rests 43 [a0, a1, .int x, a3, a4, a5] st h = fk_ev d qX12_rests 44 [a0, a1, .int x, a3, a4, a5] (.int x :: st) h) ∧
  (∀ (d : Nat) (a0 a1 a2 a3 a4 : Value) (x : Int32) (st : List Value) (h : fk_H), fk_ev d qX12_rests 44 [a0, a1, a2, a3, a4, .int x] st h = fk_ev d qX12_rests 46 [a0, a1, a2, a3, a4, .int x] (.int x :: st) h) ∧
  (∀ (d : Nat) (L : List Value) (x0 : Int32) (x1 : Int32)  (N : Nat) (y : Nat → Nat → Int32) (l : Nat → Nat → Int64), fk_ev (d + 1) qX12_rests 46 L (.int x1 :: .int x0 :: .ref 246 :: []) (fk_E N y l) = (fk_ev d qX12_isGlad 0 [.ref 246, .int x0, .int x1] [] (fk_E N y l)).bind fun o => fk_ev (d + 1) qX12_rests 49 L (o.1.toList ++ []) o.2) ∧
  (∀ (d : Nat) (L : List Value) (x : Int32) (st : List Value) (h : fk_H), fk_ev d qX12_rests 49 L (.int x :: st) h = if x = nI 0 then fk_ev d qX12_rests 73 L st h else fk_ev d qX12_rests 52 L st h) ∧
  (∀ (d : Nat) (a1 a2 a3 a4 a5 : Value) (x : Nat) (st : List Value) (h : fk_H), fk_ev d qX12_rests 52 [.ref x, a1, a2, a3, a4, a5] st h = fk_ev d qX12_rests 53 [.ref x, a1, a2, a3, a4, a5] (.ref x :: st) h) ∧
  (∀ (d : Nat) (a0 a1 a3 a4 a5 : Value) (x : Int32) (st : List Value) (h : fk_H), fk_ev d qX12_rests 53 [a0, a1, .int x, a3, a4, a5] st h = fk_ev d qX12_rests 54 [a0, a1, .int x, a3, a4, a5] (.int x :: st) h) ∧
  (∀ (d : Nat) (a0 a1 a2 a3 a4 : Value) (x : Int32) (st : List Value) (h : fk_H), fk_ev d qX12_rests 54 [a0, a1, a2, a3, a4, .int x] st h = fk_ev d qX12_rests 56 [a0, a1, a2, a3, a4, .int x] (.int x :: st) h) ∧
  (∀ (d : Nat) (a0 a1 a2 a4 a5 : Value) (x : Int32) (st : List Value) (h : fk_H), fk_ev d qX12_rests 56 [a0, a1, a2, .int x, a4, a5] st h = fk_ev d qX12_rests 57 [a0, a1, a2, .int x, a4, a5] (.int x :: st) h) ∧
  (∀ (d : Nat) (L : List Value) (x0 : Int32) (x1 : Int32) (x2 : Int32)  (N : Nat) (y : Nat → Nat → Int32) (l : Nat → Nat → Int64), fk_ev (d + 1) qX12_rests 57 L (.int x2 :: .int x1 :: .int x0 :: .ref 246 :: []) (fk_E N y l) = (fk_ev d qX12_gainOf 0 [.ref 246, .int x0, .int x1, .int x2, .null] [] (fk_E N y l)).bind fun o => fk_ev (d + 1) qX12_rests 60 L (o.1.toList ++ []) o.2) ∧
  (∀ (d : Nat) (a1 a2 a3 a4 a5 : Value) (x : Nat) (st : List Value) (h : fk_H), fk_ev d qX12_rests 60 [.ref x, a1, a2, a3, a4, a5] st h = fk_ev d qX12_rests 61 [.ref x, a1, a2, a3, a4, a5] (.ref x :: st) h) ∧
  (∀ (d : Nat) (a0 a1 a3 a4 a5 : Value) (x : Int32) (st : List Value) (h : fk_H), fk_ev d qX12_rests 61 [a0, a1, .int x, a3, a4, a5] st h = fk_ev d qX12_rests 62 [a0, a1, .int x, a3, a4, a5] (.int x :: st) h) ∧
  (∀ (d : Nat) (a0 a1 a2 a3 a5 : Value) (x : Int32) (st : List Value) (h : fk_H), fk_ev d qX12_rests 62 [a0, a1, a2, a3, .int x, a5] st h = fk_ev d qX12_rests 64 [a0, a1, a2, a3, .int x, a5] (.int x :: st) h) ∧
  (∀ (d : Nat) (a0 a1 a2 a4 a5 : Value) (x : Int32) (st : List Value) (h : fk_H), fk_ev d qX12_rests 64 [a0, a1, a2, .int x, a4, a5] st h = fk_ev d qX12_rests 65 [a0, a1, a2, .int x, a4, a5] (.int x :: st) h) ∧
  (∀ (d : Nat) (L : List Value) (x0 : Int32) (x1 : Int32) (x2 : Int32) (w0 : Value) (N : Nat) (y : Nat → Nat → Int32) (l : Nat → Nat → Int64), fk_ev (d + 1) qX12_rests 65 L (.int x2 :: .int x1 :: .int x0 :: .ref 246 :: [w0]) (fk_E N y l) = (fk_ev d qX12_gainOf 0 [.ref 246, .int x0, .int x1, .int x2, .null] [] (fk_E N y l)).bind fun o => fk_ev (d + 1) qX12_rests 68 L (o.1.toList ++ [w0]) o.2) ∧
  (∀ (d : Nat) (L : List Value) (x y : Int32) (st : List Value) (h : fk_H), fk_ev d qX12_rests 68 L (.int y :: .int x :: st) h = if x ≤ y then fk_ev d qX12_rests 73 L st h else fk_ev d qX12_rests 71 L st h) ∧
  (∀ (d : Nat) (L st : List Value) (h : fk_H), fk_ev d qX12_rests 71 L st h = fk_ev d qX12_rests 72 L (.int (nI 0) :: st) h) ∧
  (∀ (d : Nat) (L : List Value) (h : fk_H), fk_ev d qX12_rests 72 L [.int (nI 0)] h = some (some (.int (nI 0)), h)) ∧
  (∀ (d : Nat) (L : List Value) (h : fk_H), fk_ev d qX12_rests 72 L [.int (nI 1)] h = some (some (.int (nI 1)), h)) ∧
  (∀ (d : Nat) (L : List Value) (p : Prop) [Decidable p] (h : fk_H), fk_ev d qX12_rests 72 L [.int (fk_b p)] h = some (some (.int (fk_b p)), h)) ∧
  (∀ (d : Nat) (L : List Value) (x : Int32) (h : fk_H), (x = nI 0 ∨ x = nI 1) → fk_ev d qX12_rests 72 L [.int x] h = some (some (.int x), h)) ∧
  (∀ (d : Nat) (a0 a1 a2 a3 a4 : Value) (x : Int32) (st : List Value) (h : fk_H), fk_ev d qX12_rests 73 [a0, a1, a2, a3, a4, .int x] st h = fk_ev d qX12_rests 76 [a0, a1, a2, a3, a4, .int (x + nI 1)] st h) ∧
  (∀ (d : Nat) (L st : List Value) (h : fk_H), fk_ev d qX12_rests 76 L st h = fk_ev d qX12_rests 3 L st h) ∧
  (∀ (d : Nat) (L st : List Value) (h : fk_H), fk_ev d qX12_rests 79 L st h = fk_ev d qX12_rests 80 L (.int (nI 1) :: st) h) ∧
  (∀ (d : Nat) (L : List Value) (h : fk_H), fk_ev d qX12_rests 80 L [.int (nI 0)] h = some (some (.int (nI 0)), h)) ∧
  (∀ (d : Nat) (L : List Value) (h : fk_H), fk_ev d qX12_rests 80 L [.int (nI 1)] h = some (some (.int (nI 1)), h)) ∧
  (∀ (d : Nat) (L : List Value) (p : Prop) [Decidable p] (h : fk_H), fk_ev d qX12_rests 80 L [.int (fk_b p)] h = some (some (.int (fk_b p)), h)) ∧
  (∀ (d : Nat) (L : List Value) (x : Int32) (h : fk_H), (x = nI 0 ∨ x = nI 1) → fk_ev d qX12_rests 80 L [.int x] h = some (some (.int x), h)) := ⟨fun d L st h => fk_w_iconst dX12_rests_0 (by decide),
  fun d a0 a1 a2 a3 a4 a5 x st h => fk_w_istore 5 6 [] [a0, a1, a2, a3, a4, a5] [a0, a1, a2, a3, a4, .int x] dX12_rests_1 rfl rfl (by decide) rfl,
  fun d L st h => fk_w_bipush dX12_rests_5 (by decide),
  fun d L x y st h => fk_r_icmp_ge dX12_rests_7 (by decide),
  fun d a1 a2 a3 a4 a5 x st h => fk_w_aloadn 0 [.ref x, a1, a2, a3, a4, a5] dX12_rests_10 rfl,
  fun d a0 a2 a3 a4 a5 x st h => fk_w_iloadn 1 [a0, .int x, a2, a3, a4, a5] dX12_rests_11 rfl,
  fun d a0 a1 a2 a3 a4 x st h => fk_w_iload 5 [a0, a1, a2, a3, a4, .int x] dX12_rests_12 rfl,
  fun d L x0 x1 N y l  => fk_g_call [.int x0, .int x1] [] rfl lm_12_381 dX12_rests_14 rfl ⟨rfl, by decide⟩ (by simp) fk_at_246,
  fun d L x st h => fk_r_if_eq dX12_rests_17 (by decide),
  fun d a1 a2 a3 a4 a5 x st h => fk_w_aloadn 0 [.ref x, a1, a2, a3, a4, a5] dX12_rests_20 rfl,
  fun d a0 a2 a3 a4 a5 x st h => fk_w_iloadn 1 [a0, .int x, a2, a3, a4, a5] dX12_rests_21 rfl,
  fun d a0 a1 a2 a3 a4 x st h => fk_w_iload 5 [a0, a1, a2, a3, a4, .int x] dX12_rests_22 rfl,
  fun d a0 a1 a2 a3 a5 x st h => fk_w_iload 4 [a0, a1, a2, a3, .int x, a5] dX12_rests_24 rfl,
  fun d L x0 x1 x2 N y l  => fk_g_call [.int x0, .int x1, .int x2] [] rfl lm_12_384 dX12_rests_26 rfl ⟨rfl, by decide⟩ (by simp) fk_at_246,
  fun d a1 a2 a3 a4 a5 x st h => fk_w_aloadn 0 [.ref x, a1, a2, a3, a4, a5] dX12_rests_29 rfl,
  fun d a0 a2 a3 a4 a5 x st h => fk_w_iloadn 1 [a0, .int x, a2, a3, a4, a5] dX12_rests_30 rfl,
  fun d a0 a1 a2 a4 a5 x st h => fk_w_iloadn 3 [a0, a1, a2, .int x, a4, a5] dX12_rests_31 rfl,
  fun d a0 a1 a2 a3 a5 x st h => fk_w_iload 4 [a0, a1, a2, a3, .int x, a5] dX12_rests_32 rfl,
  fun d L x0 x1 x2 w0 N y l  => fk_g_call [.int x0, .int x1, .int x2] [w0] rfl lm_12_384 dX12_rests_34 rfl ⟨rfl, by decide⟩ (by simp) fk_at_246,
  fun d L x y st h => fk_r_icmp_le dX12_rests_37 (by decide),
  fun d L st h => fk_w_iconst dX12_rests_40 (by decide),
  fun d L h => fk_r_ret dX12_rests_41 (Or.inr (Or.inl ⟨rfl, by decide⟩)),
  fun d L h => fk_r_ret dX12_rests_41 (Or.inr (Or.inl ⟨rfl, by decide⟩)),
  fun d L p _ h => fk_r_ret dX12_rests_41 (Or.inr (Or.inl ⟨rfl, fk_b_01⟩)),
  fun d L x h hx => fk_r_ret dX12_rests_41 (Or.inr (Or.inl ⟨rfl, hx⟩)),
  fun d a1 a2 a3 a4 a5 x st h => fk_w_aloadn 0 [.ref x, a1, a2, a3, a4, a5] dX12_rests_42 rfl,
  fun d a0 a1 a3 a4 a5 x st h => fk_w_iloadn 2 [a0, a1, .int x, a3, a4, a5] dX12_rests_43 rfl,
  fun d a0 a1 a2 a3 a4 x st h => fk_w_iload 5 [a0, a1, a2, a3, a4, .int x] dX12_rests_44 rfl,
  fun d L x0 x1 N y l  => fk_g_call [.int x0, .int x1] [] rfl lm_12_381 dX12_rests_46 rfl ⟨rfl, by decide⟩ (by simp) fk_at_246,
  fun d L x st h => fk_r_if_eq dX12_rests_49 (by decide),
  fun d a1 a2 a3 a4 a5 x st h => fk_w_aloadn 0 [.ref x, a1, a2, a3, a4, a5] dX12_rests_52 rfl,
  fun d a0 a1 a3 a4 a5 x st h => fk_w_iloadn 2 [a0, a1, .int x, a3, a4, a5] dX12_rests_53 rfl,
  fun d a0 a1 a2 a3 a4 x st h => fk_w_iload 5 [a0, a1, a2, a3, a4, .int x] dX12_rests_54 rfl,
  fun d a0 a1 a2 a4 a5 x st h => fk_w_iloadn 3 [a0, a1, a2, .int x, a4, a5] dX12_rests_56 rfl,
  fun d L x0 x1 x2 N y l  => fk_g_call [.int x0, .int x1, .int x2] [] rfl lm_12_384 dX12_rests_57 rfl ⟨rfl, by decide⟩ (by simp) fk_at_246,
  fun d a1 a2 a3 a4 a5 x st h => fk_w_aloadn 0 [.ref x, a1, a2, a3, a4, a5] dX12_rests_60 rfl,
  fun d a0 a1 a3 a4 a5 x st h => fk_w_iloadn 2 [a0, a1, .int x, a3, a4, a5] dX12_rests_61 rfl,
  fun d a0 a1 a2 a3 a5 x st h => fk_w_iload 4 [a0, a1, a2, a3, .int x, a5] dX12_rests_62 rfl,
  fun d a0 a1 a2 a4 a5 x st h => fk_w_iloadn 3 [a0, a1, a2, .int x, a4, a5] dX12_rests_64 rfl,
  fun d L x0 x1 x2 w0 N y l  => fk_g_call [.int x0, .int x1, .int x2] [w0] rfl lm_12_384 dX12_rests_65 rfl ⟨rfl, by decide⟩ (by simp) fk_at_246,
  fun d L x y st h => fk_r_icmp_le dX12_rests_68 (by decide),
  fun d L st h => fk_w_iconst dX12_rests_71 (by decide),
  fun d L h => fk_r_ret dX12_rests_72 (Or.inr (Or.inl ⟨rfl, by decide⟩)),
  fun d L h => fk_r_ret dX12_rests_72 (Or.inr (Or.inl ⟨rfl, by decide⟩)),
  fun d L p _ h => fk_r_ret dX12_rests_72 (Or.inr (Or.inl ⟨rfl, fk_b_01⟩)),
  fun d L x h hx => fk_r_ret dX12_rests_72 (Or.inr (Or.inl ⟨rfl, hx⟩)),
  fun d a0 a1 a2 a3 a4 x st h => fk_w_iinc 5 6 (1) [] [a0, a1, a2, a3, a4, .int x] [a0, a1, a2, a3, a4, .int (x + nI 1)] dX12_rests_73 rfl rfl rfl (by decide) rfl,
  fun d L st h => fk_r_goto dX12_rests_76 (by decide),
  fun d L st h => fk_w_iconst dX12_rests_79 (by decide),
  fun d L h => fk_r_ret dX12_rests_80 (Or.inr (Or.inl ⟨rfl, by decide⟩)),
  fun d L h => fk_r_ret dX12_rests_80 (Or.inr (Or.inl ⟨rfl, by decide⟩)),
  fun d L p _ h => fk_r_ret dX12_rests_80 (Or.inr (Or.inl ⟨rfl, fk_b_01⟩)),
  fun d L x h hx => fk_r_ret dX12_rests_80 (Or.inr (Or.inl ⟨rfl, hx⟩))⟩
theorem hX12_rests_3 : ∀ (d : Nat) (a0 a1 a2 a3 a4 : Value) (x : Int32) (st : List Value) (h : fk_H), fk_ev d qX12_rests 3 [a0, a1, a2, a3, a4, .int x] st h = fk_ev d qX12_rests 5 [a0, a1, a2, a3, a4, .int x] (.int x :: st) h := fun d a0 a1 a2 a3 a4 x st h => fk_w_iload 5 [a0, a1, a2, a3, a4, .int x] dX12_rests_3 rfl
theorem dX12_chosen_0 : decode cX12_chosen 0 = .ok (.aload_n 0, 1) := by decide +kernel
theorem dX12_chosen_1 : decode cX12_chosen 1 = .ok (.iload_n 1, 1) := by decide +kernel
theorem dX12_chosen_2 : decode cX12_chosen 2 = .ok (.invokevirtual 269, 3) := by decide +kernel
theorem dX12_chosen_5 : decode cX12_chosen 5 = .ok (.ifCond .eq 48, 3) := by decide +kernel
theorem dX12_chosen_8 : decode cX12_chosen 8 = .ok (.aload_n 0, 1) := by decide +kernel
theorem dX12_chosen_9 : decode cX12_chosen 9 = .ok (.iload_n 2, 1) := by decide +kernel
theorem dX12_chosen_10 : decode cX12_chosen 10 = .ok (.invokevirtual 269, 3) := by decide +kernel
theorem dX12_chosen_13 : decode cX12_chosen 13 = .ok (.ifCond .eq 40, 3) := by decide +kernel
theorem dX12_chosen_16 : decode cX12_chosen 16 = .ok (.iload_n 1, 1) := by decide +kernel
theorem dX12_chosen_17 : decode cX12_chosen 17 = .ok (.iload_n 2, 1) := by decide +kernel
theorem dX12_chosen_18 : decode cX12_chosen 18 = .ok (.if_icmp .eq 35, 3) := by decide +kernel
theorem dX12_chosen_21 : decode cX12_chosen 21 = .ok (.aload_n 0, 1) := by decide +kernel
theorem dX12_chosen_22 : decode cX12_chosen 22 = .ok (.getfield 7, 3) := by decide +kernel
theorem dX12_chosen_25 : decode cX12_chosen 25 = .ok (.sipush 320, 3) := by decide +kernel
theorem dX12_chosen_28 : decode cX12_chosen 28 = .ok (.iload_n 1, 1) := by decide +kernel
theorem dX12_chosen_29 : decode cX12_chosen 29 = .ok (.iadd, 1) := by decide +kernel
theorem dX12_chosen_30 : decode cX12_chosen 30 = .ok (.iaload, 1) := by decide +kernel
theorem dX12_chosen_31 : decode cX12_chosen 31 = .ok (.aload_n 0, 1) := by decide +kernel
theorem dX12_chosen_32 : decode cX12_chosen 32 = .ok (.getfield 7, 3) := by decide +kernel
theorem dX12_chosen_35 : decode cX12_chosen 35 = .ok (.sipush 320, 3) := by decide +kernel
theorem dX12_chosen_38 : decode cX12_chosen 38 = .ok (.iload_n 2, 1) := by decide +kernel
theorem dX12_chosen_39 : decode cX12_chosen 39 = .ok (.iadd, 1) := by decide +kernel
theorem dX12_chosen_40 : decode cX12_chosen 40 = .ok (.iaload, 1) := by decide +kernel
theorem dX12_chosen_41 : decode cX12_chosen 41 = .ok (.if_icmp .ne 12, 3) := by decide +kernel
theorem dX12_chosen_44 : decode cX12_chosen 44 = .ok (.iload_n 3, 1) := by decide +kernel
theorem dX12_chosen_45 : decode cX12_chosen 45 = .ok (.iconst 0, 1) := by decide +kernel
theorem dX12_chosen_46 : decode cX12_chosen 46 = .ok (.iconst 2, 1) := by decide +kernel
theorem dX12_chosen_47 : decode cX12_chosen 47 = .ok (.invokestatic 112, 3) := by decide +kernel
theorem dX12_chosen_50 : decode cX12_chosen 50 = .ok (.ifCond .ne 5, 3) := by decide +kernel
theorem dX12_chosen_53 : decode cX12_chosen 53 = .ok (.iconst (-1), 1) := by decide +kernel
theorem dX12_chosen_54 : decode cX12_chosen 54 = .ok (.ireturn, 1) := by decide +kernel
theorem dX12_chosen_55 : decode cX12_chosen 55 = .ok (.iconst 0, 1) := by decide +kernel
theorem dX12_chosen_56 : decode cX12_chosen 56 = .ok (.istore 4, 2) := by decide +kernel
theorem dX12_chosen_58 : decode cX12_chosen 58 = .ok (.iconst (-1), 1) := by decide +kernel
theorem dX12_chosen_59 : decode cX12_chosen 59 = .ok (.istore 5, 2) := by decide +kernel
theorem dX12_chosen_61 : decode cX12_chosen 61 = .ok (.iconst 0, 1) := by decide +kernel
theorem dX12_chosen_62 : decode cX12_chosen 62 = .ok (.istore 6, 2) := by decide +kernel
theorem dX12_chosen_64 : decode cX12_chosen 64 = .ok (.iload 6, 2) := by decide +kernel
theorem dX12_chosen_66 : decode cX12_chosen 66 = .ok (.sipush 1024, 3) := by decide +kernel
theorem dX12_chosen_69 : decode cX12_chosen 69 = .ok (.if_icmp .ge 78, 3) := by decide +kernel
theorem dX12_chosen_72 : decode cX12_chosen 72 = .ok (.aload_n 0, 1) := by decide +kernel
theorem dX12_chosen_73 : decode cX12_chosen 73 = .ok (.iload_n 1, 1) := by decide +kernel
theorem dX12_chosen_74 : decode cX12_chosen 74 = .ok (.iload 6, 2) := by decide +kernel
theorem dX12_chosen_76 : decode cX12_chosen 76 = .ok (.bipush 32, 2) := by decide +kernel
theorem dX12_chosen_78 : decode cX12_chosen 78 = .ok (.idiv, 1) := by decide +kernel
theorem dX12_chosen_79 : decode cX12_chosen 79 = .ok (.invokevirtual 381, 3) := by decide +kernel
theorem dX12_chosen_82 : decode cX12_chosen 82 = .ok (.ifCond .eq 59, 3) := by decide +kernel
theorem dX12_chosen_85 : decode cX12_chosen 85 = .ok (.aload_n 0, 1) := by decide +kernel
theorem dX12_chosen_86 : decode cX12_chosen 86 = .ok (.iload_n 2, 1) := by decide +kernel
theorem dX12_chosen_87 : decode cX12_chosen 87 = .ok (.iload 6, 2) := by decide +kernel
theorem dX12_chosen_89 : decode cX12_chosen 89 = .ok (.bipush 32, 2) := by decide +kernel
theorem dX12_chosen_91 : decode cX12_chosen 91 = .ok (.irem, 1) := by decide +kernel
theorem dX12_chosen_92 : decode cX12_chosen 92 = .ok (.invokevirtual 381, 3) := by decide +kernel
theorem dX12_chosen_95 : decode cX12_chosen 95 = .ok (.ifCond .eq 46, 3) := by decide +kernel
theorem dX12_chosen_98 : decode cX12_chosen 98 = .ok (.aload_n 0, 1) := by decide +kernel
theorem dX12_chosen_99 : decode cX12_chosen 99 = .ok (.iload_n 1, 1) := by decide +kernel
theorem dX12_chosen_100 : decode cX12_chosen 100 = .ok (.iload_n 2, 1) := by decide +kernel
theorem dX12_chosen_101 : decode cX12_chosen 101 = .ok (.iload 6, 2) := by decide +kernel
theorem dX12_chosen_103 : decode cX12_chosen 103 = .ok (.bipush 32, 2) := by decide +kernel
theorem dX12_chosen_105 : decode cX12_chosen 105 = .ok (.idiv, 1) := by decide +kernel
theorem dX12_chosen_106 : decode cX12_chosen 106 = .ok (.iload 6, 2) := by decide +kernel
theorem dX12_chosen_108 : decode cX12_chosen 108 = .ok (.bipush 32, 2) := by decide +kernel
theorem dX12_chosen_110 : decode cX12_chosen 110 = .ok (.irem, 1) := by decide +kernel
theorem dX12_chosen_111 : decode cX12_chosen 111 = .ok (.invokevirtual 387, 3) := by decide +kernel
theorem dX12_chosen_114 : decode cX12_chosen 114 = .ok (.ifCond .ne 6, 3) := by decide +kernel
theorem dX12_chosen_117 : decode cX12_chosen 117 = .ok (.goto 24, 3) := by decide +kernel
theorem dX12_chosen_120 : decode cX12_chosen 120 = .ok (.iload 5, 2) := by decide +kernel
theorem dX12_chosen_122 : decode cX12_chosen 122 = .ok (.iconst (-1), 1) := by decide +kernel
theorem dX12_chosen_123 : decode cX12_chosen 123 = .ok (.if_icmp .ne 8, 3) := by decide +kernel
theorem dX12_chosen_126 : decode cX12_chosen 126 = .ok (.iload 6, 2) := by decide +kernel
theorem dX12_chosen_128 : decode cX12_chosen 128 = .ok (.goto 5, 3) := by decide +kernel
theorem dX12_chosen_131 : decode cX12_chosen 131 = .ok (.iload 5, 2) := by decide +kernel
theorem dX12_chosen_133 : decode cX12_chosen 133 = .ok (.istore 5, 2) := by decide +kernel
theorem dX12_chosen_135 : decode cX12_chosen 135 = .ok (.iload 4, 2) := by decide +kernel
theorem dX12_chosen_137 : decode cX12_chosen 137 = .ok (.iconst 1, 1) := by decide +kernel
theorem dX12_chosen_138 : decode cX12_chosen 138 = .ok (.iadd, 1) := by decide +kernel
theorem dX12_chosen_139 : decode cX12_chosen 139 = .ok (.istore 4, 2) := by decide +kernel
theorem dX12_chosen_141 : decode cX12_chosen 141 = .ok (.iinc 6 1, 3) := by decide +kernel
theorem dX12_chosen_144 : decode cX12_chosen 144 = .ok (.goto (-80), 3) := by decide +kernel
theorem dX12_chosen_147 : decode cX12_chosen 147 = .ok (.iload_n 3, 1) := by decide +kernel
theorem dX12_chosen_148 : decode cX12_chosen 148 = .ok (.ifCond .ne 8, 3) := by decide +kernel
theorem dX12_chosen_151 : decode cX12_chosen 151 = .ok (.iload 4, 2) := by decide +kernel
theorem dX12_chosen_153 : decode cX12_chosen 153 = .ok (.goto 32, 3) := by decide +kernel
theorem dX12_chosen_156 : decode cX12_chosen 156 = .ok (.iload 5, 2) := by decide +kernel
theorem dX12_chosen_158 : decode cX12_chosen 158 = .ok (.iconst (-1), 1) := by decide +kernel
theorem dX12_chosen_159 : decode cX12_chosen 159 = .ok (.if_icmp .ne 8, 3) := by decide +kernel
theorem dX12_chosen_162 : decode cX12_chosen 162 = .ok (.bipush (-2), 2) := by decide +kernel
theorem dX12_chosen_164 : decode cX12_chosen 164 = .ok (.goto 21, 3) := by decide +kernel
theorem dX12_chosen_167 : decode cX12_chosen 167 = .ok (.iload_n 3, 1) := by decide +kernel
theorem dX12_chosen_168 : decode cX12_chosen 168 = .ok (.iconst 1, 1) := by decide +kernel
theorem dX12_chosen_169 : decode cX12_chosen 169 = .ok (.if_icmp .ne 11, 3) := by decide +kernel
theorem dX12_chosen_172 : decode cX12_chosen 172 = .ok (.iload 5, 2) := by decide +kernel
theorem dX12_chosen_174 : decode cX12_chosen 174 = .ok (.bipush 32, 2) := by decide +kernel
theorem dX12_chosen_176 : decode cX12_chosen 176 = .ok (.idiv, 1) := by decide +kernel
theorem dX12_chosen_177 : decode cX12_chosen 177 = .ok (.goto 8, 3) := by decide +kernel
theorem dX12_chosen_180 : decode cX12_chosen 180 = .ok (.iload 5, 2) := by decide +kernel
theorem dX12_chosen_182 : decode cX12_chosen 182 = .ok (.bipush 32, 2) := by decide +kernel
theorem dX12_chosen_184 : decode cX12_chosen 184 = .ok (.irem, 1) := by decide +kernel
theorem dX12_chosen_185 : decode cX12_chosen 185 = .ok (.ireturn, 1) := by decide +kernel
theorem rX12_chosen : (∀ (d : Nat) (a1 a2 a3 a4 a5 a6 : Value) (x : Nat) (st : List Value) (h : fk_H), fk_ev d qX12_chosen 0 [.ref x, a1, a2, a3, a4, a5, a6] st h = fk_ev d qX12_chosen 1 [.ref x, a1, a2, a3, a4, a5, a6] (.ref x :: st) h) ∧
  (∀ (d : Nat) (a0 a2 a3 a4 a5 a6 : Value) (x : Int32) (st : List Value) (h : fk_H), fk_ev d qX12_chosen 1 [a0, .int x, a2, a3, a4, a5, a6] st h = fk_ev d qX12_chosen 2 [a0, .int x, a2, a3, a4, a5, a6] (.int x :: st) h) ∧
  (∀ (d : Nat) (L : List Value) (x0 : Int32)  (N : Nat) (y : Nat → Nat → Int32) (l : Nat → Nat → Int64), fk_ev (d + 1) qX12_chosen 2 L (.int x0 :: .ref 246 :: []) (fk_E N y l) = (fk_ev d qX12_isAt 0 [.ref 246, .int x0] [] (fk_E N y l)).bind fun o => fk_ev (d + 1) qX12_chosen 5 L (o.1.toList ++ []) o.2) ∧
  (∀ (d : Nat) (L : List Value) (x : Int32) (st : List Value) (h : fk_H), fk_ev d qX12_chosen 5 L (.int x :: st) h = if x = nI 0 then fk_ev d qX12_chosen 53 L st h else fk_ev d qX12_chosen 8 L st h) ∧
  (∀ (d : Nat) (a1 a2 a3 a4 a5 a6 : Value) (x : Nat) (st : List Value) (h : fk_H), fk_ev d qX12_chosen 8 [.ref x, a1, a2, a3, a4, a5, a6] st h = fk_ev d qX12_chosen 9 [.ref x, a1, a2, a3, a4, a5, a6] (.ref x :: st) h) ∧
  (∀ (d : Nat) (a0 a1 a3 a4 a5 a6 : Value) (x : Int32) (st : List Value) (h : fk_H), fk_ev d qX12_chosen 9 [a0, a1, .int x, a3, a4, a5, a6] st h = fk_ev d qX12_chosen 10 [a0, a1, .int x, a3, a4, a5, a6] (.int x :: st) h) ∧
  (∀ (d : Nat) (L : List Value) (x0 : Int32)  (N : Nat) (y : Nat → Nat → Int32) (l : Nat → Nat → Int64), fk_ev (d + 1) qX12_chosen 10 L (.int x0 :: .ref 246 :: []) (fk_E N y l) = (fk_ev d qX12_isAt 0 [.ref 246, .int x0] [] (fk_E N y l)).bind fun o => fk_ev (d + 1) qX12_chosen 13 L (o.1.toList ++ []) o.2) ∧
  (∀ (d : Nat) (L : List Value) (x : Int32) (st : List Value) (h : fk_H), fk_ev d qX12_chosen 13 L (.int x :: st) h = if x = nI 0 then fk_ev d qX12_chosen 53 L st h else fk_ev d qX12_chosen 16 L st h) ∧
  (∀ (d : Nat) (a0 a2 a3 a4 a5 a6 : Value) (x : Int32) (st : List Value) (h : fk_H), fk_ev d qX12_chosen 16 [a0, .int x, a2, a3, a4, a5, a6] st h = fk_ev d qX12_chosen 17 [a0, .int x, a2, a3, a4, a5, a6] (.int x :: st) h) ∧
  (∀ (d : Nat) (a0 a1 a3 a4 a5 a6 : Value) (x : Int32) (st : List Value) (h : fk_H), fk_ev d qX12_chosen 17 [a0, a1, .int x, a3, a4, a5, a6] st h = fk_ev d qX12_chosen 18 [a0, a1, .int x, a3, a4, a5, a6] (.int x :: st) h) ∧
  (∀ (d : Nat) (L : List Value) (x y : Int32) (st : List Value) (h : fk_H), fk_ev d qX12_chosen 18 L (.int y :: .int x :: st) h = if x = y then fk_ev d qX12_chosen 53 L st h else fk_ev d qX12_chosen 21 L st h) ∧
  (∀ (d : Nat) (a1 a2 a3 a4 a5 a6 : Value) (x : Nat) (st : List Value) (h : fk_H), fk_ev d qX12_chosen 21 [.ref x, a1, a2, a3, a4, a5, a6] st h = fk_ev d qX12_chosen 22 [.ref x, a1, a2, a3, a4, a5, a6] (.ref x :: st) h) ∧
  (∀ (d : Nat) (L st : List Value) (N : Nat) (y : Nat → Nat → Int32) (l : Nat → Nat → Int64), fk_ev d qX12_chosen 22 L (.ref 246 :: st) (fk_E N y l) = fk_ev d qX12_chosen 25 L (.ref 247 :: st) (fk_E N y l)) ∧
  (∀ (d : Nat) (L st : List Value) (h : fk_H), fk_ev d qX12_chosen 25 L st h = fk_ev d qX12_chosen 28 L (.int (nI 320) :: st) h) ∧
  (∀ (d : Nat) (a0 a2 a3 a4 a5 a6 : Value) (x : Int32) (st : List Value) (h : fk_H), fk_ev d qX12_chosen 28 [a0, .int x, a2, a3, a4, a5, a6] st h = fk_ev d qX12_chosen 29 [a0, .int x, a2, a3, a4, a5, a6] (.int x :: st) h) ∧
  (∀ (d : Nat) (L : List Value) (x y : Int32) (st : List Value) (h : fk_H), fk_ev d qX12_chosen 29 L (.int y :: .int x :: st) h = fk_ev d qX12_chosen 30 L (.int (x + y) :: st) h) ∧
  (∀ (d : Nat) (L st : List Value) (N : Nat) (y : Nat → Nat → Int32) (l : Nat → Nat → Int64) (i : Nat), i < 3912 → fk_ev d qX12_chosen 30 L (.int (nI i) :: .ref 247 :: st) (fk_E N y l) = fk_ev d qX12_chosen 31 L (.int (y 247 i) :: st) (fk_E N y l)) ∧
  (∀ (d : Nat) (a1 a2 a3 a4 a5 a6 : Value) (x : Nat) (st : List Value) (h : fk_H), fk_ev d qX12_chosen 31 [.ref x, a1, a2, a3, a4, a5, a6] st h = fk_ev d qX12_chosen 32 [.ref x, a1, a2, a3, a4, a5, a6] (.ref x :: st) h) ∧
  (∀ (d : Nat) (L st : List Value) (N : Nat) (y : Nat → Nat → Int32) (l : Nat → Nat → Int64), fk_ev d qX12_chosen 32 L (.ref 246 :: st) (fk_E N y l) = fk_ev d qX12_chosen 35 L (.ref 247 :: st) (fk_E N y l)) ∧
  (∀ (d : Nat) (L st : List Value) (h : fk_H), fk_ev d qX12_chosen 35 L st h = fk_ev d qX12_chosen 38 L (.int (nI 320) :: st) h) ∧
  (∀ (d : Nat) (a0 a1 a3 a4 a5 a6 : Value) (x : Int32) (st : List Value) (h : fk_H), fk_ev d qX12_chosen 38 [a0, a1, .int x, a3, a4, a5, a6] st h = fk_ev d qX12_chosen 39 [a0, a1, .int x, a3, a4, a5, a6] (.int x :: st) h) ∧
  (∀ (d : Nat) (L : List Value) (x y : Int32) (st : List Value) (h : fk_H), fk_ev d qX12_chosen 39 L (.int y :: .int x :: st) h = fk_ev d qX12_chosen 40 L (.int (x + y) :: st) h) ∧
  (∀ (d : Nat) (L st : List Value) (N : Nat) (y : Nat → Nat → Int32) (l : Nat → Nat → Int64) (i : Nat), i < 3912 → fk_ev d qX12_chosen 40 L (.int (nI i) :: .ref 247 :: st) (fk_E N y l) = fk_ev d qX12_chosen 41 L (.int (y 247 i) :: st) (fk_E N y l)) ∧
  (∀ (d : Nat) (L : List Value) (x y : Int32) (st : List Value) (h : fk_H), fk_ev d qX12_chosen 41 L (.int y :: .int x :: st) h = if ¬ x = y then fk_ev d qX12_chosen 53 L st h else fk_ev d qX12_chosen 44 L st h) ∧
  (∀ (d : Nat) (a0 a1 a2 a4 a5 a6 : Value) (x : Int32) (st : List Value) (h : fk_H), fk_ev d qX12_chosen 44 [a0, a1, a2, .int x, a4, a5, a6] st h = fk_ev d qX12_chosen 45 [a0, a1, a2, .int x, a4, a5, a6] (.int x :: st) h) ∧
  (∀ (d : Nat) (L st : List Value) (h : fk_H), fk_ev d qX12_chosen 45 L st h = fk_ev d qX12_chosen 46 L (.int (nI 0) :: st) h) ∧
  (∀ (d : Nat) (L st : List Value) (h : fk_H), fk_ev d qX12_chosen 46 L st h = fk_ev d qX12_chosen 47 L (.int (nI 2) :: st) h) ∧
  (∀ (d : Nat) (L : List Value) (x0 : Int32) (x1 : Int32) (x2 : Int32)  (h : fk_H), fk_ev (d + 1) qX12_chosen 47 L (.int x2 :: .int x1 :: .int x0 :: []) h = (fk_ev d qX12_in 0 [.int x0, .int x1, .int x2] [] h).bind fun o => fk_ev (d + 1) qX12_chosen 50 L (o.1.toList ++ []) o.2) ∧
  (∀ (d : Nat) (L : List Value) (x : Int32) (st : List Value) (h : fk_H), fk_ev d qX12_chosen 50 L (.int x :: st) h = if ¬ x = nI 0 then fk_ev d qX12_chosen 55 L st h else fk_ev d qX12_chosen 53 L st h) ∧
  (∀ (d : Nat) (L st : List Value) (h : fk_H), fk_ev d qX12_chosen 53 L st h = fk_ev d qX12_chosen 54 L (.int ((-1 : Int32)) :: st) h) ∧
  (∀ (d : Nat) (L : List Value) (x : Int32) (h : fk_H), fk_ev d qX12_chosen 54 L [.int x] h = some (some (.int x), h)) ∧
  (∀ (d : Nat) (L st : List Value) (h : fk_H), fk_ev d qX12_chosen 55 L st h = fk_ev d qX12_chosen 56 L (.int (nI 0) :: st) h) ∧
  (∀ (d : Nat) (a0 a1 a2 a3 a4 a5 a6 : Value) (x : Int32) (st : List Value) (h : fk_H), fk_ev d qX12_chosen 56 [a0, a1, a2, a3, a4, a5, a6] (.int x :: st) h = fk_ev d qX12_chosen 58 [a0, a1, a2, a3, .int x, a5, a6] st h) ∧
  (∀ (d : Nat) (L st : List Value) (h : fk_H), fk_ev d qX12_chosen 58 L st h = fk_ev d qX12_chosen 59 L (.int ((-1 : Int32)) :: st) h) ∧
  (∀ (d : Nat) (a0 a1 a2 a3 a4 a5 a6 : Value) (x : Int32) (st : List Value) (h : fk_H), fk_ev d qX12_chosen 59 [a0, a1, a2, a3, a4, a5, a6] (.int x :: st) h = fk_ev d qX12_chosen 61 [a0, a1, a2, a3, a4, .int x, a6] st h) ∧
  (∀ (d : Nat) (L st : List Value) (h : fk_H), fk_ev d qX12_chosen 61 L st h = fk_ev d qX12_chosen 62 L (.int (nI 0) :: st) h) ∧
  (∀ (d : Nat) (a0 a1 a2 a3 a4 a5 a6 : Value) (x : Int32) (st : List Value) (h : fk_H), fk_ev d qX12_chosen 62 [a0, a1, a2, a3, a4, a5, a6] (.int x :: st) h = fk_ev d qX12_chosen 64 [a0, a1, a2, a3, a4, a5, .int x] st h) ∧
  (∀ (d : Nat) (L st : List Value) (h : fk_H), fk_ev d qX12_chosen 66 L st h = fk_ev d qX12_chosen 69 L (.int (nI 1024) :: st) h) ∧
  (∀ (d : Nat) (L : List Value) (x y : Int32) (st : List Value) (h : fk_H), fk_ev d qX12_chosen 69 L (.int y :: .int x :: st) h = if y ≤ x then fk_ev d qX12_chosen 147 L st h else fk_ev d qX12_chosen 72 L st h) ∧
  (∀ (d : Nat) (a1 a2 a3 a4 a5 a6 : Value) (x : Nat) (st : List Value) (h : fk_H), fk_ev d qX12_chosen 72 [.ref x, a1, a2, a3, a4, a5, a6] st h = fk_ev d qX12_chosen 73 [.ref x, a1, a2, a3, a4, a5, a6] (.ref x :: st) h) ∧
  (∀ (d : Nat) (a0 a2 a3 a4 a5 a6 : Value) (x : Int32) (st : List Value) (h : fk_H), fk_ev d qX12_chosen 73 [a0, .int x, a2, a3, a4, a5, a6] st h = fk_ev d qX12_chosen 74 [a0, .int x, a2, a3, a4, a5, a6] (.int x :: st) h) ∧
  (∀ (d : Nat) (a0 a1 a2 a3 a4 a5 : Value) (x : Int32) (st : List Value) (h : fk_H), fk_ev d qX12_chosen 74 [a0, a1, a2, a3, a4, a5, .int x] st h = fk_ev d qX12_chosen 76 [a0, a1, a2, a3, a4, a5, .int x] (.int x :: st) h) ∧
  (∀ (d : Nat) (L st : List Value) (h : fk_H), fk_ev d qX12_chosen 76 L st h = fk_ev d qX12_chosen 78 L (.int (nI 32) :: st) h) ∧
  (∀ (d : Nat) (L : List Value) (x y : Int32) (st : List Value) (h : fk_H), fk_ev d qX12_chosen 78 L (.int y :: .int x :: st) h = if y = 0 then none else fk_ev d qX12_chosen 79 L (.int (x / y) :: st) h) ∧
  (∀ (d : Nat) (L : List Value) (x0 : Int32) (x1 : Int32)  (N : Nat) (y : Nat → Nat → Int32) (l : Nat → Nat → Int64), fk_ev (d + 1) qX12_chosen 79 L (.int x1 :: .int x0 :: .ref 246 :: []) (fk_E N y l) = (fk_ev d qX12_isGlad 0 [.ref 246, .int x0, .int x1] [] (fk_E N y l)).bind fun o => fk_ev (d + 1) qX12_chosen 82 L (o.1.toList ++ []) o.2) ∧
  (∀ (d : Nat) (L : List Value) (x : Int32) (st : List Value) (h : fk_H), fk_ev d qX12_chosen 82 L (.int x :: st) h = if x = nI 0 then fk_ev d qX12_chosen 141 L st h else fk_ev d qX12_chosen 85 L st h) ∧
  (∀ (d : Nat) (a1 a2 a3 a4 a5 a6 : Value) (x : Nat) (st : List Value) (h : fk_H), fk_ev d qX12_chosen 85 [.ref x, a1, a2, a3, a4, a5, a6] st h = fk_ev d qX12_chosen 86 [.ref x, a1, a2, a3, a4, a5, a6] (.ref x :: st) h) ∧
  (∀ (d : Nat) (a0 a1 a3 a4 a5 a6 : Value) (x : Int32) (st : List Value) (h : fk_H), fk_ev d qX12_chosen 86 [a0, a1, .int x, a3, a4, a5, a6] st h = fk_ev d qX12_chosen 87 [a0, a1, .int x, a3, a4, a5, a6] (.int x :: st) h) ∧
  (∀ (d : Nat) (a0 a1 a2 a3 a4 a5 : Value) (x : Int32) (st : List Value) (h : fk_H), fk_ev d qX12_chosen 87 [a0, a1, a2, a3, a4, a5, .int x] st h = fk_ev d qX12_chosen 89 [a0, a1, a2, a3, a4, a5, .int x] (.int x :: st) h) ∧
  (∀ (d : Nat) (L st : List Value) (h : fk_H), fk_ev d qX12_chosen 89 L st h = fk_ev d qX12_chosen 91 L (.int (nI 32) :: st) h) ∧
  (∀ (d : Nat) (L : List Value) (x y : Int32) (st : List Value) (h : fk_H), fk_ev d qX12_chosen 91 L (.int y :: .int x :: st) h = if y = 0 then none else fk_ev d qX12_chosen 92 L (.int (x - x / y * y) :: st) h) ∧
  (∀ (d : Nat) (L : List Value) (x0 : Int32) (x1 : Int32)  (N : Nat) (y : Nat → Nat → Int32) (l : Nat → Nat → Int64), fk_ev (d + 1) qX12_chosen 92 L (.int x1 :: .int x0 :: .ref 246 :: []) (fk_E N y l) = (fk_ev d qX12_isGlad 0 [.ref 246, .int x0, .int x1] [] (fk_E N y l)).bind fun o => fk_ev (d + 1) qX12_chosen 95 L (o.1.toList ++ []) o.2) ∧
  (∀ (d : Nat) (L : List Value) (x : Int32) (st : List Value) (h : fk_H), fk_ev d qX12_chosen 95 L (.int x :: st) h = if x = nI 0 then fk_ev d qX12_chosen 141 L st h else fk_ev d qX12_chosen 98 L st h) ∧
  (∀ (d : Nat) (a1 a2 a3 a4 a5 a6 : Value) (x : Nat) (st : List Value) (h : fk_H), fk_ev d qX12_chosen 98 [.ref x, a1, a2, a3, a4, a5, a6] st h = fk_ev d qX12_chosen 99 [.ref x, a1, a2, a3, a4, a5, a6] (.ref x :: st) h) ∧
  (∀ (d : Nat) (a0 a2 a3 a4 a5 a6 : Value) (x : Int32) (st : List Value) (h : fk_H), fk_ev d qX12_chosen 99 [a0, .int x, a2, a3, a4, a5, a6] st h = fk_ev d qX12_chosen 100 [a0, .int x, a2, a3, a4, a5, a6] (.int x :: st) h) ∧
  (∀ (d : Nat) (a0 a1 a3 a4 a5 a6 : Value) (x : Int32) (st : List Value) (h : fk_H), fk_ev d qX12_chosen 100 [a0, a1, .int x, a3, a4, a5, a6] st h = fk_ev d qX12_chosen 101 [a0, a1, .int x, a3, a4, a5, a6] (.int x :: st) h) ∧
  (∀ (d : Nat) (a0 a1 a2 a3 a4 a5 : Value) (x : Int32) (st : List Value) (h : fk_H), fk_ev d qX12_chosen 101 [a0, a1, a2, a3, a4, a5, .int x] st h = fk_ev d qX12_chosen 103 [a0, a1, a2, a3, a4, a5, .int x] (.int x :: st) h) ∧
  (∀ (d : Nat) (L st : List Value) (h : fk_H), fk_ev d qX12_chosen 103 L st h = fk_ev d qX12_chosen 105 L (.int (nI 32) :: st) h) ∧
  (∀ (d : Nat) (L : List Value) (x y : Int32) (st : List Value) (h : fk_H), fk_ev d qX12_chosen 105 L (.int y :: .int x :: st) h = if y = 0 then none else fk_ev d qX12_chosen 106 L (.int (x / y) :: st) h) ∧
  (∀ (d : Nat) (a0 a1 a2 a3 a4 a5 : Value) (x : Int32) (st : List Value) (h : fk_H), fk_ev d qX12_chosen 106 [a0, a1, a2, a3, a4, a5, .int x] st h = fk_ev d qX12_chosen 108 [a0, a1, a2, a3, a4, a5, .int x] (.int x :: st) h) ∧
  (∀ (d : Nat) (L st : List Value) (h : fk_H), fk_ev d qX12_chosen 108 L st h = fk_ev d qX12_chosen 110 L (.int (nI 32) :: st) h) ∧
  (∀ (d : Nat) (L : List Value) (x y : Int32) (st : List Value) (h : fk_H), fk_ev d qX12_chosen 110 L (.int y :: .int x :: st) h = if y = 0 then none else fk_ev d qX12_chosen 111 L (.int (x - x / y * y) :: st) h) ∧
  (∀ (d : Nat) (L : List Value) (x0 : Int32) (x1 : Int32) (x2 : Int32) (x3 : Int32)  (N : Nat) (y : Nat → Nat → Int32) (l : Nat → Nat → Int64), fk_ev (d + 1) qX12_chosen 111 L (.int x3 :: .int x2 :: .int x1 :: .int x0 :: .ref 246 :: []) (fk_E N y l) = (fk_ev d qX12_rests 0 [.ref 246, .int x0, .int x1, .int x2, .int x3, .null] [] (fk_E N y l)).bind fun o => fk_ev (d + 1) qX12_chosen 114 L (o.1.toList ++ []) o.2) ∧
  (∀ (d : Nat) (L : List Value) (x : Int32) (st : List Value) (h : fk_H), fk_ev d qX12_chosen 114 L (.int x :: st) h = if ¬ x = nI 0 then fk_ev d qX12_chosen 120 L st h else fk_ev d qX12_chosen 117 L st h) ∧
  (∀ (d : Nat) (L st : List Value) (h : fk_H), fk_ev d qX12_chosen 117 L st h = fk_ev d qX12_chosen 141 L st h) ∧
  (∀ (d : Nat) (a0 a1 a2 a3 a4 a6 : Value) (x : Int32) (st : List Value) (h : fk_H), fk_ev d qX12_chosen 120 [a0, a1, a2, a3, a4, .int x, a6] st h = fk_ev d qX12_chosen 122 [a0, a1, a2, a3, a4, .int x, a6] (.int x :: st) h) ∧
  (∀ (d : Nat) (L st : List Value) (h : fk_H), fk_ev d qX12_chosen 122 L st h = fk_ev d qX12_chosen 123 L (.int ((-1 : Int32)) :: st) h) ∧
  (∀ (d : Nat) (L : List Value) (x y : Int32) (st : List Value) (h : fk_H), fk_ev d qX12_chosen 123 L (.int y :: .int x :: st) h = if ¬ x = y then fk_ev d qX12_chosen 131 L st h else fk_ev d qX12_chosen 126 L st h) ∧
  (∀ (d : Nat) (a0 a1 a2 a3 a4 a5 : Value) (x : Int32) (st : List Value) (h : fk_H), fk_ev d qX12_chosen 126 [a0, a1, a2, a3, a4, a5, .int x] st h = fk_ev d qX12_chosen 128 [a0, a1, a2, a3, a4, a5, .int x] (.int x :: st) h) ∧
  (∀ (d : Nat) (L st : List Value) (h : fk_H), fk_ev d qX12_chosen 128 L st h = fk_ev d qX12_chosen 133 L st h) ∧
  (∀ (d : Nat) (a0 a1 a2 a3 a4 a6 : Value) (x : Int32) (st : List Value) (h : fk_H), fk_ev d qX12_chosen 131 [a0, a1, a2, a3, a4, .int x, a6] st h = fk_ev d qX12_chosen 133 [a0, a1, a2, a3, a4, .int x, a6] (.int x :: st) h) ∧
  (∀ (d : Nat) (a0 a1 a2 a3 a4 a5 a6 : Value) (x : Int32) (st : List Value) (h : fk_H), fk_ev d qX12_chosen 133 [a0, a1, a2, a3, a4, a5, a6] (.int x :: st) h = fk_ev d qX12_chosen 135 [a0, a1, a2, a3, a4, .int x, a6] st h) ∧
  (∀ (d : Nat) (a0 a1 a2 a3 a5 a6 : Value) (x : Int32) (st : List Value) (h : fk_H), fk_ev d qX12_chosen 135 [a0, a1, a2, a3, .int x, a5, a6] st h = fk_ev d qX12_chosen 137 [a0, a1, a2, a3, .int x, a5, a6] (.int x :: st) h) ∧
  (∀ (d : Nat) (L st : List Value) (h : fk_H), fk_ev d qX12_chosen 137 L st h = fk_ev d qX12_chosen 138 L (.int (nI 1) :: st) h) ∧
  (∀ (d : Nat) (L : List Value) (x y : Int32) (st : List Value) (h : fk_H), fk_ev d qX12_chosen 138 L (.int y :: .int x :: st) h = fk_ev d qX12_chosen 139 L (.int (x + y) :: st) h) ∧
  (∀ (d : Nat) (a0 a1 a2 a3 a4 a5 a6 : Value) (x : Int32) (st : List Value) (h : fk_H), fk_ev d qX12_chosen 139 [a0, a1, a2, a3, a4, a5, a6] (.int x :: st) h = fk_ev d qX12_chosen 141 [a0, a1, a2, a3, .int x, a5, a6] st h) ∧
  (∀ (d : Nat) (a0 a1 a2 a3 a4 a5 : Value) (x : Int32) (st : List Value) (h : fk_H), fk_ev d qX12_chosen 141 [a0, a1, a2, a3, a4, a5, .int x] st h = fk_ev d qX12_chosen 144 [a0, a1, a2, a3, a4, a5, .int (x + nI 1)] st h) ∧
  (∀ (d : Nat) (L st : List Value) (h : fk_H), fk_ev d qX12_chosen 144 L st h = fk_ev d qX12_chosen 64 L st h) ∧
  (∀ (d : Nat) (a0 a1 a2 a4 a5 a6 : Value) (x : Int32) (st : List Value) (h : fk_H), fk_ev d qX12_chosen 147 [a0, a1, a2, .int x, a4, a5, a6] st h = fk_ev d qX12_chosen 148 [a0, a1, a2, .int x, a4, a5, a6] (.int x :: st) h) ∧
  (∀ (d : Nat) (L : List Value) (x : Int32) (st : List Value) (h : fk_H), fk_ev d qX12_chosen 148 L (.int x :: st) h = if ¬ x = nI 0 then fk_ev d qX12_chosen 156 L st h else fk_ev d qX12_chosen 151 L st h) ∧
  (∀ (d : Nat) (a0 a1 a2 a3 a5 a6 : Value) (x : Int32) (st : List Value) (h : fk_H), fk_ev d qX12_chosen 151 [a0, a1, a2, a3, .int x, a5, a6] st h = fk_ev d qX12_chosen 153 [a0, a1, a2, a3, .int x, a5, a6] (.int x :: st) h) ∧
  (∀ (d : Nat) (L st : List Value) (h : fk_H), fk_ev d qX12_chosen 153 L st h = fk_ev d qX12_chosen 185 L st h) ∧
  (∀ (d : Nat) (a0 a1 a2 a3 a4 a6 : Value) (x : Int32) (st : List Value) (h : fk_H), fk_ev d qX12_chosen 156 [a0, a1, a2, a3, a4, .int x, a6] st h = fk_ev d qX12_chosen 158 [a0, a1, a2, a3, a4, .int x, a6] (.int x :: st) h) ∧
  (∀ (d : Nat) (L st : List Value) (h : fk_H), fk_ev d qX12_chosen 158 L st h = fk_ev d qX12_chosen 159 L (.int ((-1 : Int32)) :: st) h) ∧
  (∀ (d : Nat) (L : List Value) (x y : Int32) (st : List Value) (h : fk_H), fk_ev d qX12_chosen 159 L (.int y :: .int x :: st) h = if ¬ x = y then fk_ev d qX12_chosen 167 L st h else fk_ev d qX12_chosen 162 L st h) ∧
  (∀ (d : Nat) (L st : List Value) (h : fk_H), fk_ev d qX12_chosen 162 L st h = fk_ev d qX12_chosen 164 L (.int ((-2 : Int32)) :: st) h) ∧
  (∀ (d : Nat) (L st : List Value) (h : fk_H), fk_ev d qX12_chosen 164 L st h = fk_ev d qX12_chosen 185 L st h) ∧
  (∀ (d : Nat) (a0 a1 a2 a4 a5 a6 : Value) (x : Int32) (st : List Value) (h : fk_H), fk_ev d qX12_chosen 167 [a0, a1, a2, .int x, a4, a5, a6] st h = fk_ev d qX12_chosen 168 [a0, a1, a2, .int x, a4, a5, a6] (.int x :: st) h) ∧
  (∀ (d : Nat) (L st : List Value) (h : fk_H), fk_ev d qX12_chosen 168 L st h = fk_ev d qX12_chosen 169 L (.int (nI 1) :: st) h) ∧
  (∀ (d : Nat) (L : List Value) (x y : Int32) (st : List Value) (h : fk_H), fk_ev d qX12_chosen 169 L (.int y :: .int x :: st) h = if ¬ x = y then fk_ev d qX12_chosen 180 L st h else fk_ev d qX12_chosen 172 L st h) ∧
  (∀ (d : Nat) (a0 a1 a2 a3 a4 a6 : Value) (x : Int32) (st : List Value) (h : fk_H), fk_ev d qX12_chosen 172 [a0, a1, a2, a3, a4, .int x, a6] st h = fk_ev d qX12_chosen 174 [a0, a1, a2, a3, a4, .int x, a6] (.int x :: st) h) ∧
  (∀ (d : Nat) (L st : List Value) (h : fk_H), fk_ev d qX12_chosen 174 L st h = fk_ev d qX12_chosen 176 L (.int (nI 32) :: st) h) ∧
  (∀ (d : Nat) (L : List Value) (x y : Int32) (st : List Value) (h : fk_H), fk_ev d qX12_chosen 176 L (.int y :: .int x :: st) h = if y = 0 then none else fk_ev d qX12_chosen 177 L (.int (x / y) :: st) h) ∧
  (∀ (d : Nat) (L st : List Value) (h : fk_H), fk_ev d qX12_chosen 177 L st h = fk_ev d qX12_chosen 185 L st h) ∧
  (∀ (d : Nat) (a0 a1 a2 a3 a4 a6 : Value) (x : Int32) (st : List Value) (h : fk_H), fk_ev d qX12_chosen 180 [a0, a1, a2, a3, a4, .int x, a6] st h = fk_ev d qX12_chosen 182 [a0, a1, a2, a3, a4, .int x, a6] (.int x :: st) h) ∧
  (∀ (d : Nat) (L st : List Value) (h : fk_H), fk_ev d qX12_chosen 182 L st h = fk_ev d qX12_chosen 184 L (.int (nI 32) :: st) h) ∧
  (∀ (d : Nat) (L : List Value) (x y : Int32) (st : List Value) (h : fk_H), fk_ev d qX12_chosen 184 L (.int y :: .int x :: st) h = if y = 0 then none else fk_ev d qX12_chosen 185 L (.int (x - x / y * y) :: st) h) ∧
  (∀ (d : Nat) (L : List Value) (x : Int32) (h : fk_H), fk_ev d qX12_chosen 185 L [.int x] h = some (some (.int x), h)) := ⟨fun d a1 a2 a3 a4 a5 a6 x st h => fk_w_aloadn 0 [.ref x, a1, a2, a3, a4, a5, a6] dX12_chosen_0 rfl,
  fun d a0 a2 a3 a4 a5 a6 x st h => fk_w_iloadn 1 [a0, .int x, a2, a3, a4, a5, a6] dX12_chosen_1 rfl,
  fun d L x0 N y l  => fk_g_call [.int x0] [] rfl lm_12_269 dX12_chosen_2 rfl ⟨rfl, by decide⟩ (by simp) fk_at_246,
  fun d L x st h => fk_r_if_eq dX12_chosen_5 (by decide),
  fun d a1 a2 a3 a4 a5 a6 x st h => fk_w_aloadn 0 [.ref x, a1, a2, a3, a4, a5, a6] dX12_chosen_8 rfl,
  fun d a0 a1 a3 a4 a5 a6 x st h => fk_w_iloadn 2 [a0, a1, .int x, a3, a4, a5, a6] dX12_chosen_9 rfl,
  fun d L x0 N y l  => fk_g_call [.int x0] [] rfl lm_12_269 dX12_chosen_10 rfl ⟨rfl, by decide⟩ (by simp) fk_at_246,
  fun d L x st h => fk_r_if_eq dX12_chosen_13 (by decide),
  fun d a0 a2 a3 a4 a5 a6 x st h => fk_w_iloadn 1 [a0, .int x, a2, a3, a4, a5, a6] dX12_chosen_16 rfl,
  fun d a0 a1 a3 a4 a5 a6 x st h => fk_w_iloadn 2 [a0, a1, .int x, a3, a4, a5, a6] dX12_chosen_17 rfl,
  fun d L x y st h => fk_r_icmp_eq dX12_chosen_18 (by decide),
  fun d a1 a2 a3 a4 a5 a6 x st h => fk_w_aloadn 0 [.ref x, a1, a2, a3, a4, a5, a6] dX12_chosen_21 rfl,
  fun d L st N y l => fk_g_getC rfl lf_12_7 (by decide) rfl dX12_chosen_22 fk_at_246,
  fun d L st h => fk_w_sipush dX12_chosen_25 (by decide),
  fun d a0 a2 a3 a4 a5 a6 x st h => fk_w_iloadn 1 [a0, .int x, a2, a3, a4, a5, a6] dX12_chosen_28 rfl,
  fun d L x y st h => fk_r_iadd dX12_chosen_29,
  fun d L st N y l i hi => fk_g_iald fk_at_247 fk_ln_247 (by decide) dX12_chosen_30 hi,
  fun d a1 a2 a3 a4 a5 a6 x st h => fk_w_aloadn 0 [.ref x, a1, a2, a3, a4, a5, a6] dX12_chosen_31 rfl,
  fun d L st N y l => fk_g_getC rfl lf_12_7 (by decide) rfl dX12_chosen_32 fk_at_246,
  fun d L st h => fk_w_sipush dX12_chosen_35 (by decide),
  fun d a0 a1 a3 a4 a5 a6 x st h => fk_w_iloadn 2 [a0, a1, .int x, a3, a4, a5, a6] dX12_chosen_38 rfl,
  fun d L x y st h => fk_r_iadd dX12_chosen_39,
  fun d L st N y l i hi => fk_g_iald fk_at_247 fk_ln_247 (by decide) dX12_chosen_40 hi,
  fun d L x y st h => fk_r_icmp_ne dX12_chosen_41 (by decide),
  fun d a0 a1 a2 a4 a5 a6 x st h => fk_w_iloadn 3 [a0, a1, a2, .int x, a4, a5, a6] dX12_chosen_44 rfl,
  fun d L st h => fk_w_iconst dX12_chosen_45 (by decide),
  fun d L st h => fk_w_iconst dX12_chosen_46 (by decide),
  fun d L x0 x1 x2 h => fk_g_calls [.int x0, .int x1, .int x2] [] rfl lm_12_112 dX12_chosen_47 rfl ⟨rfl, by decide⟩ (by simp),
  fun d L x st h => fk_r_if_ne dX12_chosen_50 (by decide),
  fun d L st h => fk_w_iconst dX12_chosen_53 (by decide),
  fun d L x h => fk_r_ret dX12_chosen_54 (Or.inl rfl),
  fun d L st h => fk_w_iconst dX12_chosen_55 (by decide),
  fun d a0 a1 a2 a3 a4 a5 a6 x st h => fk_w_istore 4 7 [] [a0, a1, a2, a3, a4, a5, a6] [a0, a1, a2, a3, .int x, a5, a6] dX12_chosen_56 rfl rfl (by decide) rfl,
  fun d L st h => fk_w_iconst dX12_chosen_58 (by decide),
  fun d a0 a1 a2 a3 a4 a5 a6 x st h => fk_w_istore 5 7 [] [a0, a1, a2, a3, a4, a5, a6] [a0, a1, a2, a3, a4, .int x, a6] dX12_chosen_59 rfl rfl (by decide) rfl,
  fun d L st h => fk_w_iconst dX12_chosen_61 (by decide),
  fun d a0 a1 a2 a3 a4 a5 a6 x st h => fk_w_istore 6 7 [] [a0, a1, a2, a3, a4, a5, a6] [a0, a1, a2, a3, a4, a5, .int x] dX12_chosen_62 rfl rfl (by decide) rfl,
  fun d L st h => fk_w_sipush dX12_chosen_66 (by decide),
  fun d L x y st h => fk_r_icmp_ge dX12_chosen_69 (by decide),
  fun d a1 a2 a3 a4 a5 a6 x st h => fk_w_aloadn 0 [.ref x, a1, a2, a3, a4, a5, a6] dX12_chosen_72 rfl,
  fun d a0 a2 a3 a4 a5 a6 x st h => fk_w_iloadn 1 [a0, .int x, a2, a3, a4, a5, a6] dX12_chosen_73 rfl,
  fun d a0 a1 a2 a3 a4 a5 x st h => fk_w_iload 6 [a0, a1, a2, a3, a4, a5, .int x] dX12_chosen_74 rfl,
  fun d L st h => fk_w_bipush dX12_chosen_76 (by decide),
  fun d L x y st h => fk_r_idiv dX12_chosen_78,
  fun d L x0 x1 N y l  => fk_g_call [.int x0, .int x1] [] rfl lm_12_381 dX12_chosen_79 rfl ⟨rfl, by decide⟩ (by simp) fk_at_246,
  fun d L x st h => fk_r_if_eq dX12_chosen_82 (by decide),
  fun d a1 a2 a3 a4 a5 a6 x st h => fk_w_aloadn 0 [.ref x, a1, a2, a3, a4, a5, a6] dX12_chosen_85 rfl,
  fun d a0 a1 a3 a4 a5 a6 x st h => fk_w_iloadn 2 [a0, a1, .int x, a3, a4, a5, a6] dX12_chosen_86 rfl,
  fun d a0 a1 a2 a3 a4 a5 x st h => fk_w_iload 6 [a0, a1, a2, a3, a4, a5, .int x] dX12_chosen_87 rfl,
  fun d L st h => fk_w_bipush dX12_chosen_89 (by decide),
  fun d L x y st h => fk_r_irem dX12_chosen_91,
  fun d L x0 x1 N y l  => fk_g_call [.int x0, .int x1] [] rfl lm_12_381 dX12_chosen_92 rfl ⟨rfl, by decide⟩ (by simp) fk_at_246,
  fun d L x st h => fk_r_if_eq dX12_chosen_95 (by decide),
  fun d a1 a2 a3 a4 a5 a6 x st h => fk_w_aloadn 0 [.ref x, a1, a2, a3, a4, a5, a6] dX12_chosen_98 rfl,
  fun d a0 a2 a3 a4 a5 a6 x st h => fk_w_iloadn 1 [a0, .int x, a2, a3, a4, a5, a6] dX12_chosen_99 rfl,
  fun d a0 a1 a3 a4 a5 a6 x st h => fk_w_iloadn 2 [a0, a1, .int x, a3, a4, a5, a6] dX12_chosen_100 rfl,
  fun d a0 a1 a2 a3 a4 a5 x st h => fk_w_iload 6 [a0, a1, a2, a3, a4, a5, .int x] dX12_chosen_101 rfl,
  fun d L st h => fk_w_bipush dX12_chosen_103 (by decide),
  fun d L x y st h => fk_r_idiv dX12_chosen_105,
  fun d a0 a1 a2 a3 a4 a5 x st h => fk_w_iload 6 [a0, a1, a2, a3, a4, a5, .int x] dX12_chosen_106 rfl,
  fun d L st h => fk_w_bipush dX12_chosen_108 (by decide),
  fun d L x y st h => fk_r_irem dX12_chosen_110,
  fun d L x0 x1 x2 x3 N y l  => fk_g_call [.int x0, .int x1, .int x2, .int x3] [] rfl lm_12_387 dX12_chosen_111 rfl ⟨rfl, by decide⟩ (by simp) fk_at_246,
  fun d L x st h => fk_r_if_ne dX12_chosen_114 (by decide),
  fun d L st h => fk_r_goto dX12_chosen_117 (by decide),
  fun d a0 a1 a2 a3 a4 a6 x st h => fk_w_iload 5 [a0, a1, a2, a3, a4, .int x, a6] dX12_chosen_120 rfl,
  fun d L st h => fk_w_iconst dX12_chosen_122 (by decide),
  fun d L x y st h => fk_r_icmp_ne dX12_chosen_123 (by decide),
  fun d a0 a1 a2 a3 a4 a5 x st h => fk_w_iload 6 [a0, a1, a2, a3, a4, a5, .int x] dX12_chosen_126 rfl,
  fun d L st h => fk_r_goto dX12_chosen_128 (by decide),
  fun d a0 a1 a2 a3 a4 a6 x st h => fk_w_iload 5 [a0, a1, a2, a3, a4, .int x, a6] dX12_chosen_131 rfl,
  fun d a0 a1 a2 a3 a4 a5 a6 x st h => fk_w_istore 5 7 [] [a0, a1, a2, a3, a4, a5, a6] [a0, a1, a2, a3, a4, .int x, a6] dX12_chosen_133 rfl rfl (by decide) rfl,
  fun d a0 a1 a2 a3 a5 a6 x st h => fk_w_iload 4 [a0, a1, a2, a3, .int x, a5, a6] dX12_chosen_135 rfl,
  fun d L st h => fk_w_iconst dX12_chosen_137 (by decide),
  fun d L x y st h => fk_r_iadd dX12_chosen_138,
  fun d a0 a1 a2 a3 a4 a5 a6 x st h => fk_w_istore 4 7 [] [a0, a1, a2, a3, a4, a5, a6] [a0, a1, a2, a3, .int x, a5, a6] dX12_chosen_139 rfl rfl (by decide) rfl,
  fun d a0 a1 a2 a3 a4 a5 x st h => fk_w_iinc 6 7 (1) [] [a0, a1, a2, a3, a4, a5, .int x] [a0, a1, a2, a3, a4, a5, .int (x + nI 1)] dX12_chosen_141 rfl rfl rfl (by decide) rfl,
  fun d L st h => fk_r_goto dX12_chosen_144 (by decide),
  fun d a0 a1 a2 a4 a5 a6 x st h => fk_w_iloadn 3 [a0, a1, a2, .int x, a4, a5, a6] dX12_chosen_147 rfl,
  fun d L x st h => fk_r_if_ne dX12_chosen_148 (by decide),
  fun d a0 a1 a2 a3 a5 a6 x st h => fk_w_iload 4 [a0, a1, a2, a3, .int x, a5, a6] dX12_chosen_151 rfl,
  fun d L st h => fk_r_goto dX12_chosen_153 (by decide),
  fun d a0 a1 a2 a3 a4 a6 x st h => fk_w_iload 5 [a0, a1, a2, a3, a4, .int x, a6] dX12_chosen_156 rfl,
  fun d L st h => fk_w_iconst dX12_chosen_158 (by decide),
  fun d L x y st h => fk_r_icmp_ne dX12_chosen_159 (by decide),
  fun d L st h => fk_w_bipush dX12_chosen_162 (by decide),
  fun d L st h => fk_r_goto dX12_chosen_164 (by decide),
  fun d a0 a1 a2 a4 a5 a6 x st h => fk_w_iloadn 3 [a0, a1, a2, .int x, a4, a5, a6] dX12_chosen_167 rfl,
  fun d L st h => fk_w_iconst dX12_chosen_168 (by decide),
  fun d L x y st h => fk_r_icmp_ne dX12_chosen_169 (by decide),
  fun d a0 a1 a2 a3 a4 a6 x st h => fk_w_iload 5 [a0, a1, a2, a3, a4, .int x, a6] dX12_chosen_172 rfl,
  fun d L st h => fk_w_bipush dX12_chosen_174 (by decide),
  fun d L x y st h => fk_r_idiv dX12_chosen_176,
  fun d L st h => fk_r_goto dX12_chosen_177 (by decide),
  fun d a0 a1 a2 a3 a4 a6 x st h => fk_w_iload 5 [a0, a1, a2, a3, a4, .int x, a6] dX12_chosen_180 rfl,
  fun d L st h => fk_w_bipush dX12_chosen_182 (by decide),
  fun d L x y st h => fk_r_irem dX12_chosen_184,
  fun d L x h => fk_r_ret dX12_chosen_185 (Or.inl rfl)⟩
theorem hX12_chosen_64 : ∀ (d : Nat) (a0 a1 a2 a3 a4 a5 : Value) (x : Int32) (st : List Value) (h : fk_H), fk_ev d qX12_chosen 64 [a0, a1, a2, a3, a4, a5, .int x] st h = fk_ev d qX12_chosen 66 [a0, a1, a2, a3, a4, a5, .int x] (.int x :: st) h := fun d a0 a1 a2 a3 a4 a5 x st h => fk_w_iload 6 [a0, a1, a2, a3, a4, a5, .int x] dX12_chosen_64 rfl
theorem dX12_hourAt_0 : decode cX12_hourAt 0 = .ok (.aload_n 0, 1) := by decide +kernel
theorem dX12_hourAt_1 : decode cX12_hourAt 1 = .ok (.getfield 35, 3) := by decide +kernel
theorem dX12_hourAt_4 : decode cX12_hourAt 4 = .ok (.iconst 3, 1) := by decide +kernel
theorem dX12_hourAt_5 : decode cX12_hourAt 5 = .ok (.iload_n 1, 1) := by decide +kernel
theorem dX12_hourAt_6 : decode cX12_hourAt 6 = .ok (.imul, 1) := by decide +kernel
theorem dX12_hourAt_7 : decode cX12_hourAt 7 = .ok (.baload, 1) := by decide +kernel
theorem dX12_hourAt_8 : decode cX12_hourAt 8 = .ok (.sipush 255, 3) := by decide +kernel
theorem dX12_hourAt_11 : decode cX12_hourAt 11 = .ok (.iand, 1) := by decide +kernel
theorem dX12_hourAt_12 : decode cX12_hourAt 12 = .ok (.bipush 8, 2) := by decide +kernel
theorem dX12_hourAt_14 : decode cX12_hourAt 14 = .ok (.ishl, 1) := by decide +kernel
theorem dX12_hourAt_15 : decode cX12_hourAt 15 = .ok (.aload_n 0, 1) := by decide +kernel
theorem dX12_hourAt_16 : decode cX12_hourAt 16 = .ok (.getfield 35, 3) := by decide +kernel
theorem dX12_hourAt_19 : decode cX12_hourAt 19 = .ok (.iconst 3, 1) := by decide +kernel
theorem dX12_hourAt_20 : decode cX12_hourAt 20 = .ok (.iload_n 1, 1) := by decide +kernel
theorem dX12_hourAt_21 : decode cX12_hourAt 21 = .ok (.imul, 1) := by decide +kernel
theorem dX12_hourAt_22 : decode cX12_hourAt 22 = .ok (.iconst 1, 1) := by decide +kernel
theorem dX12_hourAt_23 : decode cX12_hourAt 23 = .ok (.iadd, 1) := by decide +kernel
theorem dX12_hourAt_24 : decode cX12_hourAt 24 = .ok (.baload, 1) := by decide +kernel
theorem dX12_hourAt_25 : decode cX12_hourAt 25 = .ok (.sipush 255, 3) := by decide +kernel
theorem dX12_hourAt_28 : decode cX12_hourAt 28 = .ok (.iand, 1) := by decide +kernel
theorem dX12_hourAt_29 : decode cX12_hourAt 29 = .ok (.ior, 1) := by decide +kernel
theorem dX12_hourAt_30 : decode cX12_hourAt 30 = .ok (.ireturn, 1) := by decide +kernel
theorem rX12_hourAt : (∀ (d : Nat) (a1 : Value) (x : Nat) (st : List Value) (h : fk_H), fk_ev d qX12_hourAt 0 [.ref x, a1] st h = fk_ev d qX12_hourAt 1 [.ref x, a1] (.ref x :: st) h) ∧
  (∀ (d : Nat) (L st : List Value) (N : Nat) (y : Nat → Nat → Int32) (l : Nat → Nat → Int64), fk_ev d qX12_hourAt 1 L (.ref 246 :: st) (fk_E N y l) = fk_ev d qX12_hourAt 4 L (.ref 255 :: st) (fk_E N y l)) ∧
  (∀ (d : Nat) (L st : List Value) (h : fk_H), fk_ev d qX12_hourAt 4 L st h = fk_ev d qX12_hourAt 5 L (.int (nI 3) :: st) h) ∧
  (∀ (d : Nat) (a0 : Value) (x : Int32) (st : List Value) (h : fk_H), fk_ev d qX12_hourAt 5 [a0, .int x] st h = fk_ev d qX12_hourAt 6 [a0, .int x] (.int x :: st) h) ∧
  (∀ (d : Nat) (L : List Value) (x y : Int32) (st : List Value) (h : fk_H), fk_ev d qX12_hourAt 6 L (.int y :: .int x :: st) h = fk_ev d qX12_hourAt 7 L (.int (x * y) :: st) h) ∧
  (∀ (d : Nat) (L st : List Value) (N : Nat) (y : Nat → Nat → Int32) (l : Nat → Nat → Int64) (i : Nat), i < 260 → fk_ev d qX12_hourAt 7 L (.int (nI i) :: .ref 255 :: st) (fk_E N y l) = fk_ev d qX12_hourAt 8 L (.int (y 255 i) :: st) (fk_E N y l)) ∧
  (∀ (d : Nat) (L st : List Value) (h : fk_H), fk_ev d qX12_hourAt 8 L st h = fk_ev d qX12_hourAt 11 L (.int (nI 255) :: st) h) ∧
  (∀ (d : Nat) (L : List Value) (x y : Int32) (st : List Value) (h : fk_H), fk_ev d qX12_hourAt 11 L (.int y :: .int x :: st) h = fk_ev d qX12_hourAt 12 L (.int (x &&& y) :: st) h) ∧
  (∀ (d : Nat) (L st : List Value) (h : fk_H), fk_ev d qX12_hourAt 12 L st h = fk_ev d qX12_hourAt 14 L (.int (nI 8) :: st) h) ∧
  (∀ (d : Nat) (L : List Value) (x y : Int32) (st : List Value) (h : fk_H), fk_ev d qX12_hourAt 14 L (.int y :: .int x :: st) h = fk_ev d qX12_hourAt 15 L (.int (x <<< (y &&& 31)) :: st) h) ∧
  (∀ (d : Nat) (a1 : Value) (x : Nat) (st : List Value) (h : fk_H), fk_ev d qX12_hourAt 15 [.ref x, a1] st h = fk_ev d qX12_hourAt 16 [.ref x, a1] (.ref x :: st) h) ∧
  (∀ (d : Nat) (L st : List Value) (N : Nat) (y : Nat → Nat → Int32) (l : Nat → Nat → Int64), fk_ev d qX12_hourAt 16 L (.ref 246 :: st) (fk_E N y l) = fk_ev d qX12_hourAt 19 L (.ref 255 :: st) (fk_E N y l)) ∧
  (∀ (d : Nat) (L st : List Value) (h : fk_H), fk_ev d qX12_hourAt 19 L st h = fk_ev d qX12_hourAt 20 L (.int (nI 3) :: st) h) ∧
  (∀ (d : Nat) (a0 : Value) (x : Int32) (st : List Value) (h : fk_H), fk_ev d qX12_hourAt 20 [a0, .int x] st h = fk_ev d qX12_hourAt 21 [a0, .int x] (.int x :: st) h) ∧
  (∀ (d : Nat) (L : List Value) (x y : Int32) (st : List Value) (h : fk_H), fk_ev d qX12_hourAt 21 L (.int y :: .int x :: st) h = fk_ev d qX12_hourAt 22 L (.int (x * y) :: st) h) ∧
  (∀ (d : Nat) (L st : List Value) (h : fk_H), fk_ev d qX12_hourAt 22 L st h = fk_ev d qX12_hourAt 23 L (.int (nI 1) :: st) h) ∧
  (∀ (d : Nat) (L : List Value) (x y : Int32) (st : List Value) (h : fk_H), fk_ev d qX12_hourAt 23 L (.int y :: .int x :: st) h = fk_ev d qX12_hourAt 24 L (.int (x + y) :: st) h) ∧
  (∀ (d : Nat) (L st : List Value) (N : Nat) (y : Nat → Nat → Int32) (l : Nat → Nat → Int64) (i : Nat), i < 260 → fk_ev d qX12_hourAt 24 L (.int (nI i) :: .ref 255 :: st) (fk_E N y l) = fk_ev d qX12_hourAt 25 L (.int (y 255 i) :: st) (fk_E N y l)) ∧
  (∀ (d : Nat) (L st : List Value) (h : fk_H), fk_ev d qX12_hourAt 25 L st h = fk_ev d qX12_hourAt 28 L (.int (nI 255) :: st) h) ∧
  (∀ (d : Nat) (L : List Value) (x y : Int32) (st : List Value) (h : fk_H), fk_ev d qX12_hourAt 28 L (.int y :: .int x :: st) h = fk_ev d qX12_hourAt 29 L (.int (x &&& y) :: st) h) ∧
  (∀ (d : Nat) (L : List Value) (x y : Int32) (st : List Value) (h : fk_H), fk_ev d qX12_hourAt 29 L (.int y :: .int x :: st) h = fk_ev d qX12_hourAt 30 L (.int (x ||| y) :: st) h) ∧
  (∀ (d : Nat) (L : List Value) (x : Int32) (h : fk_H), fk_ev d qX12_hourAt 30 L [.int x] h = some (some (.int x), h)) := ⟨fun d a1 x st h => fk_w_aloadn 0 [.ref x, a1] dX12_hourAt_0 rfl,
  fun d L st N y l => fk_g_getC rfl lf_12_35 (by decide) rfl dX12_hourAt_1 fk_at_246,
  fun d L st h => fk_w_iconst dX12_hourAt_4 (by decide),
  fun d a0 x st h => fk_w_iloadn 1 [a0, .int x] dX12_hourAt_5 rfl,
  fun d L x y st h => fk_r_imul dX12_hourAt_6,
  fun d L st N y l i hi => fk_g_bald (Or.inl rfl) fk_at_255 fk_ln_255 (by decide) dX12_hourAt_7 hi,
  fun d L st h => fk_w_sipush dX12_hourAt_8 (by decide),
  fun d L x y st h => fk_r_iand dX12_hourAt_11,
  fun d L st h => fk_w_bipush dX12_hourAt_12 (by decide),
  fun d L x y st h => fk_r_ishl dX12_hourAt_14,
  fun d a1 x st h => fk_w_aloadn 0 [.ref x, a1] dX12_hourAt_15 rfl,
  fun d L st N y l => fk_g_getC rfl lf_12_35 (by decide) rfl dX12_hourAt_16 fk_at_246,
  fun d L st h => fk_w_iconst dX12_hourAt_19 (by decide),
  fun d a0 x st h => fk_w_iloadn 1 [a0, .int x] dX12_hourAt_20 rfl,
  fun d L x y st h => fk_r_imul dX12_hourAt_21,
  fun d L st h => fk_w_iconst dX12_hourAt_22 (by decide),
  fun d L x y st h => fk_r_iadd dX12_hourAt_23,
  fun d L st N y l i hi => fk_g_bald (Or.inl rfl) fk_at_255 fk_ln_255 (by decide) dX12_hourAt_24 hi,
  fun d L st h => fk_w_sipush dX12_hourAt_25 (by decide),
  fun d L x y st h => fk_r_iand dX12_hourAt_28,
  fun d L x y st h => fk_r_ior dX12_hourAt_29,
  fun d L x h => fk_r_ret dX12_hourAt_30 (Or.inl rfl)⟩
theorem dX12_wasThere_0 : decode cX12_wasThere 0 = .ok (.iconst 0, 1) := by decide +kernel
theorem dX12_wasThere_1 : decode cX12_wasThere 1 = .ok (.istore_n 3, 1) := by decide +kernel
theorem dX12_wasThere_2 : decode cX12_wasThere 2 = .ok (.iload_n 3, 1) := by decide +kernel
theorem dX12_wasThere_3 : decode cX12_wasThere 3 = .ok (.iload_n 2, 1) := by decide +kernel
theorem dX12_wasThere_4 : decode cX12_wasThere 4 = .ok (.if_icmp .ge 38, 3) := by decide +kernel
theorem dX12_wasThere_7 : decode cX12_wasThere 7 = .ok (.aload_n 0, 1) := by decide +kernel
theorem dX12_wasThere_8 : decode cX12_wasThere 8 = .ok (.iload_n 1, 1) := by decide +kernel
theorem dX12_wasThere_9 : decode cX12_wasThere 9 = .ok (.aload_n 0, 1) := by decide +kernel
theorem dX12_wasThere_10 : decode cX12_wasThere 10 = .ok (.iload_n 3, 1) := by decide +kernel
theorem dX12_wasThere_11 : decode cX12_wasThere 11 = .ok (.invokevirtual 391, 3) := by decide +kernel
theorem dX12_wasThere_14 : decode cX12_wasThere 14 = .ok (.invokevirtual 343, 3) := by decide +kernel
theorem dX12_wasThere_17 : decode cX12_wasThere 17 = .ok (.aload_n 0, 1) := by decide +kernel
theorem dX12_wasThere_18 : decode cX12_wasThere 18 = .ok (.getfield 35, 3) := by decide +kernel
theorem dX12_wasThere_21 : decode cX12_wasThere 21 = .ok (.iconst 3, 1) := by decide +kernel
theorem dX12_wasThere_22 : decode cX12_wasThere 22 = .ok (.iload_n 3, 1) := by decide +kernel
theorem dX12_wasThere_23 : decode cX12_wasThere 23 = .ok (.imul, 1) := by decide +kernel
theorem dX12_wasThere_24 : decode cX12_wasThere 24 = .ok (.iconst 2, 1) := by decide +kernel
theorem dX12_wasThere_25 : decode cX12_wasThere 25 = .ok (.iadd, 1) := by decide +kernel
theorem dX12_wasThere_26 : decode cX12_wasThere 26 = .ok (.baload, 1) := by decide +kernel
theorem dX12_wasThere_27 : decode cX12_wasThere 27 = .ok (.sipush 255, 3) := by decide +kernel
theorem dX12_wasThere_30 : decode cX12_wasThere 30 = .ok (.iand, 1) := by decide +kernel
theorem dX12_wasThere_31 : decode cX12_wasThere 31 = .ok (.if_icmp .eq 5, 3) := by decide +kernel
theorem dX12_wasThere_34 : decode cX12_wasThere 34 = .ok (.iconst 0, 1) := by decide +kernel
theorem dX12_wasThere_35 : decode cX12_wasThere 35 = .ok (.ireturn, 1) := by decide +kernel
theorem dX12_wasThere_36 : decode cX12_wasThere 36 = .ok (.iinc 3 1, 3) := by decide +kernel
theorem dX12_wasThere_39 : decode cX12_wasThere 39 = .ok (.goto (-37), 3) := by decide +kernel
theorem dX12_wasThere_42 : decode cX12_wasThere 42 = .ok (.iconst 1, 1) := by decide +kernel
theorem dX12_wasThere_43 : decode cX12_wasThere 43 = .ok (.ireturn, 1) := by decide +kernel
theorem rX12_wasThere : (∀ (d : Nat) (L st : List Value) (h : fk_H), fk_ev d qX12_wasThere 0 L st h = fk_ev d qX12_wasThere 1 L (.int (nI 0) :: st) h) ∧
  (∀ (d : Nat) (a0 a1 a2 a3 : Value) (x : Int32) (st : List Value) (h : fk_H), fk_ev d qX12_wasThere 1 [a0, a1, a2, a3] (.int x :: st) h = fk_ev d qX12_wasThere 2 [a0, a1, a2, .int x] st h) ∧
  (∀ (d : Nat) (a0 a1 a3 : Value) (x : Int32) (st : List Value) (h : fk_H), fk_ev d qX12_wasThere 3 [a0, a1, .int x, a3] st h = fk_ev d qX12_wasThere 4 [a0, a1, .int x, a3] (.int x :: st) h) ∧
  (∀ (d : Nat) (L : List Value) (x y : Int32) (st : List Value) (h : fk_H), fk_ev d qX12_wasThere 4 L (.int y :: .int x :: st) h = if y ≤ x then fk_ev d qX12_wasThere 42 L st h else fk_ev d qX12_wasThere 7 L st h) ∧
  (∀ (d : Nat) (a1 a2 a3 : Value) (x : Nat) (st : List Value) (h : fk_H), fk_ev d qX12_wasThere 7 [.ref x, a1, a2, a3] st h = fk_ev d qX12_wasThere 8 [.ref x, a1, a2, a3] (.ref x :: st) h) ∧
  (∀ (d : Nat) (a0 a2 a3 : Value) (x : Int32) (st : List Value) (h : fk_H), fk_ev d qX12_wasThere 8 [a0, .int x, a2, a3] st h = fk_ev d qX12_wasThere 9 [a0, .int x, a2, a3] (.int x :: st) h) ∧
  (∀ (d : Nat) (a1 a2 a3 : Value) (x : Nat) (st : List Value) (h : fk_H), fk_ev d qX12_wasThere 9 [.ref x, a1, a2, a3] st h = fk_ev d qX12_wasThere 10 [.ref x, a1, a2, a3] (.ref x :: st) h) ∧
  (∀ (d : Nat) (a0 a1 a2 : Value) (x : Int32) (st : List Value) (h : fk_H), fk_ev d qX12_wasThere 10 [a0, a1, a2, .int x] st h = fk_ev d qX12_wasThere 11 [a0, a1, a2, .int x] (.int x :: st) h) ∧
  (∀ (d : Nat) (L : List Value) (x0 : Int32) (w0 w1 : Value) (N : Nat) (y : Nat → Nat → Int32) (l : Nat → Nat → Int64), fk_ev (d + 1) qX12_wasThere 11 L (.int x0 :: .ref 246 :: [w0, w1]) (fk_E N y l) = (fk_ev d qX12_hourAt 0 [.ref 246, .int x0] [] (fk_E N y l)).bind fun o => fk_ev (d + 1) qX12_wasThere 14 L (o.1.toList ++ [w0, w1]) o.2) ∧
  (∀ (d : Nat) (L : List Value) (x0 : Int32) (x1 : Int32)  (N : Nat) (y : Nat → Nat → Int32) (l : Nat → Nat → Int64), fk_ev (d + 1) qX12_wasThere 14 L (.int x1 :: .int x0 :: .ref 246 :: []) (fk_E N y l) = (fk_ev d qX12_wasAt 0 [.ref 246, .int x0, .int x1, .null] [] (fk_E N y l)).bind fun o => fk_ev (d + 1) qX12_wasThere 17 L (o.1.toList ++ []) o.2) ∧
  (∀ (d : Nat) (a1 a2 a3 : Value) (x : Nat) (st : List Value) (h : fk_H), fk_ev d qX12_wasThere 17 [.ref x, a1, a2, a3] st h = fk_ev d qX12_wasThere 18 [.ref x, a1, a2, a3] (.ref x :: st) h) ∧
  (∀ (d : Nat) (L st : List Value) (N : Nat) (y : Nat → Nat → Int32) (l : Nat → Nat → Int64), fk_ev d qX12_wasThere 18 L (.ref 246 :: st) (fk_E N y l) = fk_ev d qX12_wasThere 21 L (.ref 255 :: st) (fk_E N y l)) ∧
  (∀ (d : Nat) (L st : List Value) (h : fk_H), fk_ev d qX12_wasThere 21 L st h = fk_ev d qX12_wasThere 22 L (.int (nI 3) :: st) h) ∧
  (∀ (d : Nat) (a0 a1 a2 : Value) (x : Int32) (st : List Value) (h : fk_H), fk_ev d qX12_wasThere 22 [a0, a1, a2, .int x] st h = fk_ev d qX12_wasThere 23 [a0, a1, a2, .int x] (.int x :: st) h) ∧
  (∀ (d : Nat) (L : List Value) (x y : Int32) (st : List Value) (h : fk_H), fk_ev d qX12_wasThere 23 L (.int y :: .int x :: st) h = fk_ev d qX12_wasThere 24 L (.int (x * y) :: st) h) ∧
  (∀ (d : Nat) (L st : List Value) (h : fk_H), fk_ev d qX12_wasThere 24 L st h = fk_ev d qX12_wasThere 25 L (.int (nI 2) :: st) h) ∧
  (∀ (d : Nat) (L : List Value) (x y : Int32) (st : List Value) (h : fk_H), fk_ev d qX12_wasThere 25 L (.int y :: .int x :: st) h = fk_ev d qX12_wasThere 26 L (.int (x + y) :: st) h) ∧
  (∀ (d : Nat) (L st : List Value) (N : Nat) (y : Nat → Nat → Int32) (l : Nat → Nat → Int64) (i : Nat), i < 260 → fk_ev d qX12_wasThere 26 L (.int (nI i) :: .ref 255 :: st) (fk_E N y l) = fk_ev d qX12_wasThere 27 L (.int (y 255 i) :: st) (fk_E N y l)) ∧
  (∀ (d : Nat) (L st : List Value) (h : fk_H), fk_ev d qX12_wasThere 27 L st h = fk_ev d qX12_wasThere 30 L (.int (nI 255) :: st) h) ∧
  (∀ (d : Nat) (L : List Value) (x y : Int32) (st : List Value) (h : fk_H), fk_ev d qX12_wasThere 30 L (.int y :: .int x :: st) h = fk_ev d qX12_wasThere 31 L (.int (x &&& y) :: st) h) ∧
  (∀ (d : Nat) (L : List Value) (x y : Int32) (st : List Value) (h : fk_H), fk_ev d qX12_wasThere 31 L (.int y :: .int x :: st) h = if x = y then fk_ev d qX12_wasThere 36 L st h else fk_ev d qX12_wasThere 34 L st h) ∧
  (∀ (d : Nat) (L st : List Value) (h : fk_H), fk_ev d qX12_wasThere 34 L st h = fk_ev d qX12_wasThere 35 L (.int (nI 0) :: st) h) ∧
  (∀ (d : Nat) (L : List Value) (h : fk_H), fk_ev d qX12_wasThere 35 L [.int (nI 0)] h = some (some (.int (nI 0)), h)) ∧
  (∀ (d : Nat) (L : List Value) (h : fk_H), fk_ev d qX12_wasThere 35 L [.int (nI 1)] h = some (some (.int (nI 1)), h)) ∧
  (∀ (d : Nat) (L : List Value) (p : Prop) [Decidable p] (h : fk_H), fk_ev d qX12_wasThere 35 L [.int (fk_b p)] h = some (some (.int (fk_b p)), h)) ∧
  (∀ (d : Nat) (L : List Value) (x : Int32) (h : fk_H), (x = nI 0 ∨ x = nI 1) → fk_ev d qX12_wasThere 35 L [.int x] h = some (some (.int x), h)) ∧
  (∀ (d : Nat) (a0 a1 a2 : Value) (x : Int32) (st : List Value) (h : fk_H), fk_ev d qX12_wasThere 36 [a0, a1, a2, .int x] st h = fk_ev d qX12_wasThere 39 [a0, a1, a2, .int (x + nI 1)] st h) ∧
  (∀ (d : Nat) (L st : List Value) (h : fk_H), fk_ev d qX12_wasThere 39 L st h = fk_ev d qX12_wasThere 2 L st h) ∧
  (∀ (d : Nat) (L st : List Value) (h : fk_H), fk_ev d qX12_wasThere 42 L st h = fk_ev d qX12_wasThere 43 L (.int (nI 1) :: st) h) ∧
  (∀ (d : Nat) (L : List Value) (h : fk_H), fk_ev d qX12_wasThere 43 L [.int (nI 0)] h = some (some (.int (nI 0)), h)) ∧
  (∀ (d : Nat) (L : List Value) (h : fk_H), fk_ev d qX12_wasThere 43 L [.int (nI 1)] h = some (some (.int (nI 1)), h)) ∧
  (∀ (d : Nat) (L : List Value) (p : Prop) [Decidable p] (h : fk_H), fk_ev d qX12_wasThere 43 L [.int (fk_b p)] h = some (some (.int (fk_b p)), h)) ∧
  (∀ (d : Nat) (L : List Value) (x : Int32) (h : fk_H), (x = nI 0 ∨ x = nI 1) → fk_ev d qX12_wasThere 43 L [.int x] h = some (some (.int x), h)) := ⟨fun d L st h => fk_w_iconst dX12_wasThere_0 (by decide),
  fun d a0 a1 a2 a3 x st h => fk_w_istoren 3 4 [] [a0, a1, a2, a3] [a0, a1, a2, .int x] dX12_wasThere_1 rfl rfl (by decide) rfl,
  fun d a0 a1 a3 x st h => fk_w_iloadn 2 [a0, a1, .int x, a3] dX12_wasThere_3 rfl,
  fun d L x y st h => fk_r_icmp_ge dX12_wasThere_4 (by decide),
  fun d a1 a2 a3 x st h => fk_w_aloadn 0 [.ref x, a1, a2, a3] dX12_wasThere_7 rfl,
  fun d a0 a2 a3 x st h => fk_w_iloadn 1 [a0, .int x, a2, a3] dX12_wasThere_8 rfl,
  fun d a1 a2 a3 x st h => fk_w_aloadn 0 [.ref x, a1, a2, a3] dX12_wasThere_9 rfl,
  fun d a0 a1 a2 x st h => fk_w_iloadn 3 [a0, a1, a2, .int x] dX12_wasThere_10 rfl,
  fun d L x0 w0 w1 N y l  => fk_g_call [.int x0] [w0, w1] rfl lm_12_391 dX12_wasThere_11 rfl ⟨rfl, by decide⟩ (by simp) fk_at_246,
  fun d L x0 x1 N y l  => fk_g_call [.int x0, .int x1] [] rfl lm_12_343 dX12_wasThere_14 rfl ⟨rfl, by decide⟩ (by simp) fk_at_246,
  fun d a1 a2 a3 x st h => fk_w_aloadn 0 [.ref x, a1, a2, a3] dX12_wasThere_17 rfl,
  fun d L st N y l => fk_g_getC rfl lf_12_35 (by decide) rfl dX12_wasThere_18 fk_at_246,
  fun d L st h => fk_w_iconst dX12_wasThere_21 (by decide),
  fun d a0 a1 a2 x st h => fk_w_iloadn 3 [a0, a1, a2, .int x] dX12_wasThere_22 rfl,
  fun d L x y st h => fk_r_imul dX12_wasThere_23,
  fun d L st h => fk_w_iconst dX12_wasThere_24 (by decide),
  fun d L x y st h => fk_r_iadd dX12_wasThere_25,
  fun d L st N y l i hi => fk_g_bald (Or.inl rfl) fk_at_255 fk_ln_255 (by decide) dX12_wasThere_26 hi,
  fun d L st h => fk_w_sipush dX12_wasThere_27 (by decide),
  fun d L x y st h => fk_r_iand dX12_wasThere_30,
  fun d L x y st h => fk_r_icmp_eq dX12_wasThere_31 (by decide),
  fun d L st h => fk_w_iconst dX12_wasThere_34 (by decide),
  fun d L h => fk_r_ret dX12_wasThere_35 (Or.inr (Or.inl ⟨rfl, by decide⟩)),
  fun d L h => fk_r_ret dX12_wasThere_35 (Or.inr (Or.inl ⟨rfl, by decide⟩)),
  fun d L p _ h => fk_r_ret dX12_wasThere_35 (Or.inr (Or.inl ⟨rfl, fk_b_01⟩)),
  fun d L x h hx => fk_r_ret dX12_wasThere_35 (Or.inr (Or.inl ⟨rfl, hx⟩)),
  fun d a0 a1 a2 x st h => fk_w_iinc 3 4 (1) [] [a0, a1, a2, .int x] [a0, a1, a2, .int (x + nI 1)] dX12_wasThere_36 rfl rfl rfl (by decide) rfl,
  fun d L st h => fk_r_goto dX12_wasThere_39 (by decide),
  fun d L st h => fk_w_iconst dX12_wasThere_42 (by decide),
  fun d L h => fk_r_ret dX12_wasThere_43 (Or.inr (Or.inl ⟨rfl, by decide⟩)),
  fun d L h => fk_r_ret dX12_wasThere_43 (Or.inr (Or.inl ⟨rfl, by decide⟩)),
  fun d L p _ h => fk_r_ret dX12_wasThere_43 (Or.inr (Or.inl ⟨rfl, fk_b_01⟩)),
  fun d L x h hx => fk_r_ret dX12_wasThere_43 (Or.inr (Or.inl ⟨rfl, hx⟩))⟩
theorem hX12_wasThere_2 : ∀ (d : Nat) (a0 a1 a2 : Value) (x : Int32) (st : List Value) (h : fk_H), fk_ev d qX12_wasThere 2 [a0, a1, a2, .int x] st h = fk_ev d qX12_wasThere 3 [a0, a1, a2, .int x] (.int x :: st) h := fun d a0 a1 a2 x st h => fk_w_iloadn 3 [a0, a1, a2, .int x] dX12_wasThere_2 rfl
theorem dX12_whoWas_0 : decode cX12_whoWas 0 = .ok (.iload_n 1, 1) := by decide +kernel
theorem dX12_whoWas_1 : decode cX12_whoWas 1 = .ok (.iconst 1, 1) := by decide +kernel
theorem dX12_whoWas_2 : decode cX12_whoWas 2 = .ok (.bipush 8, 2) := by decide +kernel
theorem dX12_whoWas_4 : decode cX12_whoWas 4 = .ok (.invokestatic 112, 3) := by decide +kernel
theorem dX12_whoWas_7 : decode cX12_whoWas 7 = .ok (.ifCond .eq 22, 3) := by decide +kernel
theorem dX12_whoWas_10 : decode cX12_whoWas 10 = .ok (.iload_n 2, 1) := by decide +kernel
theorem dX12_whoWas_11 : decode cX12_whoWas 11 = .ok (.iconst 0, 1) := by decide +kernel
theorem dX12_whoWas_12 : decode cX12_whoWas 12 = .ok (.iconst 1, 1) := by decide +kernel
theorem dX12_whoWas_13 : decode cX12_whoWas 13 = .ok (.invokestatic 112, 3) := by decide +kernel
theorem dX12_whoWas_16 : decode cX12_whoWas 16 = .ok (.ifCond .eq 13, 3) := by decide +kernel
theorem dX12_whoWas_19 : decode cX12_whoWas 19 = .ok (.iconst 3, 1) := by decide +kernel
theorem dX12_whoWas_20 : decode cX12_whoWas 20 = .ok (.iload_n 1, 1) := by decide +kernel
theorem dX12_whoWas_21 : decode cX12_whoWas 21 = .ok (.imul, 1) := by decide +kernel
theorem dX12_whoWas_22 : decode cX12_whoWas 22 = .ok (.aload_n 0, 1) := by decide +kernel
theorem dX12_whoWas_23 : decode cX12_whoWas 23 = .ok (.getfield 148, 3) := by decide +kernel
theorem dX12_whoWas_26 : decode cX12_whoWas 26 = .ok (.if_icmp .le 5, 3) := by decide +kernel
theorem dX12_whoWas_29 : decode cX12_whoWas 29 = .ok (.iconst (-1), 1) := by decide +kernel
theorem dX12_whoWas_30 : decode cX12_whoWas 30 = .ok (.ireturn, 1) := by decide +kernel
theorem dX12_whoWas_31 : decode cX12_whoWas 31 = .ok (.aload_n 0, 1) := by decide +kernel
theorem dX12_whoWas_32 : decode cX12_whoWas 32 = .ok (.iconst 0, 1) := by decide +kernel
theorem dX12_whoWas_33 : decode cX12_whoWas 33 = .ok (.putfield 148, 3) := by decide +kernel
theorem dX12_whoWas_36 : decode cX12_whoWas 36 = .ok (.iconst 0, 1) := by decide +kernel
theorem dX12_whoWas_37 : decode cX12_whoWas 37 = .ok (.istore_n 3, 1) := by decide +kernel
theorem dX12_whoWas_38 : decode cX12_whoWas 38 = .ok (.iload_n 3, 1) := by decide +kernel
theorem dX12_whoWas_39 : decode cX12_whoWas 39 = .ok (.iload_n 1, 1) := by decide +kernel
theorem dX12_whoWas_40 : decode cX12_whoWas 40 = .ok (.if_icmp .ge 44, 3) := by decide +kernel
theorem dX12_whoWas_43 : decode cX12_whoWas 43 = .ok (.aload_n 0, 1) := by decide +kernel
theorem dX12_whoWas_44 : decode cX12_whoWas 44 = .ok (.getfield 35, 3) := by decide +kernel
theorem dX12_whoWas_47 : decode cX12_whoWas 47 = .ok (.iconst 3, 1) := by decide +kernel
theorem dX12_whoWas_48 : decode cX12_whoWas 48 = .ok (.iload_n 3, 1) := by decide +kernel
theorem dX12_whoWas_49 : decode cX12_whoWas 49 = .ok (.imul, 1) := by decide +kernel
theorem dX12_whoWas_50 : decode cX12_whoWas 50 = .ok (.iconst 2, 1) := by decide +kernel
theorem dX12_whoWas_51 : decode cX12_whoWas 51 = .ok (.iadd, 1) := by decide +kernel
theorem dX12_whoWas_52 : decode cX12_whoWas 52 = .ok (.baload, 1) := by decide +kernel
theorem dX12_whoWas_53 : decode cX12_whoWas 53 = .ok (.sipush 255, 3) := by decide +kernel
theorem dX12_whoWas_56 : decode cX12_whoWas 56 = .ok (.iand, 1) := by decide +kernel
theorem dX12_whoWas_57 : decode cX12_whoWas 57 = .ok (.invokestatic 116, 3) := by decide +kernel
theorem dX12_whoWas_60 : decode cX12_whoWas 60 = .ok (.ifCond .eq 15, 3) := by decide +kernel
theorem dX12_whoWas_63 : decode cX12_whoWas 63 = .ok (.aload_n 0, 1) := by decide +kernel
theorem dX12_whoWas_64 : decode cX12_whoWas 64 = .ok (.aload_n 0, 1) := by decide +kernel
theorem dX12_whoWas_65 : decode cX12_whoWas 65 = .ok (.iload_n 3, 1) := by decide +kernel
theorem dX12_whoWas_66 : decode cX12_whoWas 66 = .ok (.invokevirtual 391, 3) := by decide +kernel
theorem dX12_whoWas_69 : decode cX12_whoWas 69 = .ok (.invokevirtual 340, 3) := by decide +kernel
theorem dX12_whoWas_72 : decode cX12_whoWas 72 = .ok (.ifCond .ne 6, 3) := by decide +kernel
theorem dX12_whoWas_75 : decode cX12_whoWas 75 = .ok (.bipush (-2), 2) := by decide +kernel
theorem dX12_whoWas_77 : decode cX12_whoWas 77 = .ok (.ireturn, 1) := by decide +kernel
theorem dX12_whoWas_78 : decode cX12_whoWas 78 = .ok (.iinc 3 1, 3) := by decide +kernel
theorem dX12_whoWas_81 : decode cX12_whoWas 81 = .ok (.goto (-43), 3) := by decide +kernel
theorem dX12_whoWas_84 : decode cX12_whoWas 84 = .ok (.iconst 0, 1) := by decide +kernel
theorem dX12_whoWas_85 : decode cX12_whoWas 85 = .ok (.istore_n 3, 1) := by decide +kernel
theorem dX12_whoWas_86 : decode cX12_whoWas 86 = .ok (.bipush (-2), 2) := by decide +kernel
theorem dX12_whoWas_88 : decode cX12_whoWas 88 = .ok (.istore 4, 2) := by decide +kernel
theorem dX12_whoWas_90 : decode cX12_whoWas 90 = .ok (.iconst 0, 1) := by decide +kernel
theorem dX12_whoWas_91 : decode cX12_whoWas 91 = .ok (.istore 5, 2) := by decide +kernel
theorem dX12_whoWas_93 : decode cX12_whoWas 93 = .ok (.iload 5, 2) := by decide +kernel
theorem dX12_whoWas_95 : decode cX12_whoWas 95 = .ok (.aload_n 0, 1) := by decide +kernel
theorem dX12_whoWas_96 : decode cX12_whoWas 96 = .ok (.getfield 7, 3) := by decide +kernel
theorem dX12_whoWas_99 : decode cX12_whoWas 99 = .ok (.sipush 833, 3) := by decide +kernel
theorem dX12_whoWas_102 : decode cX12_whoWas 102 = .ok (.iaload, 1) := by decide +kernel
theorem dX12_whoWas_103 : decode cX12_whoWas 103 = .ok (.if_icmp .ge 39, 3) := by decide +kernel
theorem dX12_whoWas_106 : decode cX12_whoWas 106 = .ok (.aload_n 0, 1) := by decide +kernel
theorem dX12_whoWas_107 : decode cX12_whoWas 107 = .ok (.iload 5, 2) := by decide +kernel
theorem dX12_whoWas_109 : decode cX12_whoWas 109 = .ok (.iload_n 1, 1) := by decide +kernel
theorem dX12_whoWas_110 : decode cX12_whoWas 110 = .ok (.invokevirtual 394, 3) := by decide +kernel
theorem dX12_whoWas_113 : decode cX12_whoWas 113 = .ok (.ifCond .ne 6, 3) := by decide +kernel
theorem dX12_whoWas_116 : decode cX12_whoWas 116 = .ok (.goto 20, 3) := by decide +kernel
theorem dX12_whoWas_119 : decode cX12_whoWas 119 = .ok (.iload_n 3, 1) := by decide +kernel
theorem dX12_whoWas_120 : decode cX12_whoWas 120 = .ok (.ifCond .ne 8, 3) := by decide +kernel
theorem dX12_whoWas_123 : decode cX12_whoWas 123 = .ok (.iload 5, 2) := by decide +kernel
theorem dX12_whoWas_125 : decode cX12_whoWas 125 = .ok (.goto 5, 3) := by decide +kernel
theorem dX12_whoWas_128 : decode cX12_whoWas 128 = .ok (.iload 4, 2) := by decide +kernel
theorem dX12_whoWas_130 : decode cX12_whoWas 130 = .ok (.istore 4, 2) := by decide +kernel
theorem dX12_whoWas_132 : decode cX12_whoWas 132 = .ok (.iload_n 3, 1) := by decide +kernel
theorem dX12_whoWas_133 : decode cX12_whoWas 133 = .ok (.iconst 1, 1) := by decide +kernel
theorem dX12_whoWas_134 : decode cX12_whoWas 134 = .ok (.iadd, 1) := by decide +kernel
theorem dX12_whoWas_135 : decode cX12_whoWas 135 = .ok (.istore_n 3, 1) := by decide +kernel
theorem dX12_whoWas_136 : decode cX12_whoWas 136 = .ok (.iinc 5 1, 3) := by decide +kernel
theorem dX12_whoWas_139 : decode cX12_whoWas 139 = .ok (.goto (-46), 3) := by decide +kernel
theorem dX12_whoWas_142 : decode cX12_whoWas 142 = .ok (.iload_n 2, 1) := by decide +kernel
theorem dX12_whoWas_143 : decode cX12_whoWas 143 = .ok (.ifCond .ne 7, 3) := by decide +kernel
theorem dX12_whoWas_146 : decode cX12_whoWas 146 = .ok (.iload_n 3, 1) := by decide +kernel
theorem dX12_whoWas_147 : decode cX12_whoWas 147 = .ok (.goto 5, 3) := by decide +kernel
theorem dX12_whoWas_150 : decode cX12_whoWas 150 = .ok (.iload 4, 2) := by decide +kernel
theorem dX12_whoWas_152 : decode cX12_whoWas 152 = .ok (.ireturn, 1) := by decide +kernel
theorem rX12_whoWas : (∀ (d : Nat) (a0 a2 a3 a4 a5 : Value) (x : Int32) (st : List Value) (h : fk_H), fk_ev d qX12_whoWas 0 [a0, .int x, a2, a3, a4, a5] st h = fk_ev d qX12_whoWas 1 [a0, .int x, a2, a3, a4, a5] (.int x :: st) h) ∧
  (∀ (d : Nat) (L st : List Value) (h : fk_H), fk_ev d qX12_whoWas 1 L st h = fk_ev d qX12_whoWas 2 L (.int (nI 1) :: st) h) ∧
  (∀ (d : Nat) (L st : List Value) (h : fk_H), fk_ev d qX12_whoWas 2 L st h = fk_ev d qX12_whoWas 4 L (.int (nI 8) :: st) h) ∧
  (∀ (d : Nat) (L : List Value) (x0 : Int32) (x1 : Int32) (x2 : Int32)  (h : fk_H), fk_ev (d + 1) qX12_whoWas 4 L (.int x2 :: .int x1 :: .int x0 :: []) h = (fk_ev d qX12_in 0 [.int x0, .int x1, .int x2] [] h).bind fun o => fk_ev (d + 1) qX12_whoWas 7 L (o.1.toList ++ []) o.2) ∧
  (∀ (d : Nat) (L : List Value) (x : Int32) (st : List Value) (h : fk_H), fk_ev d qX12_whoWas 7 L (.int x :: st) h = if x = nI 0 then fk_ev d qX12_whoWas 29 L st h else fk_ev d qX12_whoWas 10 L st h) ∧
  (∀ (d : Nat) (a0 a1 a3 a4 a5 : Value) (x : Int32) (st : List Value) (h : fk_H), fk_ev d qX12_whoWas 10 [a0, a1, .int x, a3, a4, a5] st h = fk_ev d qX12_whoWas 11 [a0, a1, .int x, a3, a4, a5] (.int x :: st) h) ∧
  (∀ (d : Nat) (L st : List Value) (h : fk_H), fk_ev d qX12_whoWas 11 L st h = fk_ev d qX12_whoWas 12 L (.int (nI 0) :: st) h) ∧
  (∀ (d : Nat) (L st : List Value) (h : fk_H), fk_ev d qX12_whoWas 12 L st h = fk_ev d qX12_whoWas 13 L (.int (nI 1) :: st) h) ∧
  (∀ (d : Nat) (L : List Value) (x0 : Int32) (x1 : Int32) (x2 : Int32)  (h : fk_H), fk_ev (d + 1) qX12_whoWas 13 L (.int x2 :: .int x1 :: .int x0 :: []) h = (fk_ev d qX12_in 0 [.int x0, .int x1, .int x2] [] h).bind fun o => fk_ev (d + 1) qX12_whoWas 16 L (o.1.toList ++ []) o.2) ∧
  (∀ (d : Nat) (L : List Value) (x : Int32) (st : List Value) (h : fk_H), fk_ev d qX12_whoWas 16 L (.int x :: st) h = if x = nI 0 then fk_ev d qX12_whoWas 29 L st h else fk_ev d qX12_whoWas 19 L st h) ∧
  (∀ (d : Nat) (L st : List Value) (h : fk_H), fk_ev d qX12_whoWas 19 L st h = fk_ev d qX12_whoWas 20 L (.int (nI 3) :: st) h) ∧
  (∀ (d : Nat) (a0 a2 a3 a4 a5 : Value) (x : Int32) (st : List Value) (h : fk_H), fk_ev d qX12_whoWas 20 [a0, .int x, a2, a3, a4, a5] st h = fk_ev d qX12_whoWas 21 [a0, .int x, a2, a3, a4, a5] (.int x :: st) h) ∧
  (∀ (d : Nat) (L : List Value) (x y : Int32) (st : List Value) (h : fk_H), fk_ev d qX12_whoWas 21 L (.int y :: .int x :: st) h = fk_ev d qX12_whoWas 22 L (.int (x * y) :: st) h) ∧
  (∀ (d : Nat) (a1 a2 a3 a4 a5 : Value) (x : Nat) (st : List Value) (h : fk_H), fk_ev d qX12_whoWas 22 [.ref x, a1, a2, a3, a4, a5] st h = fk_ev d qX12_whoWas 23 [.ref x, a1, a2, a3, a4, a5] (.ref x :: st) h) ∧
  (∀ (d : Nat) (L st : List Value) (N : Nat) (y : Nat → Nat → Int32) (l : Nat → Nat → Int64), fk_ev d qX12_whoWas 23 L (.ref 246 :: st) (fk_E N y l) = fk_ev d qX12_whoWas 26 L (.int (y 246 10) :: st) (fk_E N y l)) ∧
  (∀ (d : Nat) (L : List Value) (x y : Int32) (st : List Value) (h : fk_H), fk_ev d qX12_whoWas 26 L (.int y :: .int x :: st) h = if x ≤ y then fk_ev d qX12_whoWas 31 L st h else fk_ev d qX12_whoWas 29 L st h) ∧
  (∀ (d : Nat) (L st : List Value) (h : fk_H), fk_ev d qX12_whoWas 29 L st h = fk_ev d qX12_whoWas 30 L (.int ((-1 : Int32)) :: st) h) ∧
  (∀ (d : Nat) (L : List Value) (x : Int32) (h : fk_H), fk_ev d qX12_whoWas 30 L [.int x] h = some (some (.int x), h)) ∧
  (∀ (d : Nat) (a1 a2 a3 a4 a5 : Value) (x : Nat) (st : List Value) (h : fk_H), fk_ev d qX12_whoWas 31 [.ref x, a1, a2, a3, a4, a5] st h = fk_ev d qX12_whoWas 32 [.ref x, a1, a2, a3, a4, a5] (.ref x :: st) h) ∧
  (∀ (d : Nat) (L st : List Value) (h : fk_H), fk_ev d qX12_whoWas 32 L st h = fk_ev d qX12_whoWas 33 L (.int (nI 0) :: st) h) ∧
  (∀ (d : Nat) (L st : List Value) (N : Nat) (y : Nat → Nat → Int32) (l : Nat → Nat → Int64) (v : Int32), fk_ev d qX12_whoWas 33 L (.int v :: .ref 246 :: st) (fk_E N y l) = fk_ev d qX12_whoWas 36 L st (fk_E N (fk_u y 246 10 v) l)) ∧
  (∀ (d : Nat) (L st : List Value) (h : fk_H), fk_ev d qX12_whoWas 36 L st h = fk_ev d qX12_whoWas 37 L (.int (nI 0) :: st) h) ∧
  (∀ (d : Nat) (a0 a1 a2 a3 a4 a5 : Value) (x : Int32) (st : List Value) (h : fk_H), fk_ev d qX12_whoWas 37 [a0, a1, a2, a3, a4, a5] (.int x :: st) h = fk_ev d qX12_whoWas 38 [a0, a1, a2, .int x, a4, a5] st h) ∧
  (∀ (d : Nat) (a0 a2 a3 a4 a5 : Value) (x : Int32) (st : List Value) (h : fk_H), fk_ev d qX12_whoWas 39 [a0, .int x, a2, a3, a4, a5] st h = fk_ev d qX12_whoWas 40 [a0, .int x, a2, a3, a4, a5] (.int x :: st) h) ∧
  (∀ (d : Nat) (L : List Value) (x y : Int32) (st : List Value) (h : fk_H), fk_ev d qX12_whoWas 40 L (.int y :: .int x :: st) h = if y ≤ x then fk_ev d qX12_whoWas 84 L st h else fk_ev d qX12_whoWas 43 L st h) ∧
  (∀ (d : Nat) (a1 a2 a3 a4 a5 : Value) (x : Nat) (st : List Value) (h : fk_H), fk_ev d qX12_whoWas 43 [.ref x, a1, a2, a3, a4, a5] st h = fk_ev d qX12_whoWas 44 [.ref x, a1, a2, a3, a4, a5] (.ref x :: st) h) ∧
  (∀ (d : Nat) (L st : List Value) (N : Nat) (y : Nat → Nat → Int32) (l : Nat → Nat → Int64), fk_ev d qX12_whoWas 44 L (.ref 246 :: st) (fk_E N y l) = fk_ev d qX12_whoWas 47 L (.ref 255 :: st) (fk_E N y l)) ∧
  (∀ (d : Nat) (L st : List Value) (h : fk_H), fk_ev d qX12_whoWas 47 L st h = fk_ev d qX12_whoWas 48 L (.int (nI 3) :: st) h) ∧
  (∀ (d : Nat) (a0 a1 a2 a4 a5 : Value) (x : Int32) (st : List Value) (h : fk_H), fk_ev d qX12_whoWas 48 [a0, a1, a2, .int x, a4, a5] st h = fk_ev d qX12_whoWas 49 [a0, a1, a2, .int x, a4, a5] (.int x :: st) h) ∧
  (∀ (d : Nat) (L : List Value) (x y : Int32) (st : List Value) (h : fk_H), fk_ev d qX12_whoWas 49 L (.int y :: .int x :: st) h = fk_ev d qX12_whoWas 50 L (.int (x * y) :: st) h) ∧
  (∀ (d : Nat) (L st : List Value) (h : fk_H), fk_ev d qX12_whoWas 50 L st h = fk_ev d qX12_whoWas 51 L (.int (nI 2) :: st) h) ∧
  (∀ (d : Nat) (L : List Value) (x y : Int32) (st : List Value) (h : fk_H), fk_ev d qX12_whoWas 51 L (.int y :: .int x :: st) h = fk_ev d qX12_whoWas 52 L (.int (x + y) :: st) h) ∧
  (∀ (d : Nat) (L st : List Value) (N : Nat) (y : Nat → Nat → Int32) (l : Nat → Nat → Int64) (i : Nat), i < 260 → fk_ev d qX12_whoWas 52 L (.int (nI i) :: .ref 255 :: st) (fk_E N y l) = fk_ev d qX12_whoWas 53 L (.int (y 255 i) :: st) (fk_E N y l)) ∧
  (∀ (d : Nat) (L st : List Value) (h : fk_H), fk_ev d qX12_whoWas 53 L st h = fk_ev d qX12_whoWas 56 L (.int (nI 255) :: st) h) ∧
  (∀ (d : Nat) (L : List Value) (x y : Int32) (st : List Value) (h : fk_H), fk_ev d qX12_whoWas 56 L (.int y :: .int x :: st) h = fk_ev d qX12_whoWas 57 L (.int (x &&& y) :: st) h) ∧
  (∀ (d : Nat) (L : List Value) (x0 : Int32)  (h : fk_H), fk_ev (d + 1) qX12_whoWas 57 L (.int x0 :: []) h = (fk_ev d qX12_isPlace 0 [.int x0] [] h).bind fun o => fk_ev (d + 1) qX12_whoWas 60 L (o.1.toList ++ []) o.2) ∧
  (∀ (d : Nat) (L : List Value) (x : Int32) (st : List Value) (h : fk_H), fk_ev d qX12_whoWas 60 L (.int x :: st) h = if x = nI 0 then fk_ev d qX12_whoWas 75 L st h else fk_ev d qX12_whoWas 63 L st h) ∧
  (∀ (d : Nat) (a1 a2 a3 a4 a5 : Value) (x : Nat) (st : List Value) (h : fk_H), fk_ev d qX12_whoWas 63 [.ref x, a1, a2, a3, a4, a5] st h = fk_ev d qX12_whoWas 64 [.ref x, a1, a2, a3, a4, a5] (.ref x :: st) h) ∧
  (∀ (d : Nat) (a1 a2 a3 a4 a5 : Value) (x : Nat) (st : List Value) (h : fk_H), fk_ev d qX12_whoWas 64 [.ref x, a1, a2, a3, a4, a5] st h = fk_ev d qX12_whoWas 65 [.ref x, a1, a2, a3, a4, a5] (.ref x :: st) h) ∧
  (∀ (d : Nat) (a0 a1 a2 a4 a5 : Value) (x : Int32) (st : List Value) (h : fk_H), fk_ev d qX12_whoWas 65 [a0, a1, a2, .int x, a4, a5] st h = fk_ev d qX12_whoWas 66 [a0, a1, a2, .int x, a4, a5] (.int x :: st) h) ∧
  (∀ (d : Nat) (L : List Value) (x0 : Int32) (w0 : Value) (N : Nat) (y : Nat → Nat → Int32) (l : Nat → Nat → Int64), fk_ev (d + 1) qX12_whoWas 66 L (.int x0 :: .ref 246 :: [w0]) (fk_E N y l) = (fk_ev d qX12_hourAt 0 [.ref 246, .int x0] [] (fk_E N y l)).bind fun o => fk_ev (d + 1) qX12_whoWas 69 L (o.1.toList ++ [w0]) o.2) ∧
  (∀ (d : Nat) (L : List Value) (x0 : Int32)  (N : Nat) (y : Nat → Nat → Int32) (l : Nat → Nat → Int64), fk_ev (d + 1) qX12_whoWas 69 L (.int x0 :: .ref 246 :: []) (fk_E N y l) = (fk_ev d qX12_isRemembered 0 [.ref 246, .int x0] [] (fk_E N y l)).bind fun o => fk_ev (d + 1) qX12_whoWas 72 L (o.1.toList ++ []) o.2) ∧
  (∀ (d : Nat) (L : List Value) (x : Int32) (st : List Value) (h : fk_H), fk_ev d qX12_whoWas 72 L (.int x :: st) h = if ¬ x = nI 0 then fk_ev d qX12_whoWas 78 L st h else fk_ev d qX12_whoWas 75 L st h) ∧
  (∀ (d : Nat) (L st : List Value) (h : fk_H), fk_ev d qX12_whoWas 75 L st h = fk_ev d qX12_whoWas 77 L (.int ((-2 : Int32)) :: st) h) ∧
  (∀ (d : Nat) (L : List Value) (x : Int32) (h : fk_H), fk_ev d qX12_whoWas 77 L [.int x] h = some (some (.int x), h)) ∧
  (∀ (d : Nat) (a0 a1 a2 a4 a5 : Value) (x : Int32) (st : List Value) (h : fk_H), fk_ev d qX12_whoWas 78 [a0, a1, a2, .int x, a4, a5] st h = fk_ev d qX12_whoWas 81 [a0, a1, a2, .int (x + nI 1), a4, a5] st h) ∧
  (∀ (d : Nat) (L st : List Value) (h : fk_H), fk_ev d qX12_whoWas 81 L st h = fk_ev d qX12_whoWas 38 L st h) ∧
  (∀ (d : Nat) (L st : List Value) (h : fk_H), fk_ev d qX12_whoWas 84 L st h = fk_ev d qX12_whoWas 85 L (.int (nI 0) :: st) h) ∧
  (∀ (d : Nat) (a0 a1 a2 a3 a4 a5 : Value) (x : Int32) (st : List Value) (h : fk_H), fk_ev d qX12_whoWas 85 [a0, a1, a2, a3, a4, a5] (.int x :: st) h = fk_ev d qX12_whoWas 86 [a0, a1, a2, .int x, a4, a5] st h) ∧
  (∀ (d : Nat) (L st : List Value) (h : fk_H), fk_ev d qX12_whoWas 86 L st h = fk_ev d qX12_whoWas 88 L (.int ((-2 : Int32)) :: st) h) ∧
  (∀ (d : Nat) (a0 a1 a2 a3 a4 a5 : Value) (x : Int32) (st : List Value) (h : fk_H), fk_ev d qX12_whoWas 88 [a0, a1, a2, a3, a4, a5] (.int x :: st) h = fk_ev d qX12_whoWas 90 [a0, a1, a2, a3, .int x, a5] st h) ∧
  (∀ (d : Nat) (L st : List Value) (h : fk_H), fk_ev d qX12_whoWas 90 L st h = fk_ev d qX12_whoWas 91 L (.int (nI 0) :: st) h) ∧
  (∀ (d : Nat) (a0 a1 a2 a3 a4 a5 : Value) (x : Int32) (st : List Value) (h : fk_H), fk_ev d qX12_whoWas 91 [a0, a1, a2, a3, a4, a5] (.int x :: st) h = fk_ev d qX12_whoWas 93 [a0, a1, a2, a3, a4, .int x] st h) ∧
  (∀ (d : Nat) (a1 a2 a3 a4 a5 : Value) (x : Nat) (st : List Value) (h : fk_H), fk_ev d qX12_whoWas 95 [.ref x, a1, a2, a3, a4, a5] st h = fk_ev d qX12_whoWas 96 [.ref x, a1, a2, a3, a4, a5] (.ref x :: st) h) ∧
  (∀ (d : Nat) (L st : List Value) (N : Nat) (y : Nat → Nat → Int32) (l : Nat → Nat → Int64), fk_ev d qX12_whoWas 96 L (.ref 246 :: st) (fk_E N y l) = fk_ev d qX12_whoWas 99 L (.ref 247 :: st) (fk_E N y l)) ∧
  (∀ (d : Nat) (L st : List Value) (h : fk_H), fk_ev d qX12_whoWas 99 L st h = fk_ev d qX12_whoWas 102 L (.int (nI 833) :: st) h) ∧
  (∀ (d : Nat) (L st : List Value) (N : Nat) (y : Nat → Nat → Int32) (l : Nat → Nat → Int64) (i : Nat), i < 3912 → fk_ev d qX12_whoWas 102 L (.int (nI i) :: .ref 247 :: st) (fk_E N y l) = fk_ev d qX12_whoWas 103 L (.int (y 247 i) :: st) (fk_E N y l)) ∧
  (∀ (d : Nat) (L : List Value) (x y : Int32) (st : List Value) (h : fk_H), fk_ev d qX12_whoWas 103 L (.int y :: .int x :: st) h = if y ≤ x then fk_ev d qX12_whoWas 142 L st h else fk_ev d qX12_whoWas 106 L st h) ∧
  (∀ (d : Nat) (a1 a2 a3 a4 a5 : Value) (x : Nat) (st : List Value) (h : fk_H), fk_ev d qX12_whoWas 106 [.ref x, a1, a2, a3, a4, a5] st h = fk_ev d qX12_whoWas 107 [.ref x, a1, a2, a3, a4, a5] (.ref x :: st) h) ∧
  (∀ (d : Nat) (a0 a1 a2 a3 a4 : Value) (x : Int32) (st : List Value) (h : fk_H), fk_ev d qX12_whoWas 107 [a0, a1, a2, a3, a4, .int x] st h = fk_ev d qX12_whoWas 109 [a0, a1, a2, a3, a4, .int x] (.int x :: st) h) ∧
  (∀ (d : Nat) (a0 a2 a3 a4 a5 : Value) (x : Int32) (st : List Value) (h : fk_H), fk_ev d qX12_whoWas 109 [a0, .int x, a2, a3, a4, a5] st h = fk_ev d qX12_whoWas 110 [a0, .int x, a2, a3, a4, a5] (.int x :: st) h) ∧
  (∀ (d : Nat) (L : List Value) (x0 : Int32) (x1 : Int32)  (N : Nat) (y : Nat → Nat → Int32) (l : Nat → Nat → Int64), fk_ev (d + 1) qX12_whoWas 110 L (.int x1 :: .int x0 :: .ref 246 :: []) (fk_E N y l) = (fk_ev d qX12_wasThere 0 [.ref 246, .int x0, .int x1, .null] [] (fk_E N y l)).bind fun o => fk_ev (d + 1) qX12_whoWas 113 L (o.1.toList ++ []) o.2) ∧
  (∀ (d : Nat) (L : List Value) (x : Int32) (st : List Value) (h : fk_H), fk_ev d qX12_whoWas 113 L (.int x :: st) h = if ¬ x = nI 0 then fk_ev d qX12_whoWas 119 L st h else fk_ev d qX12_whoWas 116 L st h) ∧
  (∀ (d : Nat) (L st : List Value) (h : fk_H), fk_ev d qX12_whoWas 116 L st h = fk_ev d qX12_whoWas 136 L st h) ∧
  (∀ (d : Nat) (a0 a1 a2 a4 a5 : Value) (x : Int32) (st : List Value) (h : fk_H), fk_ev d qX12_whoWas 119 [a0, a1, a2, .int x, a4, a5] st h = fk_ev d qX12_whoWas 120 [a0, a1, a2, .int x, a4, a5] (.int x :: st) h) ∧
  (∀ (d : Nat) (L : List Value) (x : Int32) (st : List Value) (h : fk_H), fk_ev d qX12_whoWas 120 L (.int x :: st) h = if ¬ x = nI 0 then fk_ev d qX12_whoWas 128 L st h else fk_ev d qX12_whoWas 123 L st h) ∧
  (∀ (d : Nat) (a0 a1 a2 a3 a4 : Value) (x : Int32) (st : List Value) (h : fk_H), fk_ev d qX12_whoWas 123 [a0, a1, a2, a3, a4, .int x] st h = fk_ev d qX12_whoWas 125 [a0, a1, a2, a3, a4, .int x] (.int x :: st) h) ∧
  (∀ (d : Nat) (L st : List Value) (h : fk_H), fk_ev d qX12_whoWas 125 L st h = fk_ev d qX12_whoWas 130 L st h) ∧
  (∀ (d : Nat) (a0 a1 a2 a3 a5 : Value) (x : Int32) (st : List Value) (h : fk_H), fk_ev d qX12_whoWas 128 [a0, a1, a2, a3, .int x, a5] st h = fk_ev d qX12_whoWas 130 [a0, a1, a2, a3, .int x, a5] (.int x :: st) h) ∧
  (∀ (d : Nat) (a0 a1 a2 a3 a4 a5 : Value) (x : Int32) (st : List Value) (h : fk_H), fk_ev d qX12_whoWas 130 [a0, a1, a2, a3, a4, a5] (.int x :: st) h = fk_ev d qX12_whoWas 132 [a0, a1, a2, a3, .int x, a5] st h) ∧
  (∀ (d : Nat) (a0 a1 a2 a4 a5 : Value) (x : Int32) (st : List Value) (h : fk_H), fk_ev d qX12_whoWas 132 [a0, a1, a2, .int x, a4, a5] st h = fk_ev d qX12_whoWas 133 [a0, a1, a2, .int x, a4, a5] (.int x :: st) h) ∧
  (∀ (d : Nat) (L st : List Value) (h : fk_H), fk_ev d qX12_whoWas 133 L st h = fk_ev d qX12_whoWas 134 L (.int (nI 1) :: st) h) ∧
  (∀ (d : Nat) (L : List Value) (x y : Int32) (st : List Value) (h : fk_H), fk_ev d qX12_whoWas 134 L (.int y :: .int x :: st) h = fk_ev d qX12_whoWas 135 L (.int (x + y) :: st) h) ∧
  (∀ (d : Nat) (a0 a1 a2 a3 a4 a5 : Value) (x : Int32) (st : List Value) (h : fk_H), fk_ev d qX12_whoWas 135 [a0, a1, a2, a3, a4, a5] (.int x :: st) h = fk_ev d qX12_whoWas 136 [a0, a1, a2, .int x, a4, a5] st h) ∧
  (∀ (d : Nat) (a0 a1 a2 a3 a4 : Value) (x : Int32) (st : List Value) (h : fk_H), fk_ev d qX12_whoWas 136 [a0, a1, a2, a3, a4, .int x] st h = fk_ev d qX12_whoWas 139 [a0, a1, a2, a3, a4, .int (x + nI 1)] st h) ∧
  (∀ (d : Nat) (L st : List Value) (h : fk_H), fk_ev d qX12_whoWas 139 L st h = fk_ev d qX12_whoWas 93 L st h) ∧
  (∀ (d : Nat) (a0 a1 a3 a4 a5 : Value) (x : Int32) (st : List Value) (h : fk_H), fk_ev d qX12_whoWas 142 [a0, a1, .int x, a3, a4, a5] st h = fk_ev d qX12_whoWas 143 [a0, a1, .int x, a3, a4, a5] (.int x :: st) h) ∧
  (∀ (d : Nat) (L : List Value) (x : Int32) (st : List Value) (h : fk_H), fk_ev d qX12_whoWas 143 L (.int x :: st) h = if ¬ x = nI 0 then fk_ev d qX12_whoWas 150 L st h else fk_ev d qX12_whoWas 146 L st h) ∧
  (∀ (d : Nat) (a0 a1 a2 a4 a5 : Value) (x : Int32) (st : List Value) (h : fk_H), fk_ev d qX12_whoWas 146 [a0, a1, a2, .int x, a4, a5] st h = fk_ev d qX12_whoWas 147 [a0, a1, a2, .int x, a4, a5] (.int x :: st) h) ∧
  (∀ (d : Nat) (L st : List Value) (h : fk_H), fk_ev d qX12_whoWas 147 L st h = fk_ev d qX12_whoWas 152 L st h) ∧
  (∀ (d : Nat) (a0 a1 a2 a3 a5 : Value) (x : Int32) (st : List Value) (h : fk_H), fk_ev d qX12_whoWas 150 [a0, a1, a2, a3, .int x, a5] st h = fk_ev d qX12_whoWas 152 [a0, a1, a2, a3, .int x, a5] (.int x :: st) h) ∧
  (∀ (d : Nat) (L : List Value) (x : Int32) (h : fk_H), fk_ev d qX12_whoWas 152 L [.int x] h = some (some (.int x), h)) := ⟨fun d a0 a2 a3 a4 a5 x st h => fk_w_iloadn 1 [a0, .int x, a2, a3, a4, a5] dX12_whoWas_0 rfl,
  fun d L st h => fk_w_iconst dX12_whoWas_1 (by decide),
  fun d L st h => fk_w_bipush dX12_whoWas_2 (by decide),
  fun d L x0 x1 x2 h => fk_g_calls [.int x0, .int x1, .int x2] [] rfl lm_12_112 dX12_whoWas_4 rfl ⟨rfl, by decide⟩ (by simp),
  fun d L x st h => fk_r_if_eq dX12_whoWas_7 (by decide),
  fun d a0 a1 a3 a4 a5 x st h => fk_w_iloadn 2 [a0, a1, .int x, a3, a4, a5] dX12_whoWas_10 rfl,
  fun d L st h => fk_w_iconst dX12_whoWas_11 (by decide),
  fun d L st h => fk_w_iconst dX12_whoWas_12 (by decide),
  fun d L x0 x1 x2 h => fk_g_calls [.int x0, .int x1, .int x2] [] rfl lm_12_112 dX12_whoWas_13 rfl ⟨rfl, by decide⟩ (by simp),
  fun d L x st h => fk_r_if_eq dX12_whoWas_16 (by decide),
  fun d L st h => fk_w_iconst dX12_whoWas_19 (by decide),
  fun d a0 a2 a3 a4 a5 x st h => fk_w_iloadn 1 [a0, .int x, a2, a3, a4, a5] dX12_whoWas_20 rfl,
  fun d L x y st h => fk_r_imul dX12_whoWas_21,
  fun d a1 a2 a3 a4 a5 x st h => fk_w_aloadn 0 [.ref x, a1, a2, a3, a4, a5] dX12_whoWas_22 rfl,
  fun d L st N y l => fk_g_getI rfl lf_12_148 (by decide) dX12_whoWas_23 fk_at_246,
  fun d L x y st h => fk_r_icmp_le dX12_whoWas_26 (by decide),
  fun d L st h => fk_w_iconst dX12_whoWas_29 (by decide),
  fun d L x h => fk_r_ret dX12_whoWas_30 (Or.inl rfl),
  fun d a1 a2 a3 a4 a5 x st h => fk_w_aloadn 0 [.ref x, a1, a2, a3, a4, a5] dX12_whoWas_31 rfl,
  fun d L st h => fk_w_iconst dX12_whoWas_32 (by decide),
  fun d L st N y l v => fk_g_putI rfl lf_12_148 (by decide) dX12_whoWas_33 rfl fk_at_246,
  fun d L st h => fk_w_iconst dX12_whoWas_36 (by decide),
  fun d a0 a1 a2 a3 a4 a5 x st h => fk_w_istoren 3 6 [] [a0, a1, a2, a3, a4, a5] [a0, a1, a2, .int x, a4, a5] dX12_whoWas_37 rfl rfl (by decide) rfl,
  fun d a0 a2 a3 a4 a5 x st h => fk_w_iloadn 1 [a0, .int x, a2, a3, a4, a5] dX12_whoWas_39 rfl,
  fun d L x y st h => fk_r_icmp_ge dX12_whoWas_40 (by decide),
  fun d a1 a2 a3 a4 a5 x st h => fk_w_aloadn 0 [.ref x, a1, a2, a3, a4, a5] dX12_whoWas_43 rfl,
  fun d L st N y l => fk_g_getC rfl lf_12_35 (by decide) rfl dX12_whoWas_44 fk_at_246,
  fun d L st h => fk_w_iconst dX12_whoWas_47 (by decide),
  fun d a0 a1 a2 a4 a5 x st h => fk_w_iloadn 3 [a0, a1, a2, .int x, a4, a5] dX12_whoWas_48 rfl,
  fun d L x y st h => fk_r_imul dX12_whoWas_49,
  fun d L st h => fk_w_iconst dX12_whoWas_50 (by decide),
  fun d L x y st h => fk_r_iadd dX12_whoWas_51,
  fun d L st N y l i hi => fk_g_bald (Or.inl rfl) fk_at_255 fk_ln_255 (by decide) dX12_whoWas_52 hi,
  fun d L st h => fk_w_sipush dX12_whoWas_53 (by decide),
  fun d L x y st h => fk_r_iand dX12_whoWas_56,
  fun d L x0 h => fk_g_calls [.int x0] [] rfl lm_12_116 dX12_whoWas_57 rfl ⟨rfl, by decide⟩ (by simp),
  fun d L x st h => fk_r_if_eq dX12_whoWas_60 (by decide),
  fun d a1 a2 a3 a4 a5 x st h => fk_w_aloadn 0 [.ref x, a1, a2, a3, a4, a5] dX12_whoWas_63 rfl,
  fun d a1 a2 a3 a4 a5 x st h => fk_w_aloadn 0 [.ref x, a1, a2, a3, a4, a5] dX12_whoWas_64 rfl,
  fun d a0 a1 a2 a4 a5 x st h => fk_w_iloadn 3 [a0, a1, a2, .int x, a4, a5] dX12_whoWas_65 rfl,
  fun d L x0 w0 N y l  => fk_g_call [.int x0] [w0] rfl lm_12_391 dX12_whoWas_66 rfl ⟨rfl, by decide⟩ (by simp) fk_at_246,
  fun d L x0 N y l  => fk_g_call [.int x0] [] rfl lm_12_340 dX12_whoWas_69 rfl ⟨rfl, by decide⟩ (by simp) fk_at_246,
  fun d L x st h => fk_r_if_ne dX12_whoWas_72 (by decide),
  fun d L st h => fk_w_bipush dX12_whoWas_75 (by decide),
  fun d L x h => fk_r_ret dX12_whoWas_77 (Or.inl rfl),
  fun d a0 a1 a2 a4 a5 x st h => fk_w_iinc 3 6 (1) [] [a0, a1, a2, .int x, a4, a5] [a0, a1, a2, .int (x + nI 1), a4, a5] dX12_whoWas_78 rfl rfl rfl (by decide) rfl,
  fun d L st h => fk_r_goto dX12_whoWas_81 (by decide),
  fun d L st h => fk_w_iconst dX12_whoWas_84 (by decide),
  fun d a0 a1 a2 a3 a4 a5 x st h => fk_w_istoren 3 6 [] [a0, a1, a2, a3, a4, a5] [a0, a1, a2, .int x, a4, a5] dX12_whoWas_85 rfl rfl (by decide) rfl,
  fun d L st h => fk_w_bipush dX12_whoWas_86 (by decide),
  fun d a0 a1 a2 a3 a4 a5 x st h => fk_w_istore 4 6 [] [a0, a1, a2, a3, a4, a5] [a0, a1, a2, a3, .int x, a5] dX12_whoWas_88 rfl rfl (by decide) rfl,
  fun d L st h => fk_w_iconst dX12_whoWas_90 (by decide),
  fun d a0 a1 a2 a3 a4 a5 x st h => fk_w_istore 5 6 [] [a0, a1, a2, a3, a4, a5] [a0, a1, a2, a3, a4, .int x] dX12_whoWas_91 rfl rfl (by decide) rfl,
  fun d a1 a2 a3 a4 a5 x st h => fk_w_aloadn 0 [.ref x, a1, a2, a3, a4, a5] dX12_whoWas_95 rfl,
  fun d L st N y l => fk_g_getC rfl lf_12_7 (by decide) rfl dX12_whoWas_96 fk_at_246,
  fun d L st h => fk_w_sipush dX12_whoWas_99 (by decide),
  fun d L st N y l i hi => fk_g_iald fk_at_247 fk_ln_247 (by decide) dX12_whoWas_102 hi,
  fun d L x y st h => fk_r_icmp_ge dX12_whoWas_103 (by decide),
  fun d a1 a2 a3 a4 a5 x st h => fk_w_aloadn 0 [.ref x, a1, a2, a3, a4, a5] dX12_whoWas_106 rfl,
  fun d a0 a1 a2 a3 a4 x st h => fk_w_iload 5 [a0, a1, a2, a3, a4, .int x] dX12_whoWas_107 rfl,
  fun d a0 a2 a3 a4 a5 x st h => fk_w_iloadn 1 [a0, .int x, a2, a3, a4, a5] dX12_whoWas_109 rfl,
  fun d L x0 x1 N y l  => fk_g_call [.int x0, .int x1] [] rfl lm_12_394 dX12_whoWas_110 rfl ⟨rfl, by decide⟩ (by simp) fk_at_246,
  fun d L x st h => fk_r_if_ne dX12_whoWas_113 (by decide),
  fun d L st h => fk_r_goto dX12_whoWas_116 (by decide),
  fun d a0 a1 a2 a4 a5 x st h => fk_w_iloadn 3 [a0, a1, a2, .int x, a4, a5] dX12_whoWas_119 rfl,
  fun d L x st h => fk_r_if_ne dX12_whoWas_120 (by decide),
  fun d a0 a1 a2 a3 a4 x st h => fk_w_iload 5 [a0, a1, a2, a3, a4, .int x] dX12_whoWas_123 rfl,
  fun d L st h => fk_r_goto dX12_whoWas_125 (by decide),
  fun d a0 a1 a2 a3 a5 x st h => fk_w_iload 4 [a0, a1, a2, a3, .int x, a5] dX12_whoWas_128 rfl,
  fun d a0 a1 a2 a3 a4 a5 x st h => fk_w_istore 4 6 [] [a0, a1, a2, a3, a4, a5] [a0, a1, a2, a3, .int x, a5] dX12_whoWas_130 rfl rfl (by decide) rfl,
  fun d a0 a1 a2 a4 a5 x st h => fk_w_iloadn 3 [a0, a1, a2, .int x, a4, a5] dX12_whoWas_132 rfl,
  fun d L st h => fk_w_iconst dX12_whoWas_133 (by decide),
  fun d L x y st h => fk_r_iadd dX12_whoWas_134,
  fun d a0 a1 a2 a3 a4 a5 x st h => fk_w_istoren 3 6 [] [a0, a1, a2, a3, a4, a5] [a0, a1, a2, .int x, a4, a5] dX12_whoWas_135 rfl rfl (by decide) rfl,
  fun d a0 a1 a2 a3 a4 x st h => fk_w_iinc 5 6 (1) [] [a0, a1, a2, a3, a4, .int x] [a0, a1, a2, a3, a4, .int (x + nI 1)] dX12_whoWas_136 rfl rfl rfl (by decide) rfl,
  fun d L st h => fk_r_goto dX12_whoWas_139 (by decide),
  fun d a0 a1 a3 a4 a5 x st h => fk_w_iloadn 2 [a0, a1, .int x, a3, a4, a5] dX12_whoWas_142 rfl,
  fun d L x st h => fk_r_if_ne dX12_whoWas_143 (by decide),
  fun d a0 a1 a2 a4 a5 x st h => fk_w_iloadn 3 [a0, a1, a2, .int x, a4, a5] dX12_whoWas_146 rfl,
  fun d L st h => fk_r_goto dX12_whoWas_147 (by decide),
  fun d a0 a1 a2 a3 a5 x st h => fk_w_iload 4 [a0, a1, a2, a3, .int x, a5] dX12_whoWas_150 rfl,
  fun d L x h => fk_r_ret dX12_whoWas_152 (Or.inl rfl)⟩
theorem hX12_whoWas_38 : ∀ (d : Nat) (a0 a1 a2 a4 a5 : Value) (x : Int32) (st : List Value) (h : fk_H), fk_ev d qX12_whoWas 38 [a0, a1, a2, .int x, a4, a5] st h = fk_ev d qX12_whoWas 39 [a0, a1, a2, .int x, a4, a5] (.int x :: st) h := fun d a0 a1 a2 a4 a5 x st h => fk_w_iloadn 3 [a0, a1, a2, .int x, a4, a5] dX12_whoWas_38 rfl
theorem hX12_whoWas_93 : ∀ (d : Nat) (a0 a1 a2 a3 a4 : Value) (x : Int32) (st : List Value) (h : fk_H), fk_ev d qX12_whoWas 93 [a0, a1, a2, a3, a4, .int x] st h = fk_ev d qX12_whoWas 95 [a0, a1, a2, a3, a4, .int x] (.int x :: st) h := fun d a0 a1 a2 a3 a4 x st h => fk_w_iload 5 [a0, a1, a2, a3, a4, .int x] dX12_whoWas_93 rfl
theorem dX12_reachedFrom_0 : decode cX12_reachedFrom 0 = .ok (.iconst 1, 1) := by decide +kernel
theorem dX12_reachedFrom_1 : decode cX12_reachedFrom 1 = .ok (.iload_n 1, 1) := by decide +kernel
theorem dX12_reachedFrom_2 : decode cX12_reachedFrom 2 = .ok (.ishl, 1) := by decide +kernel
theorem dX12_reachedFrom_3 : decode cX12_reachedFrom 3 = .ok (.istore_n 3, 1) := by decide +kernel
theorem dX12_reachedFrom_4 : decode cX12_reachedFrom 4 = .ok (.iconst 0, 1) := by decide +kernel
theorem dX12_reachedFrom_5 : decode cX12_reachedFrom 5 = .ok (.istore 4, 2) := by decide +kernel
theorem dX12_reachedFrom_7 : decode cX12_reachedFrom 7 = .ok (.iload 4, 2) := by decide +kernel
theorem dX12_reachedFrom_9 : decode cX12_reachedFrom 9 = .ok (.iload_n 3, 1) := by decide +kernel
theorem dX12_reachedFrom_10 : decode cX12_reachedFrom 10 = .ok (.if_icmp .eq 74, 3) := by decide +kernel
theorem dX12_reachedFrom_13 : decode cX12_reachedFrom 13 = .ok (.iload_n 3, 1) := by decide +kernel
theorem dX12_reachedFrom_14 : decode cX12_reachedFrom 14 = .ok (.istore 4, 2) := by decide +kernel
theorem dX12_reachedFrom_16 : decode cX12_reachedFrom 16 = .ok (.iconst 0, 1) := by decide +kernel
theorem dX12_reachedFrom_17 : decode cX12_reachedFrom 17 = .ok (.istore 5, 2) := by decide +kernel
theorem dX12_reachedFrom_19 : decode cX12_reachedFrom 19 = .ok (.iload 5, 2) := by decide +kernel
theorem dX12_reachedFrom_21 : decode cX12_reachedFrom 21 = .ok (.bipush 32, 2) := by decide +kernel
theorem dX12_reachedFrom_23 : decode cX12_reachedFrom 23 = .ok (.if_icmp .ge 58, 3) := by decide +kernel
theorem dX12_reachedFrom_26 : decode cX12_reachedFrom 26 = .ok (.aload_n 0, 1) := by decide +kernel
theorem dX12_reachedFrom_27 : decode cX12_reachedFrom 27 = .ok (.iload 5, 2) := by decide +kernel
theorem dX12_reachedFrom_29 : decode cX12_reachedFrom 29 = .ok (.invokevirtual 289, 3) := by decide +kernel
theorem dX12_reachedFrom_32 : decode cX12_reachedFrom 32 = .ok (.ifCond .eq 43, 3) := by decide +kernel
theorem dX12_reachedFrom_35 : decode cX12_reachedFrom 35 = .ok (.iload_n 3, 1) := by decide +kernel
theorem dX12_reachedFrom_36 : decode cX12_reachedFrom 36 = .ok (.aload_n 0, 1) := by decide +kernel
theorem dX12_reachedFrom_37 : decode cX12_reachedFrom 37 = .ok (.getfield 19, 3) := by decide +kernel
theorem dX12_reachedFrom_40 : decode cX12_reachedFrom 40 = .ok (.iload 5, 2) := by decide +kernel
theorem dX12_reachedFrom_42 : decode cX12_reachedFrom 42 = .ok (.iaload, 1) := by decide +kernel
theorem dX12_reachedFrom_43 : decode cX12_reachedFrom 43 = .ok (.invokestatic 108, 3) := by decide +kernel
theorem dX12_reachedFrom_46 : decode cX12_reachedFrom 46 = .ok (.ifCond .eq 29, 3) := by decide +kernel
theorem dX12_reachedFrom_49 : decode cX12_reachedFrom 49 = .ok (.iload_n 2, 1) := by decide +kernel
theorem dX12_reachedFrom_50 : decode cX12_reachedFrom 50 = .ok (.aload_n 0, 1) := by decide +kernel
theorem dX12_reachedFrom_51 : decode cX12_reachedFrom 51 = .ok (.getfield 22, 3) := by decide +kernel
theorem dX12_reachedFrom_54 : decode cX12_reachedFrom 54 = .ok (.iload 5, 2) := by decide +kernel
theorem dX12_reachedFrom_56 : decode cX12_reachedFrom 56 = .ok (.iaload, 1) := by decide +kernel
theorem dX12_reachedFrom_57 : decode cX12_reachedFrom 57 = .ok (.invokestatic 108, 3) := by decide +kernel
theorem dX12_reachedFrom_60 : decode cX12_reachedFrom 60 = .ok (.ifCond .ne 15, 3) := by decide +kernel
theorem dX12_reachedFrom_63 : decode cX12_reachedFrom 63 = .ok (.iload_n 3, 1) := by decide +kernel
theorem dX12_reachedFrom_64 : decode cX12_reachedFrom 64 = .ok (.iconst 1, 1) := by decide +kernel
theorem dX12_reachedFrom_65 : decode cX12_reachedFrom 65 = .ok (.aload_n 0, 1) := by decide +kernel
theorem dX12_reachedFrom_66 : decode cX12_reachedFrom 66 = .ok (.getfield 22, 3) := by decide +kernel
theorem dX12_reachedFrom_69 : decode cX12_reachedFrom 69 = .ok (.iload 5, 2) := by decide +kernel
theorem dX12_reachedFrom_71 : decode cX12_reachedFrom 71 = .ok (.iaload, 1) := by decide +kernel
theorem dX12_reachedFrom_72 : decode cX12_reachedFrom 72 = .ok (.ishl, 1) := by decide +kernel
theorem dX12_reachedFrom_73 : decode cX12_reachedFrom 73 = .ok (.ior, 1) := by decide +kernel
theorem dX12_reachedFrom_74 : decode cX12_reachedFrom 74 = .ok (.istore_n 3, 1) := by decide +kernel
theorem dX12_reachedFrom_75 : decode cX12_reachedFrom 75 = .ok (.iinc 5 1, 3) := by decide +kernel
theorem dX12_reachedFrom_78 : decode cX12_reachedFrom 78 = .ok (.goto (-59), 3) := by decide +kernel
theorem dX12_reachedFrom_81 : decode cX12_reachedFrom 81 = .ok (.goto (-74), 3) := by decide +kernel
theorem dX12_reachedFrom_84 : decode cX12_reachedFrom 84 = .ok (.iload_n 3, 1) := by decide +kernel
theorem dX12_reachedFrom_85 : decode cX12_reachedFrom 85 = .ok (.ireturn, 1) := by decide +kernel
theorem rX12_reachedFrom : (∀ (d : Nat) (L st : List Value) (h : fk_H), fk_ev d qX12_reachedFrom 0 L st h = fk_ev d qX12_reachedFrom 1 L (.int (nI 1) :: st) h) ∧
  (∀ (d : Nat) (a0 a2 a3 a4 a5 : Value) (x : Int32) (st : List Value) (h : fk_H), fk_ev d qX12_reachedFrom 1 [a0, .int x, a2, a3, a4, a5] st h = fk_ev d qX12_reachedFrom 2 [a0, .int x, a2, a3, a4, a5] (.int x :: st) h) ∧
  (∀ (d : Nat) (L : List Value) (x y : Int32) (st : List Value) (h : fk_H), fk_ev d qX12_reachedFrom 2 L (.int y :: .int x :: st) h = fk_ev d qX12_reachedFrom 3 L (.int (x <<< (y &&& 31)) :: st) h) ∧
  (∀ (d : Nat) (a0 a1 a2 a3 a4 a5 : Value) (x : Int32) (st : List Value) (h : fk_H), fk_ev d qX12_reachedFrom 3 [a0, a1, a2, a3, a4, a5] (.int x :: st) h = fk_ev d qX12_reachedFrom 4 [a0, a1, a2, .int x, a4, a5] st h) ∧
  (∀ (d : Nat) (L st : List Value) (h : fk_H), fk_ev d qX12_reachedFrom 4 L st h = fk_ev d qX12_reachedFrom 5 L (.int (nI 0) :: st) h) ∧
  (∀ (d : Nat) (a0 a1 a2 a3 a4 a5 : Value) (x : Int32) (st : List Value) (h : fk_H), fk_ev d qX12_reachedFrom 5 [a0, a1, a2, a3, a4, a5] (.int x :: st) h = fk_ev d qX12_reachedFrom 7 [a0, a1, a2, a3, .int x, a5] st h) ∧
  (∀ (d : Nat) (a0 a1 a2 a4 a5 : Value) (x : Int32) (st : List Value) (h : fk_H), fk_ev d qX12_reachedFrom 9 [a0, a1, a2, .int x, a4, a5] st h = fk_ev d qX12_reachedFrom 10 [a0, a1, a2, .int x, a4, a5] (.int x :: st) h) ∧
  (∀ (d : Nat) (L : List Value) (x y : Int32) (st : List Value) (h : fk_H), fk_ev d qX12_reachedFrom 10 L (.int y :: .int x :: st) h = if x = y then fk_ev d qX12_reachedFrom 84 L st h else fk_ev d qX12_reachedFrom 13 L st h) ∧
  (∀ (d : Nat) (a0 a1 a2 a4 a5 : Value) (x : Int32) (st : List Value) (h : fk_H), fk_ev d qX12_reachedFrom 13 [a0, a1, a2, .int x, a4, a5] st h = fk_ev d qX12_reachedFrom 14 [a0, a1, a2, .int x, a4, a5] (.int x :: st) h) ∧
  (∀ (d : Nat) (a0 a1 a2 a3 a4 a5 : Value) (x : Int32) (st : List Value) (h : fk_H), fk_ev d qX12_reachedFrom 14 [a0, a1, a2, a3, a4, a5] (.int x :: st) h = fk_ev d qX12_reachedFrom 16 [a0, a1, a2, a3, .int x, a5] st h) ∧
  (∀ (d : Nat) (L st : List Value) (h : fk_H), fk_ev d qX12_reachedFrom 16 L st h = fk_ev d qX12_reachedFrom 17 L (.int (nI 0) :: st) h) ∧
  (∀ (d : Nat) (a0 a1 a2 a3 a4 a5 : Value) (x : Int32) (st : List Value) (h : fk_H), fk_ev d qX12_reachedFrom 17 [a0, a1, a2, a3, a4, a5] (.int x :: st) h = fk_ev d qX12_reachedFrom 19 [a0, a1, a2, a3, a4, .int x] st h) ∧
  (∀ (d : Nat) (L st : List Value) (h : fk_H), fk_ev d qX12_reachedFrom 21 L st h = fk_ev d qX12_reachedFrom 23 L (.int (nI 32) :: st) h) ∧
  (∀ (d : Nat) (L : List Value) (x y : Int32) (st : List Value) (h : fk_H), fk_ev d qX12_reachedFrom 23 L (.int y :: .int x :: st) h = if y ≤ x then fk_ev d qX12_reachedFrom 81 L st h else fk_ev d qX12_reachedFrom 26 L st h) ∧
  (∀ (d : Nat) (a1 a2 a3 a4 a5 : Value) (x : Nat) (st : List Value) (h : fk_H), fk_ev d qX12_reachedFrom 26 [.ref x, a1, a2, a3, a4, a5] st h = fk_ev d qX12_reachedFrom 27 [.ref x, a1, a2, a3, a4, a5] (.ref x :: st) h) ∧
  (∀ (d : Nat) (a0 a1 a2 a3 a4 : Value) (x : Int32) (st : List Value) (h : fk_H), fk_ev d qX12_reachedFrom 27 [a0, a1, a2, a3, a4, .int x] st h = fk_ev d qX12_reachedFrom 29 [a0, a1, a2, a3, a4, .int x] (.int x :: st) h) ∧
  (∀ (d : Nat) (L : List Value) (x0 : Int32)  (N : Nat) (y : Nat → Nat → Int32) (l : Nat → Nat → Int64), fk_ev (d + 1) qX12_reachedFrom 29 L (.int x0 :: .ref 246 :: []) (fk_E N y l) = (fk_ev d qX12_isRoad 0 [.ref 246, .int x0] [] (fk_E N y l)).bind fun o => fk_ev (d + 1) qX12_reachedFrom 32 L (o.1.toList ++ []) o.2) ∧
  (∀ (d : Nat) (L : List Value) (x : Int32) (st : List Value) (h : fk_H), fk_ev d qX12_reachedFrom 32 L (.int x :: st) h = if x = nI 0 then fk_ev d qX12_reachedFrom 75 L st h else fk_ev d qX12_reachedFrom 35 L st h) ∧
  (∀ (d : Nat) (a0 a1 a2 a4 a5 : Value) (x : Int32) (st : List Value) (h : fk_H), fk_ev d qX12_reachedFrom 35 [a0, a1, a2, .int x, a4, a5] st h = fk_ev d qX12_reachedFrom 36 [a0, a1, a2, .int x, a4, a5] (.int x :: st) h) ∧
  (∀ (d : Nat) (a1 a2 a3 a4 a5 : Value) (x : Nat) (st : List Value) (h : fk_H), fk_ev d qX12_reachedFrom 36 [.ref x, a1, a2, a3, a4, a5] st h = fk_ev d qX12_reachedFrom 37 [.ref x, a1, a2, a3, a4, a5] (.ref x :: st) h) ∧
  (∀ (d : Nat) (L st : List Value) (N : Nat) (y : Nat → Nat → Int32) (l : Nat → Nat → Int64), fk_ev d qX12_reachedFrom 37 L (.ref 246 :: st) (fk_E N y l) = fk_ev d qX12_reachedFrom 40 L (.ref 250 :: st) (fk_E N y l)) ∧
  (∀ (d : Nat) (a0 a1 a2 a3 a4 : Value) (x : Int32) (st : List Value) (h : fk_H), fk_ev d qX12_reachedFrom 40 [a0, a1, a2, a3, a4, .int x] st h = fk_ev d qX12_reachedFrom 42 [a0, a1, a2, a3, a4, .int x] (.int x :: st) h) ∧
  (∀ (d : Nat) (L st : List Value) (N : Nat) (y : Nat → Nat → Int32) (l : Nat → Nat → Int64) (i : Nat), i < 32 → fk_ev d qX12_reachedFrom 42 L (.int (nI i) :: .ref 250 :: st) (fk_E N y l) = fk_ev d qX12_reachedFrom 43 L (.int (y 250 i) :: st) (fk_E N y l)) ∧
  (∀ (d : Nat) (L : List Value) (x0 : Int32) (x1 : Int32)  (h : fk_H), fk_ev (d + 1) qX12_reachedFrom 43 L (.int x1 :: .int x0 :: []) h = (fk_ev d qX12_has 0 [.int x0, .int x1] [] h).bind fun o => fk_ev (d + 1) qX12_reachedFrom 46 L (o.1.toList ++ []) o.2) ∧
  (∀ (d : Nat) (L : List Value) (x : Int32) (st : List Value) (h : fk_H), fk_ev d qX12_reachedFrom 46 L (.int x :: st) h = if x = nI 0 then fk_ev d qX12_reachedFrom 75 L st h else fk_ev d qX12_reachedFrom 49 L st h) ∧
  (∀ (d : Nat) (a0 a1 a3 a4 a5 : Value) (x : Int32) (st : List Value) (h : fk_H), fk_ev d qX12_reachedFrom 49 [a0, a1, .int x, a3, a4, a5] st h = fk_ev d qX12_reachedFrom 50 [a0, a1, .int x, a3, a4, a5] (.int x :: st) h) ∧
  (∀ (d : Nat) (a1 a2 a3 a4 a5 : Value) (x : Nat) (st : List Value) (h : fk_H), fk_ev d qX12_reachedFrom 50 [.ref x, a1, a2, a3, a4, a5] st h = fk_ev d qX12_reachedFrom 51 [.ref x, a1, a2, a3, a4, a5] (.ref x :: st) h) ∧
  (∀ (d : Nat) (L st : List Value) (N : Nat) (y : Nat → Nat → Int32) (l : Nat → Nat → Int64), fk_ev d qX12_reachedFrom 51 L (.ref 246 :: st) (fk_E N y l) = fk_ev d qX12_reachedFrom 54 L (.ref 251 :: st) (fk_E N y l)) ∧
  (∀ (d : Nat) (a0 a1 a2 a3 a4 : Value) (x : Int32) (st : List Value) (h : fk_H), fk_ev d qX12_reachedFrom 54 [a0, a1, a2, a3, a4, .int x] st h = fk_ev d qX12_reachedFrom 56 [a0, a1, a2, a3, a4, .int x] (.int x :: st) h) ∧
  (∀ (d : Nat) (L st : List Value) (N : Nat) (y : Nat → Nat → Int32) (l : Nat → Nat → Int64) (i : Nat), i < 32 → fk_ev d qX12_reachedFrom 56 L (.int (nI i) :: .ref 251 :: st) (fk_E N y l) = fk_ev d qX12_reachedFrom 57 L (.int (y 251 i) :: st) (fk_E N y l)) ∧
  (∀ (d : Nat) (L : List Value) (x0 : Int32) (x1 : Int32)  (h : fk_H), fk_ev (d + 1) qX12_reachedFrom 57 L (.int x1 :: .int x0 :: []) h = (fk_ev d qX12_has 0 [.int x0, .int x1] [] h).bind fun o => fk_ev (d + 1) qX12_reachedFrom 60 L (o.1.toList ++ []) o.2) ∧
  (∀ (d : Nat) (L : List Value) (x : Int32) (st : List Value) (h : fk_H), fk_ev d qX12_reachedFrom 60 L (.int x :: st) h = if ¬ x = nI 0 then fk_ev d qX12_reachedFrom 75 L st h else fk_ev d qX12_reachedFrom 63 L st h) ∧
  (∀ (d : Nat) (a0 a1 a2 a4 a5 : Value) (x : Int32) (st : List Value) (h : fk_H), fk_ev d qX12_reachedFrom 63 [a0, a1, a2, .int x, a4, a5] st h = fk_ev d qX12_reachedFrom 64 [a0, a1, a2, .int x, a4, a5] (.int x :: st) h) ∧
  (∀ (d : Nat) (L st : List Value) (h : fk_H), fk_ev d qX12_reachedFrom 64 L st h = fk_ev d qX12_reachedFrom 65 L (.int (nI 1) :: st) h) ∧
  (∀ (d : Nat) (a1 a2 a3 a4 a5 : Value) (x : Nat) (st : List Value) (h : fk_H), fk_ev d qX12_reachedFrom 65 [.ref x, a1, a2, a3, a4, a5] st h = fk_ev d qX12_reachedFrom 66 [.ref x, a1, a2, a3, a4, a5] (.ref x :: st) h) ∧
  (∀ (d : Nat) (L st : List Value) (N : Nat) (y : Nat → Nat → Int32) (l : Nat → Nat → Int64), fk_ev d qX12_reachedFrom 66 L (.ref 246 :: st) (fk_E N y l) = fk_ev d qX12_reachedFrom 69 L (.ref 251 :: st) (fk_E N y l)) ∧
  (∀ (d : Nat) (a0 a1 a2 a3 a4 : Value) (x : Int32) (st : List Value) (h : fk_H), fk_ev d qX12_reachedFrom 69 [a0, a1, a2, a3, a4, .int x] st h = fk_ev d qX12_reachedFrom 71 [a0, a1, a2, a3, a4, .int x] (.int x :: st) h) ∧
  (∀ (d : Nat) (L st : List Value) (N : Nat) (y : Nat → Nat → Int32) (l : Nat → Nat → Int64) (i : Nat), i < 32 → fk_ev d qX12_reachedFrom 71 L (.int (nI i) :: .ref 251 :: st) (fk_E N y l) = fk_ev d qX12_reachedFrom 72 L (.int (y 251 i) :: st) (fk_E N y l)) ∧
  (∀ (d : Nat) (L : List Value) (x y : Int32) (st : List Value) (h : fk_H), fk_ev d qX12_reachedFrom 72 L (.int y :: .int x :: st) h = fk_ev d qX12_reachedFrom 73 L (.int (x <<< (y &&& 31)) :: st) h) ∧
  (∀ (d : Nat) (L : List Value) (x y : Int32) (st : List Value) (h : fk_H), fk_ev d qX12_reachedFrom 73 L (.int y :: .int x :: st) h = fk_ev d qX12_reachedFrom 74 L (.int (x ||| y) :: st) h) ∧
  (∀ (d : Nat) (a0 a1 a2 a3 a4 a5 : Value) (x : Int32) (st : List Value) (h : fk_H), fk_ev d qX12_reachedFrom 74 [a0, a1, a2, a3, a4, a5] (.int x :: st) h = fk_ev d qX12_reachedFrom 75 [a0, a1, a2, .int x, a4, a5] st h) ∧
  (∀ (d : Nat) (a0 a1 a2 a3 a4 : Value) (x : Int32) (st : List Value) (h : fk_H), fk_ev d qX12_reachedFrom 75 [a0, a1, a2, a3, a4, .int x] st h = fk_ev d qX12_reachedFrom 78 [a0, a1, a2, a3, a4, .int (x + nI 1)] st h) ∧
  (∀ (d : Nat) (L st : List Value) (h : fk_H), fk_ev d qX12_reachedFrom 78 L st h = fk_ev d qX12_reachedFrom 19 L st h) ∧
  (∀ (d : Nat) (L st : List Value) (h : fk_H), fk_ev d qX12_reachedFrom 81 L st h = fk_ev d qX12_reachedFrom 7 L st h) ∧
  (∀ (d : Nat) (a0 a1 a2 a4 a5 : Value) (x : Int32) (st : List Value) (h : fk_H), fk_ev d qX12_reachedFrom 84 [a0, a1, a2, .int x, a4, a5] st h = fk_ev d qX12_reachedFrom 85 [a0, a1, a2, .int x, a4, a5] (.int x :: st) h) ∧
  (∀ (d : Nat) (L : List Value) (x : Int32) (h : fk_H), fk_ev d qX12_reachedFrom 85 L [.int x] h = some (some (.int x), h)) := ⟨fun d L st h => fk_w_iconst dX12_reachedFrom_0 (by decide),
  fun d a0 a2 a3 a4 a5 x st h => fk_w_iloadn 1 [a0, .int x, a2, a3, a4, a5] dX12_reachedFrom_1 rfl,
  fun d L x y st h => fk_r_ishl dX12_reachedFrom_2,
  fun d a0 a1 a2 a3 a4 a5 x st h => fk_w_istoren 3 6 [] [a0, a1, a2, a3, a4, a5] [a0, a1, a2, .int x, a4, a5] dX12_reachedFrom_3 rfl rfl (by decide) rfl,
  fun d L st h => fk_w_iconst dX12_reachedFrom_4 (by decide),
  fun d a0 a1 a2 a3 a4 a5 x st h => fk_w_istore 4 6 [] [a0, a1, a2, a3, a4, a5] [a0, a1, a2, a3, .int x, a5] dX12_reachedFrom_5 rfl rfl (by decide) rfl,
  fun d a0 a1 a2 a4 a5 x st h => fk_w_iloadn 3 [a0, a1, a2, .int x, a4, a5] dX12_reachedFrom_9 rfl,
  fun d L x y st h => fk_r_icmp_eq dX12_reachedFrom_10 (by decide),
  fun d a0 a1 a2 a4 a5 x st h => fk_w_iloadn 3 [a0, a1, a2, .int x, a4, a5] dX12_reachedFrom_13 rfl,
  fun d a0 a1 a2 a3 a4 a5 x st h => fk_w_istore 4 6 [] [a0, a1, a2, a3, a4, a5] [a0, a1, a2, a3, .int x, a5] dX12_reachedFrom_14 rfl rfl (by decide) rfl,
  fun d L st h => fk_w_iconst dX12_reachedFrom_16 (by decide),
  fun d a0 a1 a2 a3 a4 a5 x st h => fk_w_istore 5 6 [] [a0, a1, a2, a3, a4, a5] [a0, a1, a2, a3, a4, .int x] dX12_reachedFrom_17 rfl rfl (by decide) rfl,
  fun d L st h => fk_w_bipush dX12_reachedFrom_21 (by decide),
  fun d L x y st h => fk_r_icmp_ge dX12_reachedFrom_23 (by decide),
  fun d a1 a2 a3 a4 a5 x st h => fk_w_aloadn 0 [.ref x, a1, a2, a3, a4, a5] dX12_reachedFrom_26 rfl,
  fun d a0 a1 a2 a3 a4 x st h => fk_w_iload 5 [a0, a1, a2, a3, a4, .int x] dX12_reachedFrom_27 rfl,
  fun d L x0 N y l  => fk_g_call [.int x0] [] rfl lm_12_289 dX12_reachedFrom_29 rfl ⟨rfl, by decide⟩ (by simp) fk_at_246,
  fun d L x st h => fk_r_if_eq dX12_reachedFrom_32 (by decide),
  fun d a0 a1 a2 a4 a5 x st h => fk_w_iloadn 3 [a0, a1, a2, .int x, a4, a5] dX12_reachedFrom_35 rfl,
  fun d a1 a2 a3 a4 a5 x st h => fk_w_aloadn 0 [.ref x, a1, a2, a3, a4, a5] dX12_reachedFrom_36 rfl,
  fun d L st N y l => fk_g_getC rfl lf_12_19 (by decide) rfl dX12_reachedFrom_37 fk_at_246,
  fun d a0 a1 a2 a3 a4 x st h => fk_w_iload 5 [a0, a1, a2, a3, a4, .int x] dX12_reachedFrom_40 rfl,
  fun d L st N y l i hi => fk_g_iald fk_at_250 fk_ln_250 (by decide) dX12_reachedFrom_42 hi,
  fun d L x0 x1 h => fk_g_calls [.int x0, .int x1] [] rfl lm_12_108 dX12_reachedFrom_43 rfl ⟨rfl, by decide⟩ (by simp),
  fun d L x st h => fk_r_if_eq dX12_reachedFrom_46 (by decide),
  fun d a0 a1 a3 a4 a5 x st h => fk_w_iloadn 2 [a0, a1, .int x, a3, a4, a5] dX12_reachedFrom_49 rfl,
  fun d a1 a2 a3 a4 a5 x st h => fk_w_aloadn 0 [.ref x, a1, a2, a3, a4, a5] dX12_reachedFrom_50 rfl,
  fun d L st N y l => fk_g_getC rfl lf_12_22 (by decide) rfl dX12_reachedFrom_51 fk_at_246,
  fun d a0 a1 a2 a3 a4 x st h => fk_w_iload 5 [a0, a1, a2, a3, a4, .int x] dX12_reachedFrom_54 rfl,
  fun d L st N y l i hi => fk_g_iald fk_at_251 fk_ln_251 (by decide) dX12_reachedFrom_56 hi,
  fun d L x0 x1 h => fk_g_calls [.int x0, .int x1] [] rfl lm_12_108 dX12_reachedFrom_57 rfl ⟨rfl, by decide⟩ (by simp),
  fun d L x st h => fk_r_if_ne dX12_reachedFrom_60 (by decide),
  fun d a0 a1 a2 a4 a5 x st h => fk_w_iloadn 3 [a0, a1, a2, .int x, a4, a5] dX12_reachedFrom_63 rfl,
  fun d L st h => fk_w_iconst dX12_reachedFrom_64 (by decide),
  fun d a1 a2 a3 a4 a5 x st h => fk_w_aloadn 0 [.ref x, a1, a2, a3, a4, a5] dX12_reachedFrom_65 rfl,
  fun d L st N y l => fk_g_getC rfl lf_12_22 (by decide) rfl dX12_reachedFrom_66 fk_at_246,
  fun d a0 a1 a2 a3 a4 x st h => fk_w_iload 5 [a0, a1, a2, a3, a4, .int x] dX12_reachedFrom_69 rfl,
  fun d L st N y l i hi => fk_g_iald fk_at_251 fk_ln_251 (by decide) dX12_reachedFrom_71 hi,
  fun d L x y st h => fk_r_ishl dX12_reachedFrom_72,
  fun d L x y st h => fk_r_ior dX12_reachedFrom_73,
  fun d a0 a1 a2 a3 a4 a5 x st h => fk_w_istoren 3 6 [] [a0, a1, a2, a3, a4, a5] [a0, a1, a2, .int x, a4, a5] dX12_reachedFrom_74 rfl rfl (by decide) rfl,
  fun d a0 a1 a2 a3 a4 x st h => fk_w_iinc 5 6 (1) [] [a0, a1, a2, a3, a4, .int x] [a0, a1, a2, a3, a4, .int (x + nI 1)] dX12_reachedFrom_75 rfl rfl rfl (by decide) rfl,
  fun d L st h => fk_r_goto dX12_reachedFrom_78 (by decide),
  fun d L st h => fk_r_goto dX12_reachedFrom_81 (by decide),
  fun d a0 a1 a2 a4 a5 x st h => fk_w_iloadn 3 [a0, a1, a2, .int x, a4, a5] dX12_reachedFrom_84 rfl,
  fun d L x h => fk_r_ret dX12_reachedFrom_85 (Or.inl rfl)⟩
theorem hX12_reachedFrom_7 : ∀ (d : Nat) (a0 a1 a2 a3 a5 : Value) (x : Int32) (st : List Value) (h : fk_H), fk_ev d qX12_reachedFrom 7 [a0, a1, a2, a3, .int x, a5] st h = fk_ev d qX12_reachedFrom 9 [a0, a1, a2, a3, .int x, a5] (.int x :: st) h := fun d a0 a1 a2 a3 a5 x st h => fk_w_iload 4 [a0, a1, a2, a3, .int x, a5] dX12_reachedFrom_7 rfl
theorem hX12_reachedFrom_19 : ∀ (d : Nat) (a0 a1 a2 a3 a4 : Value) (x : Int32) (st : List Value) (h : fk_H), fk_ev d qX12_reachedFrom 19 [a0, a1, a2, a3, a4, .int x] st h = fk_ev d qX12_reachedFrom 21 [a0, a1, a2, a3, a4, .int x] (.int x :: st) h := fun d a0 a1 a2 a3 a4 x st h => fk_w_iload 5 [a0, a1, a2, a3, a4, .int x] dX12_reachedFrom_19 rfl
theorem dX12_meet_0 : decode cX12_meet 0 = .ok (.iload_n 1, 1) := by decide +kernel
theorem dX12_meet_1 : decode cX12_meet 1 = .ok (.invokestatic 132, 3) := by decide +kernel
theorem dX12_meet_4 : decode cX12_meet 4 = .ok (.ifCond .ne 5, 3) := by decide +kernel
theorem dX12_meet_7 : decode cX12_meet 7 = .ok (.iconst (-1), 1) := by decide +kernel
theorem dX12_meet_8 : decode cX12_meet 8 = .ok (.ireturn, 1) := by decide +kernel
theorem dX12_meet_9 : decode cX12_meet 9 = .ok (.ldc_w 360, 3) := by decide +kernel
theorem dX12_meet_12 : decode cX12_meet 12 = .ok (.istore_n 2, 1) := by decide +kernel
theorem dX12_meet_13 : decode cX12_meet 13 = .ok (.iconst 0, 1) := by decide +kernel
theorem dX12_meet_14 : decode cX12_meet 14 = .ok (.istore_n 3, 1) := by decide +kernel
theorem dX12_meet_15 : decode cX12_meet 15 = .ok (.iload_n 3, 1) := by decide +kernel
theorem dX12_meet_16 : decode cX12_meet 16 = .ok (.aload_n 0, 1) := by decide +kernel
theorem dX12_meet_17 : decode cX12_meet 17 = .ok (.getfield 7, 3) := by decide +kernel
theorem dX12_meet_20 : decode cX12_meet 20 = .ok (.sipush 833, 3) := by decide +kernel
theorem dX12_meet_23 : decode cX12_meet 23 = .ok (.iaload, 1) := by decide +kernel
theorem dX12_meet_24 : decode cX12_meet 24 = .ok (.if_icmp .ge 78, 3) := by decide +kernel
theorem dX12_meet_27 : decode cX12_meet 27 = .ok (.aload_n 0, 1) := by decide +kernel
theorem dX12_meet_28 : decode cX12_meet 28 = .ok (.iload_n 3, 1) := by decide +kernel
theorem dX12_meet_29 : decode cX12_meet 29 = .ok (.invokevirtual 126, 3) := by decide +kernel
theorem dX12_meet_32 : decode cX12_meet 32 = .ok (.ifCond .eq 64, 3) := by decide +kernel
theorem dX12_meet_35 : decode cX12_meet 35 = .ok (.aload_n 0, 1) := by decide +kernel
theorem dX12_meet_36 : decode cX12_meet 36 = .ok (.getfield 7, 3) := by decide +kernel
theorem dX12_meet_39 : decode cX12_meet 39 = .ok (.iconst 0, 1) := by decide +kernel
theorem dX12_meet_40 : decode cX12_meet 40 = .ok (.iload_n 3, 1) := by decide +kernel
theorem dX12_meet_41 : decode cX12_meet 41 = .ok (.iadd, 1) := by decide +kernel
theorem dX12_meet_42 : decode cX12_meet 42 = .ok (.iaload, 1) := by decide +kernel
theorem dX12_meet_43 : decode cX12_meet 43 = .ok (.iload_n 1, 1) := by decide +kernel
theorem dX12_meet_44 : decode cX12_meet 44 = .ok (.if_icmp .ne 52, 3) := by decide +kernel
theorem dX12_meet_47 : decode cX12_meet 47 = .ok (.iload_n 2, 1) := by decide +kernel
theorem dX12_meet_48 : decode cX12_meet 48 = .ok (.aload_n 0, 1) := by decide +kernel
theorem dX12_meet_49 : decode cX12_meet 49 = .ok (.aload_n 0, 1) := by decide +kernel
theorem dX12_meet_50 : decode cX12_meet 50 = .ok (.getfield 7, 3) := by decide +kernel
theorem dX12_meet_53 : decode cX12_meet 53 = .ok (.sipush 320, 3) := by decide +kernel
theorem dX12_meet_56 : decode cX12_meet 56 = .ok (.iload_n 3, 1) := by decide +kernel
theorem dX12_meet_57 : decode cX12_meet 57 = .ok (.iadd, 1) := by decide +kernel
theorem dX12_meet_58 : decode cX12_meet 58 = .ok (.iaload, 1) := by decide +kernel
theorem dX12_meet_59 : decode cX12_meet 59 = .ok (.ifCond .lt 16, 3) := by decide +kernel
theorem dX12_meet_62 : decode cX12_meet 62 = .ok (.aload_n 0, 1) := by decide +kernel
theorem dX12_meet_63 : decode cX12_meet 63 = .ok (.getfield 7, 3) := by decide +kernel
theorem dX12_meet_66 : decode cX12_meet 66 = .ok (.sipush 320, 3) := by decide +kernel
theorem dX12_meet_69 : decode cX12_meet 69 = .ok (.iload_n 3, 1) := by decide +kernel
theorem dX12_meet_70 : decode cX12_meet 70 = .ok (.iadd, 1) := by decide +kernel
theorem dX12_meet_71 : decode cX12_meet 71 = .ok (.iaload, 1) := by decide +kernel
theorem dX12_meet_72 : decode cX12_meet 72 = .ok (.goto 18, 3) := by decide +kernel
theorem dX12_meet_75 : decode cX12_meet 75 = .ok (.aload_n 0, 1) := by decide +kernel
theorem dX12_meet_76 : decode cX12_meet 76 = .ok (.getfield 22, 3) := by decide +kernel
theorem dX12_meet_79 : decode cX12_meet 79 = .ok (.aload_n 0, 1) := by decide +kernel
theorem dX12_meet_80 : decode cX12_meet 80 = .ok (.getfield 7, 3) := by decide +kernel
theorem dX12_meet_83 : decode cX12_meet 83 = .ok (.sipush 384, 3) := by decide +kernel
theorem dX12_meet_86 : decode cX12_meet 86 = .ok (.iload_n 3, 1) := by decide +kernel
theorem dX12_meet_87 : decode cX12_meet 87 = .ok (.iadd, 1) := by decide +kernel
theorem dX12_meet_88 : decode cX12_meet 88 = .ok (.iaload, 1) := by decide +kernel
theorem dX12_meet_89 : decode cX12_meet 89 = .ok (.iaload, 1) := by decide +kernel
theorem dX12_meet_90 : decode cX12_meet 90 = .ok (.iconst 0, 1) := by decide +kernel
theorem dX12_meet_91 : decode cX12_meet 91 = .ok (.invokevirtual 397, 3) := by decide +kernel
theorem dX12_meet_94 : decode cX12_meet 94 = .ok (.iand, 1) := by decide +kernel
theorem dX12_meet_95 : decode cX12_meet 95 = .ok (.istore_n 2, 1) := by decide +kernel
theorem dX12_meet_96 : decode cX12_meet 96 = .ok (.iinc 3 1, 3) := by decide +kernel
theorem dX12_meet_99 : decode cX12_meet 99 = .ok (.goto (-84), 3) := by decide +kernel
theorem dX12_meet_102 : decode cX12_meet 102 = .ok (.iload_n 2, 1) := by decide +kernel
theorem dX12_meet_103 : decode cX12_meet 103 = .ok (.ireturn, 1) := by decide +kernel
theorem rX12_meet : (∀ (d : Nat) (a0 a2 a3 : Value) (x : Int32) (st : List Value) (h : fk_H), fk_ev d qX12_meet 0 [a0, .int x, a2, a3] st h = fk_ev d qX12_meet 1 [a0, .int x, a2, a3] (.int x :: st) h) ∧
  (∀ (d : Nat) (L : List Value) (x0 : Int32)  (h : fk_H), fk_ev (d + 1) qX12_meet 1 L (.int x0 :: []) h = (fk_ev d qX12_isOne 0 [.int x0] [] h).bind fun o => fk_ev (d + 1) qX12_meet 4 L (o.1.toList ++ []) o.2) ∧
  (∀ (d : Nat) (L : List Value) (x : Int32) (st : List Value) (h : fk_H), fk_ev d qX12_meet 4 L (.int x :: st) h = if ¬ x = nI 0 then fk_ev d qX12_meet 9 L st h else fk_ev d qX12_meet 7 L st h) ∧
  (∀ (d : Nat) (L st : List Value) (h : fk_H), fk_ev d qX12_meet 7 L st h = fk_ev d qX12_meet 8 L (.int ((-1 : Int32)) :: st) h) ∧
  (∀ (d : Nat) (L : List Value) (x : Int32) (h : fk_H), fk_ev d qX12_meet 8 L [.int x] h = some (some (.int x), h)) ∧
  (∀ (d : Nat) (L st : List Value) (h : fk_H), fk_ev d qX12_meet 9 L st h = fk_ev d qX12_meet 12 L (.int (nI 65535) :: st) h) ∧
  (∀ (d : Nat) (a0 a1 a2 a3 : Value) (x : Int32) (st : List Value) (h : fk_H), fk_ev d qX12_meet 12 [a0, a1, a2, a3] (.int x :: st) h = fk_ev d qX12_meet 13 [a0, a1, .int x, a3] st h) ∧
  (∀ (d : Nat) (L st : List Value) (h : fk_H), fk_ev d qX12_meet 13 L st h = fk_ev d qX12_meet 14 L (.int (nI 0) :: st) h) ∧
  (∀ (d : Nat) (a0 a1 a2 a3 : Value) (x : Int32) (st : List Value) (h : fk_H), fk_ev d qX12_meet 14 [a0, a1, a2, a3] (.int x :: st) h = fk_ev d qX12_meet 15 [a0, a1, a2, .int x] st h) ∧
  (∀ (d : Nat) (a1 a2 a3 : Value) (x : Nat) (st : List Value) (h : fk_H), fk_ev d qX12_meet 16 [.ref x, a1, a2, a3] st h = fk_ev d qX12_meet 17 [.ref x, a1, a2, a3] (.ref x :: st) h) ∧
  (∀ (d : Nat) (L st : List Value) (N : Nat) (y : Nat → Nat → Int32) (l : Nat → Nat → Int64), fk_ev d qX12_meet 17 L (.ref 246 :: st) (fk_E N y l) = fk_ev d qX12_meet 20 L (.ref 247 :: st) (fk_E N y l)) ∧
  (∀ (d : Nat) (L st : List Value) (h : fk_H), fk_ev d qX12_meet 20 L st h = fk_ev d qX12_meet 23 L (.int (nI 833) :: st) h) ∧
  (∀ (d : Nat) (L st : List Value) (N : Nat) (y : Nat → Nat → Int32) (l : Nat → Nat → Int64) (i : Nat), i < 3912 → fk_ev d qX12_meet 23 L (.int (nI i) :: .ref 247 :: st) (fk_E N y l) = fk_ev d qX12_meet 24 L (.int (y 247 i) :: st) (fk_E N y l)) ∧
  (∀ (d : Nat) (L : List Value) (x y : Int32) (st : List Value) (h : fk_H), fk_ev d qX12_meet 24 L (.int y :: .int x :: st) h = if y ≤ x then fk_ev d qX12_meet 102 L st h else fk_ev d qX12_meet 27 L st h) ∧
  (∀ (d : Nat) (a1 a2 a3 : Value) (x : Nat) (st : List Value) (h : fk_H), fk_ev d qX12_meet 27 [.ref x, a1, a2, a3] st h = fk_ev d qX12_meet 28 [.ref x, a1, a2, a3] (.ref x :: st) h) ∧
  (∀ (d : Nat) (a0 a1 a2 : Value) (x : Int32) (st : List Value) (h : fk_H), fk_ev d qX12_meet 28 [a0, a1, a2, .int x] st h = fk_ev d qX12_meet 29 [a0, a1, a2, .int x] (.int x :: st) h) ∧
  (∀ (d : Nat) (L : List Value) (x0 : Int32)  (N : Nat) (y : Nat → Nat → Int32) (l : Nat → Nat → Int64), fk_ev (d + 1) qX12_meet 29 L (.int x0 :: .ref 246 :: []) (fk_E N y l) = (fk_ev d qX12_lives 0 [.ref 246, .int x0] [] (fk_E N y l)).bind fun o => fk_ev (d + 1) qX12_meet 32 L (o.1.toList ++ []) o.2) ∧
  (∀ (d : Nat) (L : List Value) (x : Int32) (st : List Value) (h : fk_H), fk_ev d qX12_meet 32 L (.int x :: st) h = if x = nI 0 then fk_ev d qX12_meet 96 L st h else fk_ev d qX12_meet 35 L st h) ∧
  (∀ (d : Nat) (a1 a2 a3 : Value) (x : Nat) (st : List Value) (h : fk_H), fk_ev d qX12_meet 35 [.ref x, a1, a2, a3] st h = fk_ev d qX12_meet 36 [.ref x, a1, a2, a3] (.ref x :: st) h) ∧
  (∀ (d : Nat) (L st : List Value) (N : Nat) (y : Nat → Nat → Int32) (l : Nat → Nat → Int64), fk_ev d qX12_meet 36 L (.ref 246 :: st) (fk_E N y l) = fk_ev d qX12_meet 39 L (.ref 247 :: st) (fk_E N y l)) ∧
  (∀ (d : Nat) (L st : List Value) (h : fk_H), fk_ev d qX12_meet 39 L st h = fk_ev d qX12_meet 40 L (.int (nI 0) :: st) h) ∧
  (∀ (d : Nat) (a0 a1 a2 : Value) (x : Int32) (st : List Value) (h : fk_H), fk_ev d qX12_meet 40 [a0, a1, a2, .int x] st h = fk_ev d qX12_meet 41 [a0, a1, a2, .int x] (.int x :: st) h) ∧
  (∀ (d : Nat) (L : List Value) (x y : Int32) (st : List Value) (h : fk_H), fk_ev d qX12_meet 41 L (.int y :: .int x :: st) h = fk_ev d qX12_meet 42 L (.int (x + y) :: st) h) ∧
  (∀ (d : Nat) (L st : List Value) (N : Nat) (y : Nat → Nat → Int32) (l : Nat → Nat → Int64) (i : Nat), i < 3912 → fk_ev d qX12_meet 42 L (.int (nI i) :: .ref 247 :: st) (fk_E N y l) = fk_ev d qX12_meet 43 L (.int (y 247 i) :: st) (fk_E N y l)) ∧
  (∀ (d : Nat) (a0 a2 a3 : Value) (x : Int32) (st : List Value) (h : fk_H), fk_ev d qX12_meet 43 [a0, .int x, a2, a3] st h = fk_ev d qX12_meet 44 [a0, .int x, a2, a3] (.int x :: st) h) ∧
  (∀ (d : Nat) (L : List Value) (x y : Int32) (st : List Value) (h : fk_H), fk_ev d qX12_meet 44 L (.int y :: .int x :: st) h = if ¬ x = y then fk_ev d qX12_meet 96 L st h else fk_ev d qX12_meet 47 L st h) ∧
  (∀ (d : Nat) (a0 a1 a3 : Value) (x : Int32) (st : List Value) (h : fk_H), fk_ev d qX12_meet 47 [a0, a1, .int x, a3] st h = fk_ev d qX12_meet 48 [a0, a1, .int x, a3] (.int x :: st) h) ∧
  (∀ (d : Nat) (a1 a2 a3 : Value) (x : Nat) (st : List Value) (h : fk_H), fk_ev d qX12_meet 48 [.ref x, a1, a2, a3] st h = fk_ev d qX12_meet 49 [.ref x, a1, a2, a3] (.ref x :: st) h) ∧
  (∀ (d : Nat) (a1 a2 a3 : Value) (x : Nat) (st : List Value) (h : fk_H), fk_ev d qX12_meet 49 [.ref x, a1, a2, a3] st h = fk_ev d qX12_meet 50 [.ref x, a1, a2, a3] (.ref x :: st) h) ∧
  (∀ (d : Nat) (L st : List Value) (N : Nat) (y : Nat → Nat → Int32) (l : Nat → Nat → Int64), fk_ev d qX12_meet 50 L (.ref 246 :: st) (fk_E N y l) = fk_ev d qX12_meet 53 L (.ref 247 :: st) (fk_E N y l)) ∧
  (∀ (d : Nat) (L st : List Value) (h : fk_H), fk_ev d qX12_meet 53 L st h = fk_ev d qX12_meet 56 L (.int (nI 320) :: st) h) ∧
  (∀ (d : Nat) (a0 a1 a2 : Value) (x : Int32) (st : List Value) (h : fk_H), fk_ev d qX12_meet 56 [a0, a1, a2, .int x] st h = fk_ev d qX12_meet 57 [a0, a1, a2, .int x] (.int x :: st) h) ∧
  (∀ (d : Nat) (L : List Value) (x y : Int32) (st : List Value) (h : fk_H), fk_ev d qX12_meet 57 L (.int y :: .int x :: st) h = fk_ev d qX12_meet 58 L (.int (x + y) :: st) h) ∧
  (∀ (d : Nat) (L st : List Value) (N : Nat) (y : Nat → Nat → Int32) (l : Nat → Nat → Int64) (i : Nat), i < 3912 → fk_ev d qX12_meet 58 L (.int (nI i) :: .ref 247 :: st) (fk_E N y l) = fk_ev d qX12_meet 59 L (.int (y 247 i) :: st) (fk_E N y l)) ∧
  (∀ (d : Nat) (L : List Value) (x : Int32) (st : List Value) (h : fk_H), fk_ev d qX12_meet 59 L (.int x :: st) h = if x < nI 0 then fk_ev d qX12_meet 75 L st h else fk_ev d qX12_meet 62 L st h) ∧
  (∀ (d : Nat) (a1 a2 a3 : Value) (x : Nat) (st : List Value) (h : fk_H), fk_ev d qX12_meet 62 [.ref x, a1, a2, a3] st h = fk_ev d qX12_meet 63 [.ref x, a1, a2, a3] (.ref x :: st) h) ∧
  (∀ (d : Nat) (L st : List Value) (N : Nat) (y : Nat → Nat → Int32) (l : Nat → Nat → Int64), fk_ev d qX12_meet 63 L (.ref 246 :: st) (fk_E N y l) = fk_ev d qX12_meet 66 L (.ref 247 :: st) (fk_E N y l)) ∧
  (∀ (d : Nat) (L st : List Value) (h : fk_H), fk_ev d qX12_meet 66 L st h = fk_ev d qX12_meet 69 L (.int (nI 320) :: st) h) ∧
  (∀ (d : Nat) (a0 a1 a2 : Value) (x : Int32) (st : List Value) (h : fk_H), fk_ev d qX12_meet 69 [a0, a1, a2, .int x] st h = fk_ev d qX12_meet 70 [a0, a1, a2, .int x] (.int x :: st) h) ∧
  (∀ (d : Nat) (L : List Value) (x y : Int32) (st : List Value) (h : fk_H), fk_ev d qX12_meet 70 L (.int y :: .int x :: st) h = fk_ev d qX12_meet 71 L (.int (x + y) :: st) h) ∧
  (∀ (d : Nat) (L st : List Value) (N : Nat) (y : Nat → Nat → Int32) (l : Nat → Nat → Int64) (i : Nat), i < 3912 → fk_ev d qX12_meet 71 L (.int (nI i) :: .ref 247 :: st) (fk_E N y l) = fk_ev d qX12_meet 72 L (.int (y 247 i) :: st) (fk_E N y l)) ∧
  (∀ (d : Nat) (L st : List Value) (h : fk_H), fk_ev d qX12_meet 72 L st h = fk_ev d qX12_meet 90 L st h) ∧
  (∀ (d : Nat) (a1 a2 a3 : Value) (x : Nat) (st : List Value) (h : fk_H), fk_ev d qX12_meet 75 [.ref x, a1, a2, a3] st h = fk_ev d qX12_meet 76 [.ref x, a1, a2, a3] (.ref x :: st) h) ∧
  (∀ (d : Nat) (L st : List Value) (N : Nat) (y : Nat → Nat → Int32) (l : Nat → Nat → Int64), fk_ev d qX12_meet 76 L (.ref 246 :: st) (fk_E N y l) = fk_ev d qX12_meet 79 L (.ref 251 :: st) (fk_E N y l)) ∧
  (∀ (d : Nat) (a1 a2 a3 : Value) (x : Nat) (st : List Value) (h : fk_H), fk_ev d qX12_meet 79 [.ref x, a1, a2, a3] st h = fk_ev d qX12_meet 80 [.ref x, a1, a2, a3] (.ref x :: st) h) ∧
  (∀ (d : Nat) (L st : List Value) (N : Nat) (y : Nat → Nat → Int32) (l : Nat → Nat → Int64), fk_ev d qX12_meet 80 L (.ref 246 :: st) (fk_E N y l) = fk_ev d qX12_meet 83 L (.ref 247 :: st) (fk_E N y l)) ∧
  (∀ (d : Nat) (L st : List Value) (h : fk_H), fk_ev d qX12_meet 83 L st h = fk_ev d qX12_meet 86 L (.int (nI 384) :: st) h) ∧
  (∀ (d : Nat) (a0 a1 a2 : Value) (x : Int32) (st : List Value) (h : fk_H), fk_ev d qX12_meet 86 [a0, a1, a2, .int x] st h = fk_ev d qX12_meet 87 [a0, a1, a2, .int x] (.int x :: st) h) ∧
  (∀ (d : Nat) (L : List Value) (x y : Int32) (st : List Value) (h : fk_H), fk_ev d qX12_meet 87 L (.int y :: .int x :: st) h = fk_ev d qX12_meet 88 L (.int (x + y) :: st) h) ∧
  (∀ (d : Nat) (L st : List Value) (N : Nat) (y : Nat → Nat → Int32) (l : Nat → Nat → Int64) (i : Nat), i < 3912 → fk_ev d qX12_meet 88 L (.int (nI i) :: .ref 247 :: st) (fk_E N y l) = fk_ev d qX12_meet 89 L (.int (y 247 i) :: st) (fk_E N y l)) ∧
  (∀ (d : Nat) (L st : List Value) (N : Nat) (y : Nat → Nat → Int32) (l : Nat → Nat → Int64) (i : Nat), i < 32 → fk_ev d qX12_meet 89 L (.int (nI i) :: .ref 251 :: st) (fk_E N y l) = fk_ev d qX12_meet 90 L (.int (y 251 i) :: st) (fk_E N y l)) ∧
  (∀ (d : Nat) (L st : List Value) (h : fk_H), fk_ev d qX12_meet 90 L st h = fk_ev d qX12_meet 91 L (.int (nI 0) :: st) h) ∧
  (∀ (d : Nat) (L : List Value) (x0 : Int32) (x1 : Int32) (w0 : Value) (N : Nat) (y : Nat → Nat → Int32) (l : Nat → Nat → Int64), fk_ev (d + 1) qX12_meet 91 L (.int x1 :: .int x0 :: .ref 246 :: [w0]) (fk_E N y l) = (fk_ev d qX12_reachedFrom 0 [.ref 246, .int x0, .int x1, .null, .null, .null] [] (fk_E N y l)).bind fun o => fk_ev (d + 1) qX12_meet 94 L (o.1.toList ++ [w0]) o.2) ∧
  (∀ (d : Nat) (L : List Value) (x y : Int32) (st : List Value) (h : fk_H), fk_ev d qX12_meet 94 L (.int y :: .int x :: st) h = fk_ev d qX12_meet 95 L (.int (x &&& y) :: st) h) ∧
  (∀ (d : Nat) (a0 a1 a2 a3 : Value) (x : Int32) (st : List Value) (h : fk_H), fk_ev d qX12_meet 95 [a0, a1, a2, a3] (.int x :: st) h = fk_ev d qX12_meet 96 [a0, a1, .int x, a3] st h) ∧
  (∀ (d : Nat) (a0 a1 a2 : Value) (x : Int32) (st : List Value) (h : fk_H), fk_ev d qX12_meet 96 [a0, a1, a2, .int x] st h = fk_ev d qX12_meet 99 [a0, a1, a2, .int (x + nI 1)] st h) ∧
  (∀ (d : Nat) (L st : List Value) (h : fk_H), fk_ev d qX12_meet 99 L st h = fk_ev d qX12_meet 15 L st h) ∧
  (∀ (d : Nat) (a0 a1 a3 : Value) (x : Int32) (st : List Value) (h : fk_H), fk_ev d qX12_meet 102 [a0, a1, .int x, a3] st h = fk_ev d qX12_meet 103 [a0, a1, .int x, a3] (.int x :: st) h) ∧
  (∀ (d : Nat) (L : List Value) (x : Int32) (h : fk_H), fk_ev d qX12_meet 103 L [.int x] h = some (some (.int x), h)) := ⟨fun d a0 a2 a3 x st h => fk_w_iloadn 1 [a0, .int x, a2, a3] dX12_meet_0 rfl,
  fun d L x0 h => fk_g_calls [.int x0] [] rfl lm_12_132 dX12_meet_1 rfl ⟨rfl, by decide⟩ (by simp),
  fun d L x st h => fk_r_if_ne dX12_meet_4 (by decide),
  fun d L st h => fk_w_iconst dX12_meet_7 (by decide),
  fun d L x h => fk_r_ret dX12_meet_8 (Or.inl rfl),
  fun d L st h => fk_g_ldcw rfl lc_12_360 (by decide) dX12_meet_9,
  fun d a0 a1 a2 a3 x st h => fk_w_istoren 2 4 [] [a0, a1, a2, a3] [a0, a1, .int x, a3] dX12_meet_12 rfl rfl (by decide) rfl,
  fun d L st h => fk_w_iconst dX12_meet_13 (by decide),
  fun d a0 a1 a2 a3 x st h => fk_w_istoren 3 4 [] [a0, a1, a2, a3] [a0, a1, a2, .int x] dX12_meet_14 rfl rfl (by decide) rfl,
  fun d a1 a2 a3 x st h => fk_w_aloadn 0 [.ref x, a1, a2, a3] dX12_meet_16 rfl,
  fun d L st N y l => fk_g_getC rfl lf_12_7 (by decide) rfl dX12_meet_17 fk_at_246,
  fun d L st h => fk_w_sipush dX12_meet_20 (by decide),
  fun d L st N y l i hi => fk_g_iald fk_at_247 fk_ln_247 (by decide) dX12_meet_23 hi,
  fun d L x y st h => fk_r_icmp_ge dX12_meet_24 (by decide),
  fun d a1 a2 a3 x st h => fk_w_aloadn 0 [.ref x, a1, a2, a3] dX12_meet_27 rfl,
  fun d a0 a1 a2 x st h => fk_w_iloadn 3 [a0, a1, a2, .int x] dX12_meet_28 rfl,
  fun d L x0 N y l  => fk_g_call [.int x0] [] rfl lm_12_126 dX12_meet_29 rfl ⟨rfl, by decide⟩ (by simp) fk_at_246,
  fun d L x st h => fk_r_if_eq dX12_meet_32 (by decide),
  fun d a1 a2 a3 x st h => fk_w_aloadn 0 [.ref x, a1, a2, a3] dX12_meet_35 rfl,
  fun d L st N y l => fk_g_getC rfl lf_12_7 (by decide) rfl dX12_meet_36 fk_at_246,
  fun d L st h => fk_w_iconst dX12_meet_39 (by decide),
  fun d a0 a1 a2 x st h => fk_w_iloadn 3 [a0, a1, a2, .int x] dX12_meet_40 rfl,
  fun d L x y st h => fk_r_iadd dX12_meet_41,
  fun d L st N y l i hi => fk_g_iald fk_at_247 fk_ln_247 (by decide) dX12_meet_42 hi,
  fun d a0 a2 a3 x st h => fk_w_iloadn 1 [a0, .int x, a2, a3] dX12_meet_43 rfl,
  fun d L x y st h => fk_r_icmp_ne dX12_meet_44 (by decide),
  fun d a0 a1 a3 x st h => fk_w_iloadn 2 [a0, a1, .int x, a3] dX12_meet_47 rfl,
  fun d a1 a2 a3 x st h => fk_w_aloadn 0 [.ref x, a1, a2, a3] dX12_meet_48 rfl,
  fun d a1 a2 a3 x st h => fk_w_aloadn 0 [.ref x, a1, a2, a3] dX12_meet_49 rfl,
  fun d L st N y l => fk_g_getC rfl lf_12_7 (by decide) rfl dX12_meet_50 fk_at_246,
  fun d L st h => fk_w_sipush dX12_meet_53 (by decide),
  fun d a0 a1 a2 x st h => fk_w_iloadn 3 [a0, a1, a2, .int x] dX12_meet_56 rfl,
  fun d L x y st h => fk_r_iadd dX12_meet_57,
  fun d L st N y l i hi => fk_g_iald fk_at_247 fk_ln_247 (by decide) dX12_meet_58 hi,
  fun d L x st h => fk_r_if_lt dX12_meet_59 (by decide),
  fun d a1 a2 a3 x st h => fk_w_aloadn 0 [.ref x, a1, a2, a3] dX12_meet_62 rfl,
  fun d L st N y l => fk_g_getC rfl lf_12_7 (by decide) rfl dX12_meet_63 fk_at_246,
  fun d L st h => fk_w_sipush dX12_meet_66 (by decide),
  fun d a0 a1 a2 x st h => fk_w_iloadn 3 [a0, a1, a2, .int x] dX12_meet_69 rfl,
  fun d L x y st h => fk_r_iadd dX12_meet_70,
  fun d L st N y l i hi => fk_g_iald fk_at_247 fk_ln_247 (by decide) dX12_meet_71 hi,
  fun d L st h => fk_r_goto dX12_meet_72 (by decide),
  fun d a1 a2 a3 x st h => fk_w_aloadn 0 [.ref x, a1, a2, a3] dX12_meet_75 rfl,
  fun d L st N y l => fk_g_getC rfl lf_12_22 (by decide) rfl dX12_meet_76 fk_at_246,
  fun d a1 a2 a3 x st h => fk_w_aloadn 0 [.ref x, a1, a2, a3] dX12_meet_79 rfl,
  fun d L st N y l => fk_g_getC rfl lf_12_7 (by decide) rfl dX12_meet_80 fk_at_246,
  fun d L st h => fk_w_sipush dX12_meet_83 (by decide),
  fun d a0 a1 a2 x st h => fk_w_iloadn 3 [a0, a1, a2, .int x] dX12_meet_86 rfl,
  fun d L x y st h => fk_r_iadd dX12_meet_87,
  fun d L st N y l i hi => fk_g_iald fk_at_247 fk_ln_247 (by decide) dX12_meet_88 hi,
  fun d L st N y l i hi => fk_g_iald fk_at_251 fk_ln_251 (by decide) dX12_meet_89 hi,
  fun d L st h => fk_w_iconst dX12_meet_90 (by decide),
  fun d L x0 x1 w0 N y l  => fk_g_call [.int x0, .int x1] [w0] rfl lm_12_397 dX12_meet_91 rfl ⟨rfl, by decide⟩ (by simp) fk_at_246,
  fun d L x y st h => fk_r_iand dX12_meet_94,
  fun d a0 a1 a2 a3 x st h => fk_w_istoren 2 4 [] [a0, a1, a2, a3] [a0, a1, .int x, a3] dX12_meet_95 rfl rfl (by decide) rfl,
  fun d a0 a1 a2 x st h => fk_w_iinc 3 4 (1) [] [a0, a1, a2, .int x] [a0, a1, a2, .int (x + nI 1)] dX12_meet_96 rfl rfl rfl (by decide) rfl,
  fun d L st h => fk_r_goto dX12_meet_99 (by decide),
  fun d a0 a1 a3 x st h => fk_w_iloadn 2 [a0, a1, .int x, a3] dX12_meet_102 rfl,
  fun d L x h => fk_r_ret dX12_meet_103 (Or.inl rfl)⟩
theorem hX12_meet_15 : ∀ (d : Nat) (a0 a1 a2 : Value) (x : Int32) (st : List Value) (h : fk_H), fk_ev d qX12_meet 15 [a0, a1, a2, .int x] st h = fk_ev d qX12_meet 16 [a0, a1, a2, .int x] (.int x :: st) h := fun d a0 a1 a2 x st h => fk_w_iloadn 3 [a0, a1, a2, .int x] dX12_meet_15 rfl
theorem dX12_isLast_0 : decode cX12_isLast 0 = .ok (.aload_n 0, 1) := by decide +kernel
theorem dX12_isLast_1 : decode cX12_isLast 1 = .ok (.iload_n 1, 1) := by decide +kernel
theorem dX12_isLast_2 : decode cX12_isLast 2 = .ok (.iconst 0, 1) := by decide +kernel
theorem dX12_isLast_3 : decode cX12_isLast 3 = .ok (.invokevirtual 397, 3) := by decide +kernel
theorem dX12_isLast_6 : decode cX12_isLast 6 = .ok (.istore_n 2, 1) := by decide +kernel
theorem dX12_isLast_7 : decode cX12_isLast 7 = .ok (.iconst 0, 1) := by decide +kernel
theorem dX12_isLast_8 : decode cX12_isLast 8 = .ok (.istore_n 3, 1) := by decide +kernel
theorem dX12_isLast_9 : decode cX12_isLast 9 = .ok (.iload_n 3, 1) := by decide +kernel
theorem dX12_isLast_10 : decode cX12_isLast 10 = .ok (.bipush 16, 2) := by decide +kernel
theorem dX12_isLast_12 : decode cX12_isLast 12 = .ok (.if_icmp .ge 32, 3) := by decide +kernel
theorem dX12_isLast_15 : decode cX12_isLast 15 = .ok (.iload_n 2, 1) := by decide +kernel
theorem dX12_isLast_16 : decode cX12_isLast 16 = .ok (.iload_n 3, 1) := by decide +kernel
theorem dX12_isLast_17 : decode cX12_isLast 17 = .ok (.invokestatic 108, 3) := by decide +kernel
theorem dX12_isLast_20 : decode cX12_isLast 20 = .ok (.ifCond .eq 18, 3) := by decide +kernel
theorem dX12_isLast_23 : decode cX12_isLast 23 = .ok (.aload_n 0, 1) := by decide +kernel
theorem dX12_isLast_24 : decode cX12_isLast 24 = .ok (.iload_n 3, 1) := by decide +kernel
theorem dX12_isLast_25 : decode cX12_isLast 25 = .ok (.iconst 0, 1) := by decide +kernel
theorem dX12_isLast_26 : decode cX12_isLast 26 = .ok (.invokevirtual 397, 3) := by decide +kernel
theorem dX12_isLast_29 : decode cX12_isLast 29 = .ok (.iload_n 1, 1) := by decide +kernel
theorem dX12_isLast_30 : decode cX12_isLast 30 = .ok (.invokestatic 108, 3) := by decide +kernel
theorem dX12_isLast_33 : decode cX12_isLast 33 = .ok (.ifCond .ne 5, 3) := by decide +kernel
theorem dX12_isLast_36 : decode cX12_isLast 36 = .ok (.iconst 0, 1) := by decide +kernel
theorem dX12_isLast_37 : decode cX12_isLast 37 = .ok (.ireturn, 1) := by decide +kernel
theorem dX12_isLast_38 : decode cX12_isLast 38 = .ok (.iinc 3 1, 3) := by decide +kernel
theorem dX12_isLast_41 : decode cX12_isLast 41 = .ok (.goto (-32), 3) := by decide +kernel
theorem dX12_isLast_44 : decode cX12_isLast 44 = .ok (.iconst 1, 1) := by decide +kernel
theorem dX12_isLast_45 : decode cX12_isLast 45 = .ok (.ireturn, 1) := by decide +kernel
theorem rX12_isLast : (∀ (d : Nat) (a1 a2 a3 : Value) (x : Nat) (st : List Value) (h : fk_H), fk_ev d qX12_isLast 0 [.ref x, a1, a2, a3] st h = fk_ev d qX12_isLast 1 [.ref x, a1, a2, a3] (.ref x :: st) h) ∧
  (∀ (d : Nat) (a0 a2 a3 : Value) (x : Int32) (st : List Value) (h : fk_H), fk_ev d qX12_isLast 1 [a0, .int x, a2, a3] st h = fk_ev d qX12_isLast 2 [a0, .int x, a2, a3] (.int x :: st) h) ∧
  (∀ (d : Nat) (L st : List Value) (h : fk_H), fk_ev d qX12_isLast 2 L st h = fk_ev d qX12_isLast 3 L (.int (nI 0) :: st) h) ∧
  (∀ (d : Nat) (L : List Value) (x0 : Int32) (x1 : Int32)  (N : Nat) (y : Nat → Nat → Int32) (l : Nat → Nat → Int64), fk_ev (d + 1) qX12_isLast 3 L (.int x1 :: .int x0 :: .ref 246 :: []) (fk_E N y l) = (fk_ev d qX12_reachedFrom 0 [.ref 246, .int x0, .int x1, .null, .null, .null] [] (fk_E N y l)).bind fun o => fk_ev (d + 1) qX12_isLast 6 L (o.1.toList ++ []) o.2) ∧
  (∀ (d : Nat) (a0 a1 a2 a3 : Value) (x : Int32) (st : List Value) (h : fk_H), fk_ev d qX12_isLast 6 [a0, a1, a2, a3] (.int x :: st) h = fk_ev d qX12_isLast 7 [a0, a1, .int x, a3] st h) ∧
  (∀ (d : Nat) (L st : List Value) (h : fk_H), fk_ev d qX12_isLast 7 L st h = fk_ev d qX12_isLast 8 L (.int (nI 0) :: st) h) ∧
  (∀ (d : Nat) (a0 a1 a2 a3 : Value) (x : Int32) (st : List Value) (h : fk_H), fk_ev d qX12_isLast 8 [a0, a1, a2, a3] (.int x :: st) h = fk_ev d qX12_isLast 9 [a0, a1, a2, .int x] st h) ∧
  (∀ (d : Nat) (L st : List Value) (h : fk_H), fk_ev d qX12_isLast 10 L st h = fk_ev d qX12_isLast 12 L (.int (nI 16) :: st) h) ∧
  (∀ (d : Nat) (L : List Value) (x y : Int32) (st : List Value) (h : fk_H), fk_ev d qX12_isLast 12 L (.int y :: .int x :: st) h = if y ≤ x then fk_ev d qX12_isLast 44 L st h else fk_ev d qX12_isLast 15 L st h) ∧
  (∀ (d : Nat) (a0 a1 a3 : Value) (x : Int32) (st : List Value) (h : fk_H), fk_ev d qX12_isLast 15 [a0, a1, .int x, a3] st h = fk_ev d qX12_isLast 16 [a0, a1, .int x, a3] (.int x :: st) h) ∧
  (∀ (d : Nat) (a0 a1 a2 : Value) (x : Int32) (st : List Value) (h : fk_H), fk_ev d qX12_isLast 16 [a0, a1, a2, .int x] st h = fk_ev d qX12_isLast 17 [a0, a1, a2, .int x] (.int x :: st) h) ∧
  (∀ (d : Nat) (L : List Value) (x0 : Int32) (x1 : Int32)  (h : fk_H), fk_ev (d + 1) qX12_isLast 17 L (.int x1 :: .int x0 :: []) h = (fk_ev d qX12_has 0 [.int x0, .int x1] [] h).bind fun o => fk_ev (d + 1) qX12_isLast 20 L (o.1.toList ++ []) o.2) ∧
  (∀ (d : Nat) (L : List Value) (x : Int32) (st : List Value) (h : fk_H), fk_ev d qX12_isLast 20 L (.int x :: st) h = if x = nI 0 then fk_ev d qX12_isLast 38 L st h else fk_ev d qX12_isLast 23 L st h) ∧
  (∀ (d : Nat) (a1 a2 a3 : Value) (x : Nat) (st : List Value) (h : fk_H), fk_ev d qX12_isLast 23 [.ref x, a1, a2, a3] st h = fk_ev d qX12_isLast 24 [.ref x, a1, a2, a3] (.ref x :: st) h) ∧
  (∀ (d : Nat) (a0 a1 a2 : Value) (x : Int32) (st : List Value) (h : fk_H), fk_ev d qX12_isLast 24 [a0, a1, a2, .int x] st h = fk_ev d qX12_isLast 25 [a0, a1, a2, .int x] (.int x :: st) h) ∧
  (∀ (d : Nat) (L st : List Value) (h : fk_H), fk_ev d qX12_isLast 25 L st h = fk_ev d qX12_isLast 26 L (.int (nI 0) :: st) h) ∧
  (∀ (d : Nat) (L : List Value) (x0 : Int32) (x1 : Int32)  (N : Nat) (y : Nat → Nat → Int32) (l : Nat → Nat → Int64), fk_ev (d + 1) qX12_isLast 26 L (.int x1 :: .int x0 :: .ref 246 :: []) (fk_E N y l) = (fk_ev d qX12_reachedFrom 0 [.ref 246, .int x0, .int x1, .null, .null, .null] [] (fk_E N y l)).bind fun o => fk_ev (d + 1) qX12_isLast 29 L (o.1.toList ++ []) o.2) ∧
  (∀ (d : Nat) (a0 a2 a3 : Value) (x : Int32) (st : List Value) (h : fk_H), fk_ev d qX12_isLast 29 [a0, .int x, a2, a3] st h = fk_ev d qX12_isLast 30 [a0, .int x, a2, a3] (.int x :: st) h) ∧
  (∀ (d : Nat) (L : List Value) (x0 : Int32) (x1 : Int32)  (h : fk_H), fk_ev (d + 1) qX12_isLast 30 L (.int x1 :: .int x0 :: []) h = (fk_ev d qX12_has 0 [.int x0, .int x1] [] h).bind fun o => fk_ev (d + 1) qX12_isLast 33 L (o.1.toList ++ []) o.2) ∧
  (∀ (d : Nat) (L : List Value) (x : Int32) (st : List Value) (h : fk_H), fk_ev d qX12_isLast 33 L (.int x :: st) h = if ¬ x = nI 0 then fk_ev d qX12_isLast 38 L st h else fk_ev d qX12_isLast 36 L st h) ∧
  (∀ (d : Nat) (L st : List Value) (h : fk_H), fk_ev d qX12_isLast 36 L st h = fk_ev d qX12_isLast 37 L (.int (nI 0) :: st) h) ∧
  (∀ (d : Nat) (L : List Value) (h : fk_H), fk_ev d qX12_isLast 37 L [.int (nI 0)] h = some (some (.int (nI 0)), h)) ∧
  (∀ (d : Nat) (L : List Value) (h : fk_H), fk_ev d qX12_isLast 37 L [.int (nI 1)] h = some (some (.int (nI 1)), h)) ∧
  (∀ (d : Nat) (L : List Value) (p : Prop) [Decidable p] (h : fk_H), fk_ev d qX12_isLast 37 L [.int (fk_b p)] h = some (some (.int (fk_b p)), h)) ∧
  (∀ (d : Nat) (L : List Value) (x : Int32) (h : fk_H), (x = nI 0 ∨ x = nI 1) → fk_ev d qX12_isLast 37 L [.int x] h = some (some (.int x), h)) ∧
  (∀ (d : Nat) (a0 a1 a2 : Value) (x : Int32) (st : List Value) (h : fk_H), fk_ev d qX12_isLast 38 [a0, a1, a2, .int x] st h = fk_ev d qX12_isLast 41 [a0, a1, a2, .int (x + nI 1)] st h) ∧
  (∀ (d : Nat) (L st : List Value) (h : fk_H), fk_ev d qX12_isLast 41 L st h = fk_ev d qX12_isLast 9 L st h) ∧
  (∀ (d : Nat) (L st : List Value) (h : fk_H), fk_ev d qX12_isLast 44 L st h = fk_ev d qX12_isLast 45 L (.int (nI 1) :: st) h) ∧
  (∀ (d : Nat) (L : List Value) (h : fk_H), fk_ev d qX12_isLast 45 L [.int (nI 0)] h = some (some (.int (nI 0)), h)) ∧
  (∀ (d : Nat) (L : List Value) (h : fk_H), fk_ev d qX12_isLast 45 L [.int (nI 1)] h = some (some (.int (nI 1)), h)) ∧
  (∀ (d : Nat) (L : List Value) (p : Prop) [Decidable p] (h : fk_H), fk_ev d qX12_isLast 45 L [.int (fk_b p)] h = some (some (.int (fk_b p)), h)) ∧
  (∀ (d : Nat) (L : List Value) (x : Int32) (h : fk_H), (x = nI 0 ∨ x = nI 1) → fk_ev d qX12_isLast 45 L [.int x] h = some (some (.int x), h)) := ⟨fun d a1 a2 a3 x st h => fk_w_aloadn 0 [.ref x, a1, a2, a3] dX12_isLast_0 rfl,
  fun d a0 a2 a3 x st h => fk_w_iloadn 1 [a0, .int x, a2, a3] dX12_isLast_1 rfl,
  fun d L st h => fk_w_iconst dX12_isLast_2 (by decide),
  fun d L x0 x1 N y l  => fk_g_call [.int x0, .int x1] [] rfl lm_12_397 dX12_isLast_3 rfl ⟨rfl, by decide⟩ (by simp) fk_at_246,
  fun d a0 a1 a2 a3 x st h => fk_w_istoren 2 4 [] [a0, a1, a2, a3] [a0, a1, .int x, a3] dX12_isLast_6 rfl rfl (by decide) rfl,
  fun d L st h => fk_w_iconst dX12_isLast_7 (by decide),
  fun d a0 a1 a2 a3 x st h => fk_w_istoren 3 4 [] [a0, a1, a2, a3] [a0, a1, a2, .int x] dX12_isLast_8 rfl rfl (by decide) rfl,
  fun d L st h => fk_w_bipush dX12_isLast_10 (by decide),
  fun d L x y st h => fk_r_icmp_ge dX12_isLast_12 (by decide),
  fun d a0 a1 a3 x st h => fk_w_iloadn 2 [a0, a1, .int x, a3] dX12_isLast_15 rfl,
  fun d a0 a1 a2 x st h => fk_w_iloadn 3 [a0, a1, a2, .int x] dX12_isLast_16 rfl,
  fun d L x0 x1 h => fk_g_calls [.int x0, .int x1] [] rfl lm_12_108 dX12_isLast_17 rfl ⟨rfl, by decide⟩ (by simp),
  fun d L x st h => fk_r_if_eq dX12_isLast_20 (by decide),
  fun d a1 a2 a3 x st h => fk_w_aloadn 0 [.ref x, a1, a2, a3] dX12_isLast_23 rfl,
  fun d a0 a1 a2 x st h => fk_w_iloadn 3 [a0, a1, a2, .int x] dX12_isLast_24 rfl,
  fun d L st h => fk_w_iconst dX12_isLast_25 (by decide),
  fun d L x0 x1 N y l  => fk_g_call [.int x0, .int x1] [] rfl lm_12_397 dX12_isLast_26 rfl ⟨rfl, by decide⟩ (by simp) fk_at_246,
  fun d a0 a2 a3 x st h => fk_w_iloadn 1 [a0, .int x, a2, a3] dX12_isLast_29 rfl,
  fun d L x0 x1 h => fk_g_calls [.int x0, .int x1] [] rfl lm_12_108 dX12_isLast_30 rfl ⟨rfl, by decide⟩ (by simp),
  fun d L x st h => fk_r_if_ne dX12_isLast_33 (by decide),
  fun d L st h => fk_w_iconst dX12_isLast_36 (by decide),
  fun d L h => fk_r_ret dX12_isLast_37 (Or.inr (Or.inl ⟨rfl, by decide⟩)),
  fun d L h => fk_r_ret dX12_isLast_37 (Or.inr (Or.inl ⟨rfl, by decide⟩)),
  fun d L p _ h => fk_r_ret dX12_isLast_37 (Or.inr (Or.inl ⟨rfl, fk_b_01⟩)),
  fun d L x h hx => fk_r_ret dX12_isLast_37 (Or.inr (Or.inl ⟨rfl, hx⟩)),
  fun d a0 a1 a2 x st h => fk_w_iinc 3 4 (1) [] [a0, a1, a2, .int x] [a0, a1, a2, .int (x + nI 1)] dX12_isLast_38 rfl rfl rfl (by decide) rfl,
  fun d L st h => fk_r_goto dX12_isLast_41 (by decide),
  fun d L st h => fk_w_iconst dX12_isLast_44 (by decide),
  fun d L h => fk_r_ret dX12_isLast_45 (Or.inr (Or.inl ⟨rfl, by decide⟩)),
  fun d L h => fk_r_ret dX12_isLast_45 (Or.inr (Or.inl ⟨rfl, by decide⟩)),
  fun d L p _ h => fk_r_ret dX12_isLast_45 (Or.inr (Or.inl ⟨rfl, fk_b_01⟩)),
  fun d L x h hx => fk_r_ret dX12_isLast_45 (Or.inr (Or.inl ⟨rfl, hx⟩))⟩
theorem hX12_isLast_9 : ∀ (d : Nat) (a0 a1 a2 : Value) (x : Int32) (st : List Value) (h : fk_H), fk_ev d qX12_isLast 9 [a0, a1, a2, .int x] st h = fk_ev d qX12_isLast 10 [a0, a1, a2, .int x] (.int x :: st) h := fun d a0 a1 a2 x st h => fk_w_iloadn 3 [a0, a1, a2, .int x] dX12_isLast_9 rfl
theorem dX12_built_0 : decode cX12_built 0 = .ok (.iload_n 1, 1) := by decide +kernel
theorem dX12_built_1 : decode cX12_built 1 = .ok (.iconst 0, 1) := by decide +kernel
theorem dX12_built_2 : decode cX12_built 2 = .ok (.iconst 2, 1) := by decide +kernel
theorem dX12_built_3 : decode cX12_built 3 = .ok (.invokestatic 112, 3) := by decide +kernel
theorem dX12_built_6 : decode cX12_built 6 = .ok (.ifCond .ne 5, 3) := by decide +kernel
theorem dX12_built_9 : decode cX12_built 9 = .ok (.iconst (-1), 1) := by decide +kernel
theorem dX12_built_10 : decode cX12_built 10 = .ok (.ireturn, 1) := by decide +kernel
theorem dX12_built_11 : decode cX12_built 11 = .ok (.iconst 0, 1) := by decide +kernel
theorem dX12_built_12 : decode cX12_built 12 = .ok (.istore_n 2, 1) := by decide +kernel
theorem dX12_built_13 : decode cX12_built 13 = .ok (.iconst 0, 1) := by decide +kernel
theorem dX12_built_14 : decode cX12_built 14 = .ok (.istore_n 3, 1) := by decide +kernel
theorem dX12_built_15 : decode cX12_built 15 = .ok (.iload_n 3, 1) := by decide +kernel
theorem dX12_built_16 : decode cX12_built 16 = .ok (.bipush 32, 2) := by decide +kernel
theorem dX12_built_18 : decode cX12_built 18 = .ok (.if_icmp .ge 37, 3) := by decide +kernel
theorem dX12_built_21 : decode cX12_built 21 = .ok (.aload_n 0, 1) := by decide +kernel
theorem dX12_built_22 : decode cX12_built 22 = .ok (.iload_n 3, 1) := by decide +kernel
theorem dX12_built_23 : decode cX12_built 23 = .ok (.invokevirtual 289, 3) := by decide +kernel
theorem dX12_built_26 : decode cX12_built 26 = .ok (.ifCond .eq 23, 3) := by decide +kernel
theorem dX12_built_29 : decode cX12_built 29 = .ok (.iload_n 2, 1) := by decide +kernel
theorem dX12_built_30 : decode cX12_built 30 = .ok (.iconst 1, 1) := by decide +kernel
theorem dX12_built_31 : decode cX12_built 31 = .ok (.aload_n 0, 1) := by decide +kernel
theorem dX12_built_32 : decode cX12_built 32 = .ok (.getfield 19, 3) := by decide +kernel
theorem dX12_built_35 : decode cX12_built 35 = .ok (.iload_n 3, 1) := by decide +kernel
theorem dX12_built_36 : decode cX12_built 36 = .ok (.iaload, 1) := by decide +kernel
theorem dX12_built_37 : decode cX12_built 37 = .ok (.ishl, 1) := by decide +kernel
theorem dX12_built_38 : decode cX12_built 38 = .ok (.ior, 1) := by decide +kernel
theorem dX12_built_39 : decode cX12_built 39 = .ok (.iconst 1, 1) := by decide +kernel
theorem dX12_built_40 : decode cX12_built 40 = .ok (.aload_n 0, 1) := by decide +kernel
theorem dX12_built_41 : decode cX12_built 41 = .ok (.getfield 22, 3) := by decide +kernel
theorem dX12_built_44 : decode cX12_built 44 = .ok (.iload_n 3, 1) := by decide +kernel
theorem dX12_built_45 : decode cX12_built 45 = .ok (.iaload, 1) := by decide +kernel
theorem dX12_built_46 : decode cX12_built 46 = .ok (.ishl, 1) := by decide +kernel
theorem dX12_built_47 : decode cX12_built 47 = .ok (.ior, 1) := by decide +kernel
theorem dX12_built_48 : decode cX12_built 48 = .ok (.istore_n 2, 1) := by decide +kernel
theorem dX12_built_49 : decode cX12_built 49 = .ok (.iinc 3 1, 3) := by decide +kernel
theorem dX12_built_52 : decode cX12_built 52 = .ok (.goto (-37), 3) := by decide +kernel
theorem dX12_built_55 : decode cX12_built 55 = .ok (.iconst 0, 1) := by decide +kernel
theorem dX12_built_56 : decode cX12_built 56 = .ok (.istore_n 3, 1) := by decide +kernel
theorem dX12_built_57 : decode cX12_built 57 = .ok (.iconst 0, 1) := by decide +kernel
theorem dX12_built_58 : decode cX12_built 58 = .ok (.istore 4, 2) := by decide +kernel
theorem dX12_built_60 : decode cX12_built 60 = .ok (.iconst 0, 1) := by decide +kernel
theorem dX12_built_61 : decode cX12_built 61 = .ok (.istore 5, 2) := by decide +kernel
theorem dX12_built_63 : decode cX12_built 63 = .ok (.iconst 0, 1) := by decide +kernel
theorem dX12_built_64 : decode cX12_built 64 = .ok (.istore 6, 2) := by decide +kernel
theorem dX12_built_66 : decode cX12_built 66 = .ok (.iload 6, 2) := by decide +kernel
theorem dX12_built_68 : decode cX12_built 68 = .ok (.bipush 16, 2) := by decide +kernel
theorem dX12_built_70 : decode cX12_built 70 = .ok (.if_icmp .ge 73, 3) := by decide +kernel
theorem dX12_built_73 : decode cX12_built 73 = .ok (.iload_n 2, 1) := by decide +kernel
theorem dX12_built_74 : decode cX12_built 74 = .ok (.iload 6, 2) := by decide +kernel
theorem dX12_built_76 : decode cX12_built 76 = .ok (.invokestatic 108, 3) := by decide +kernel
theorem dX12_built_79 : decode cX12_built 79 = .ok (.ifCond .eq 58, 3) := by decide +kernel
theorem dX12_built_82 : decode cX12_built 82 = .ok (.iload 5, 2) := by decide +kernel
theorem dX12_built_84 : decode cX12_built 84 = .ok (.iload 6, 2) := by decide +kernel
theorem dX12_built_86 : decode cX12_built 86 = .ok (.invokestatic 108, 3) := by decide +kernel
theorem dX12_built_89 : decode cX12_built 89 = .ok (.ifCond .ne 48, 3) := by decide +kernel
theorem dX12_built_92 : decode cX12_built 92 = .ok (.aload_n 0, 1) := by decide +kernel
theorem dX12_built_93 : decode cX12_built 93 = .ok (.iload 6, 2) := by decide +kernel
theorem dX12_built_95 : decode cX12_built 95 = .ok (.invokevirtual 400, 3) := by decide +kernel
theorem dX12_built_98 : decode cX12_built 98 = .ok (.ifCond .ne 6, 3) := by decide +kernel
theorem dX12_built_101 : decode cX12_built 101 = .ok (.goto 36, 3) := by decide +kernel
theorem dX12_built_104 : decode cX12_built 104 = .ok (.aload_n 0, 1) := by decide +kernel
theorem dX12_built_105 : decode cX12_built 105 = .ok (.iload 6, 2) := by decide +kernel
theorem dX12_built_107 : decode cX12_built 107 = .ok (.iconst 0, 1) := by decide +kernel
theorem dX12_built_108 : decode cX12_built 108 = .ok (.invokevirtual 397, 3) := by decide +kernel
theorem dX12_built_111 : decode cX12_built 111 = .ok (.istore 7, 2) := by decide +kernel
theorem dX12_built_113 : decode cX12_built 113 = .ok (.iload 5, 2) := by decide +kernel
theorem dX12_built_115 : decode cX12_built 115 = .ok (.iload 7, 2) := by decide +kernel
theorem dX12_built_117 : decode cX12_built 117 = .ok (.ior, 1) := by decide +kernel
theorem dX12_built_118 : decode cX12_built 118 = .ok (.istore 5, 2) := by decide +kernel
theorem dX12_built_120 : decode cX12_built 120 = .ok (.iload_n 3, 1) := by decide +kernel
theorem dX12_built_121 : decode cX12_built 121 = .ok (.ifCond .ne 8, 3) := by decide +kernel
theorem dX12_built_124 : decode cX12_built 124 = .ok (.iload 7, 2) := by decide +kernel
theorem dX12_built_126 : decode cX12_built 126 = .ok (.goto 5, 3) := by decide +kernel
theorem dX12_built_129 : decode cX12_built 129 = .ok (.iload 4, 2) := by decide +kernel
theorem dX12_built_131 : decode cX12_built 131 = .ok (.istore 4, 2) := by decide +kernel
theorem dX12_built_133 : decode cX12_built 133 = .ok (.iload_n 3, 1) := by decide +kernel
theorem dX12_built_134 : decode cX12_built 134 = .ok (.iconst 1, 1) := by decide +kernel
theorem dX12_built_135 : decode cX12_built 135 = .ok (.iadd, 1) := by decide +kernel
theorem dX12_built_136 : decode cX12_built 136 = .ok (.istore_n 3, 1) := by decide +kernel
theorem dX12_built_137 : decode cX12_built 137 = .ok (.iinc 6 1, 3) := by decide +kernel
theorem dX12_built_140 : decode cX12_built 140 = .ok (.goto (-74), 3) := by decide +kernel
theorem dX12_built_143 : decode cX12_built 143 = .ok (.iload_n 1, 1) := by decide +kernel
theorem dX12_built_144 : decode cX12_built 144 = .ok (.ifCond .ne 13, 3) := by decide +kernel
theorem dX12_built_147 : decode cX12_built 147 = .ok (.iconst 0, 1) := by decide +kernel
theorem dX12_built_148 : decode cX12_built 148 = .ok (.iload_n 3, 1) := by decide +kernel
theorem dX12_built_149 : decode cX12_built 149 = .ok (.iconst 1, 1) := by decide +kernel
theorem dX12_built_150 : decode cX12_built 150 = .ok (.isub, 1) := by decide +kernel
theorem dX12_built_151 : decode cX12_built 151 = .ok (.invokestatic 257, 3) := by decide +kernel
theorem dX12_built_154 : decode cX12_built 154 = .ok (.goto 14, 3) := by decide +kernel
theorem dX12_built_157 : decode cX12_built 157 = .ok (.iload_n 1, 1) := by decide +kernel
theorem dX12_built_158 : decode cX12_built 158 = .ok (.iconst 1, 1) := by decide +kernel
theorem dX12_built_159 : decode cX12_built 159 = .ok (.if_icmp .ne 7, 3) := by decide +kernel
theorem dX12_built_162 : decode cX12_built 162 = .ok (.iload_n 3, 1) := by decide +kernel
theorem dX12_built_163 : decode cX12_built 163 = .ok (.goto 5, 3) := by decide +kernel
theorem dX12_built_166 : decode cX12_built 166 = .ok (.iload 4, 2) := by decide +kernel
theorem dX12_built_168 : decode cX12_built 168 = .ok (.ireturn, 1) := by decide +kernel
theorem rX12_built : (∀ (d : Nat) (a0 a2 a3 a4 a5 a6 a7 : Value) (x : Int32) (st : List Value) (h : fk_H), fk_ev d qX12_built 0 [a0, .int x, a2, a3, a4, a5, a6, a7] st h = fk_ev d qX12_built 1 [a0, .int x, a2, a3, a4, a5, a6, a7] (.int x :: st) h) ∧
  (∀ (d : Nat) (L st : List Value) (h : fk_H), fk_ev d qX12_built 1 L st h = fk_ev d qX12_built 2 L (.int (nI 0) :: st) h) ∧
  (∀ (d : Nat) (L st : List Value) (h : fk_H), fk_ev d qX12_built 2 L st h = fk_ev d qX12_built 3 L (.int (nI 2) :: st) h) ∧
  (∀ (d : Nat) (L : List Value) (x0 : Int32) (x1 : Int32) (x2 : Int32)  (h : fk_H), fk_ev (d + 1) qX12_built 3 L (.int x2 :: .int x1 :: .int x0 :: []) h = (fk_ev d qX12_in 0 [.int x0, .int x1, .int x2] [] h).bind fun o => fk_ev (d + 1) qX12_built 6 L (o.1.toList ++ []) o.2) ∧
  (∀ (d : Nat) (L : List Value) (x : Int32) (st : List Value) (h : fk_H), fk_ev d qX12_built 6 L (.int x :: st) h = if ¬ x = nI 0 then fk_ev d qX12_built 11 L st h else fk_ev d qX12_built 9 L st h) ∧
  (∀ (d : Nat) (L st : List Value) (h : fk_H), fk_ev d qX12_built 9 L st h = fk_ev d qX12_built 10 L (.int ((-1 : Int32)) :: st) h) ∧
  (∀ (d : Nat) (L : List Value) (x : Int32) (h : fk_H), fk_ev d qX12_built 10 L [.int x] h = some (some (.int x), h)) ∧
  (∀ (d : Nat) (L st : List Value) (h : fk_H), fk_ev d qX12_built 11 L st h = fk_ev d qX12_built 12 L (.int (nI 0) :: st) h) ∧
  (∀ (d : Nat) (a0 a1 a2 a3 a4 a5 a6 a7 : Value) (x : Int32) (st : List Value) (h : fk_H), fk_ev d qX12_built 12 [a0, a1, a2, a3, a4, a5, a6, a7] (.int x :: st) h = fk_ev d qX12_built 13 [a0, a1, .int x, a3, a4, a5, a6, a7] st h) ∧
  (∀ (d : Nat) (L st : List Value) (h : fk_H), fk_ev d qX12_built 13 L st h = fk_ev d qX12_built 14 L (.int (nI 0) :: st) h) ∧
  (∀ (d : Nat) (a0 a1 a2 a3 a4 a5 a6 a7 : Value) (x : Int32) (st : List Value) (h : fk_H), fk_ev d qX12_built 14 [a0, a1, a2, a3, a4, a5, a6, a7] (.int x :: st) h = fk_ev d qX12_built 15 [a0, a1, a2, .int x, a4, a5, a6, a7] st h) ∧
  (∀ (d : Nat) (L st : List Value) (h : fk_H), fk_ev d qX12_built 16 L st h = fk_ev d qX12_built 18 L (.int (nI 32) :: st) h) ∧
  (∀ (d : Nat) (L : List Value) (x y : Int32) (st : List Value) (h : fk_H), fk_ev d qX12_built 18 L (.int y :: .int x :: st) h = if y ≤ x then fk_ev d qX12_built 55 L st h else fk_ev d qX12_built 21 L st h) ∧
  (∀ (d : Nat) (a1 a2 a3 a4 a5 a6 a7 : Value) (x : Nat) (st : List Value) (h : fk_H), fk_ev d qX12_built 21 [.ref x, a1, a2, a3, a4, a5, a6, a7] st h = fk_ev d qX12_built 22 [.ref x, a1, a2, a3, a4, a5, a6, a7] (.ref x :: st) h) ∧
  (∀ (d : Nat) (a0 a1 a2 a4 a5 a6 a7 : Value) (x : Int32) (st : List Value) (h : fk_H), fk_ev d qX12_built 22 [a0, a1, a2, .int x, a4, a5, a6, a7] st h = fk_ev d qX12_built 23 [a0, a1, a2, .int x, a4, a5, a6, a7] (.int x :: st) h) ∧
  (∀ (d : Nat) (L : List Value) (x0 : Int32)  (N : Nat) (y : Nat → Nat → Int32) (l : Nat → Nat → Int64), fk_ev (d + 1) qX12_built 23 L (.int x0 :: .ref 246 :: []) (fk_E N y l) = (fk_ev d qX12_isRoad 0 [.ref 246, .int x0] [] (fk_E N y l)).bind fun o => fk_ev (d + 1) qX12_built 26 L (o.1.toList ++ []) o.2) ∧
  (∀ (d : Nat) (L : List Value) (x : Int32) (st : List Value) (h : fk_H), fk_ev d qX12_built 26 L (.int x :: st) h = if x = nI 0 then fk_ev d qX12_built 49 L st h else fk_ev d qX12_built 29 L st h) ∧
  (∀ (d : Nat) (a0 a1 a3 a4 a5 a6 a7 : Value) (x : Int32) (st : List Value) (h : fk_H), fk_ev d qX12_built 29 [a0, a1, .int x, a3, a4, a5, a6, a7] st h = fk_ev d qX12_built 30 [a0, a1, .int x, a3, a4, a5, a6, a7] (.int x :: st) h) ∧
  (∀ (d : Nat) (L st : List Value) (h : fk_H), fk_ev d qX12_built 30 L st h = fk_ev d qX12_built 31 L (.int (nI 1) :: st) h) ∧
  (∀ (d : Nat) (a1 a2 a3 a4 a5 a6 a7 : Value) (x : Nat) (st : List Value) (h : fk_H), fk_ev d qX12_built 31 [.ref x, a1, a2, a3, a4, a5, a6, a7] st h = fk_ev d qX12_built 32 [.ref x, a1, a2, a3, a4, a5, a6, a7] (.ref x :: st) h) ∧
  (∀ (d : Nat) (L st : List Value) (N : Nat) (y : Nat → Nat → Int32) (l : Nat → Nat → Int64), fk_ev d qX12_built 32 L (.ref 246 :: st) (fk_E N y l) = fk_ev d qX12_built 35 L (.ref 250 :: st) (fk_E N y l)) ∧
  (∀ (d : Nat) (a0 a1 a2 a4 a5 a6 a7 : Value) (x : Int32) (st : List Value) (h : fk_H), fk_ev d qX12_built 35 [a0, a1, a2, .int x, a4, a5, a6, a7] st h = fk_ev d qX12_built 36 [a0, a1, a2, .int x, a4, a5, a6, a7] (.int x :: st) h) ∧
  (∀ (d : Nat) (L st : List Value) (N : Nat) (y : Nat → Nat → Int32) (l : Nat → Nat → Int64) (i : Nat), i < 32 → fk_ev d qX12_built 36 L (.int (nI i) :: .ref 250 :: st) (fk_E N y l) = fk_ev d qX12_built 37 L (.int (y 250 i) :: st) (fk_E N y l)) ∧
  (∀ (d : Nat) (L : List Value) (x y : Int32) (st : List Value) (h : fk_H), fk_ev d qX12_built 37 L (.int y :: .int x :: st) h = fk_ev d qX12_built 38 L (.int (x <<< (y &&& 31)) :: st) h) ∧
  (∀ (d : Nat) (L : List Value) (x y : Int32) (st : List Value) (h : fk_H), fk_ev d qX12_built 38 L (.int y :: .int x :: st) h = fk_ev d qX12_built 39 L (.int (x ||| y) :: st) h) ∧
  (∀ (d : Nat) (L st : List Value) (h : fk_H), fk_ev d qX12_built 39 L st h = fk_ev d qX12_built 40 L (.int (nI 1) :: st) h) ∧
  (∀ (d : Nat) (a1 a2 a3 a4 a5 a6 a7 : Value) (x : Nat) (st : List Value) (h : fk_H), fk_ev d qX12_built 40 [.ref x, a1, a2, a3, a4, a5, a6, a7] st h = fk_ev d qX12_built 41 [.ref x, a1, a2, a3, a4, a5, a6, a7] (.ref x :: st) h) ∧
  (∀ (d : Nat) (L st : List Value) (N : Nat) (y : Nat → Nat → Int32) (l : Nat → Nat → Int64), fk_ev d qX12_built 41 L (.ref 246 :: st) (fk_E N y l) = fk_ev d qX12_built 44 L (.ref 251 :: st) (fk_E N y l)) ∧
  (∀ (d : Nat) (a0 a1 a2 a4 a5 a6 a7 : Value) (x : Int32) (st : List Value) (h : fk_H), fk_ev d qX12_built 44 [a0, a1, a2, .int x, a4, a5, a6, a7] st h = fk_ev d qX12_built 45 [a0, a1, a2, .int x, a4, a5, a6, a7] (.int x :: st) h) ∧
  (∀ (d : Nat) (L st : List Value) (N : Nat) (y : Nat → Nat → Int32) (l : Nat → Nat → Int64) (i : Nat), i < 32 → fk_ev d qX12_built 45 L (.int (nI i) :: .ref 251 :: st) (fk_E N y l) = fk_ev d qX12_built 46 L (.int (y 251 i) :: st) (fk_E N y l)) ∧
  (∀ (d : Nat) (L : List Value) (x y : Int32) (st : List Value) (h : fk_H), fk_ev d qX12_built 46 L (.int y :: .int x :: st) h = fk_ev d qX12_built 47 L (.int (x <<< (y &&& 31)) :: st) h) ∧
  (∀ (d : Nat) (L : List Value) (x y : Int32) (st : List Value) (h : fk_H), fk_ev d qX12_built 47 L (.int y :: .int x :: st) h = fk_ev d qX12_built 48 L (.int (x ||| y) :: st) h) ∧
  (∀ (d : Nat) (a0 a1 a2 a3 a4 a5 a6 a7 : Value) (x : Int32) (st : List Value) (h : fk_H), fk_ev d qX12_built 48 [a0, a1, a2, a3, a4, a5, a6, a7] (.int x :: st) h = fk_ev d qX12_built 49 [a0, a1, .int x, a3, a4, a5, a6, a7] st h) ∧
  (∀ (d : Nat) (a0 a1 a2 a4 a5 a6 a7 : Value) (x : Int32) (st : List Value) (h : fk_H), fk_ev d qX12_built 49 [a0, a1, a2, .int x, a4, a5, a6, a7] st h = fk_ev d qX12_built 52 [a0, a1, a2, .int (x + nI 1), a4, a5, a6, a7] st h) ∧
  (∀ (d : Nat) (L st : List Value) (h : fk_H), fk_ev d qX12_built 52 L st h = fk_ev d qX12_built 15 L st h) ∧
  (∀ (d : Nat) (L st : List Value) (h : fk_H), fk_ev d qX12_built 55 L st h = fk_ev d qX12_built 56 L (.int (nI 0) :: st) h) ∧
  (∀ (d : Nat) (a0 a1 a2 a3 a4 a5 a6 a7 : Value) (x : Int32) (st : List Value) (h : fk_H), fk_ev d qX12_built 56 [a0, a1, a2, a3, a4, a5, a6, a7] (.int x :: st) h = fk_ev d qX12_built 57 [a0, a1, a2, .int x, a4, a5, a6, a7] st h) ∧
  (∀ (d : Nat) (L st : List Value) (h : fk_H), fk_ev d qX12_built 57 L st h = fk_ev d qX12_built 58 L (.int (nI 0) :: st) h) ∧
  (∀ (d : Nat) (a0 a1 a2 a3 a4 a5 a6 a7 : Value) (x : Int32) (st : List Value) (h : fk_H), fk_ev d qX12_built 58 [a0, a1, a2, a3, a4, a5, a6, a7] (.int x :: st) h = fk_ev d qX12_built 60 [a0, a1, a2, a3, .int x, a5, a6, a7] st h) ∧
  (∀ (d : Nat) (L st : List Value) (h : fk_H), fk_ev d qX12_built 60 L st h = fk_ev d qX12_built 61 L (.int (nI 0) :: st) h) ∧
  (∀ (d : Nat) (a0 a1 a2 a3 a4 a5 a6 a7 : Value) (x : Int32) (st : List Value) (h : fk_H), fk_ev d qX12_built 61 [a0, a1, a2, a3, a4, a5, a6, a7] (.int x :: st) h = fk_ev d qX12_built 63 [a0, a1, a2, a3, a4, .int x, a6, a7] st h) ∧
  (∀ (d : Nat) (L st : List Value) (h : fk_H), fk_ev d qX12_built 63 L st h = fk_ev d qX12_built 64 L (.int (nI 0) :: st) h) ∧
  (∀ (d : Nat) (a0 a1 a2 a3 a4 a5 a6 a7 : Value) (x : Int32) (st : List Value) (h : fk_H), fk_ev d qX12_built 64 [a0, a1, a2, a3, a4, a5, a6, a7] (.int x :: st) h = fk_ev d qX12_built 66 [a0, a1, a2, a3, a4, a5, .int x, a7] st h) ∧
  (∀ (d : Nat) (L st : List Value) (h : fk_H), fk_ev d qX12_built 68 L st h = fk_ev d qX12_built 70 L (.int (nI 16) :: st) h) ∧
  (∀ (d : Nat) (L : List Value) (x y : Int32) (st : List Value) (h : fk_H), fk_ev d qX12_built 70 L (.int y :: .int x :: st) h = if y ≤ x then fk_ev d qX12_built 143 L st h else fk_ev d qX12_built 73 L st h) ∧
  (∀ (d : Nat) (a0 a1 a3 a4 a5 a6 a7 : Value) (x : Int32) (st : List Value) (h : fk_H), fk_ev d qX12_built 73 [a0, a1, .int x, a3, a4, a5, a6, a7] st h = fk_ev d qX12_built 74 [a0, a1, .int x, a3, a4, a5, a6, a7] (.int x :: st) h) ∧
  (∀ (d : Nat) (a0 a1 a2 a3 a4 a5 a7 : Value) (x : Int32) (st : List Value) (h : fk_H), fk_ev d qX12_built 74 [a0, a1, a2, a3, a4, a5, .int x, a7] st h = fk_ev d qX12_built 76 [a0, a1, a2, a3, a4, a5, .int x, a7] (.int x :: st) h) ∧
  (∀ (d : Nat) (L : List Value) (x0 : Int32) (x1 : Int32)  (h : fk_H), fk_ev (d + 1) qX12_built 76 L (.int x1 :: .int x0 :: []) h = (fk_ev d qX12_has 0 [.int x0, .int x1] [] h).bind fun o => fk_ev (d + 1) qX12_built 79 L (o.1.toList ++ []) o.2) ∧
  (∀ (d : Nat) (L : List Value) (x : Int32) (st : List Value) (h : fk_H), fk_ev d qX12_built 79 L (.int x :: st) h = if x = nI 0 then fk_ev d qX12_built 137 L st h else fk_ev d qX12_built 82 L st h) ∧
  (∀ (d : Nat) (a0 a1 a2 a3 a4 a6 a7 : Value) (x : Int32) (st : List Value) (h : fk_H), fk_ev d qX12_built 82 [a0, a1, a2, a3, a4, .int x, a6, a7] st h = fk_ev d qX12_built 84 [a0, a1, a2, a3, a4, .int x, a6, a7] (.int x :: st) h) ∧
  (∀ (d : Nat) (a0 a1 a2 a3 a4 a5 a7 : Value) (x : Int32) (st : List Value) (h : fk_H), fk_ev d qX12_built 84 [a0, a1, a2, a3, a4, a5, .int x, a7] st h = fk_ev d qX12_built 86 [a0, a1, a2, a3, a4, a5, .int x, a7] (.int x :: st) h) ∧
  (∀ (d : Nat) (L : List Value) (x0 : Int32) (x1 : Int32)  (h : fk_H), fk_ev (d + 1) qX12_built 86 L (.int x1 :: .int x0 :: []) h = (fk_ev d qX12_has 0 [.int x0, .int x1] [] h).bind fun o => fk_ev (d + 1) qX12_built 89 L (o.1.toList ++ []) o.2) ∧
  (∀ (d : Nat) (L : List Value) (x : Int32) (st : List Value) (h : fk_H), fk_ev d qX12_built 89 L (.int x :: st) h = if ¬ x = nI 0 then fk_ev d qX12_built 137 L st h else fk_ev d qX12_built 92 L st h) ∧
  (∀ (d : Nat) (a1 a2 a3 a4 a5 a6 a7 : Value) (x : Nat) (st : List Value) (h : fk_H), fk_ev d qX12_built 92 [.ref x, a1, a2, a3, a4, a5, a6, a7] st h = fk_ev d qX12_built 93 [.ref x, a1, a2, a3, a4, a5, a6, a7] (.ref x :: st) h) ∧
  (∀ (d : Nat) (a0 a1 a2 a3 a4 a5 a7 : Value) (x : Int32) (st : List Value) (h : fk_H), fk_ev d qX12_built 93 [a0, a1, a2, a3, a4, a5, .int x, a7] st h = fk_ev d qX12_built 95 [a0, a1, a2, a3, a4, a5, .int x, a7] (.int x :: st) h) ∧
  (∀ (d : Nat) (L : List Value) (x0 : Int32)  (N : Nat) (y : Nat → Nat → Int32) (l : Nat → Nat → Int64), fk_ev (d + 1) qX12_built 95 L (.int x0 :: .ref 246 :: []) (fk_E N y l) = (fk_ev d qX12_isLast 0 [.ref 246, .int x0, .null, .null] [] (fk_E N y l)).bind fun o => fk_ev (d + 1) qX12_built 98 L (o.1.toList ++ []) o.2) ∧
  (∀ (d : Nat) (L : List Value) (x : Int32) (st : List Value) (h : fk_H), fk_ev d qX12_built 98 L (.int x :: st) h = if ¬ x = nI 0 then fk_ev d qX12_built 104 L st h else fk_ev d qX12_built 101 L st h) ∧
  (∀ (d : Nat) (L st : List Value) (h : fk_H), fk_ev d qX12_built 101 L st h = fk_ev d qX12_built 137 L st h) ∧
  (∀ (d : Nat) (a1 a2 a3 a4 a5 a6 a7 : Value) (x : Nat) (st : List Value) (h : fk_H), fk_ev d qX12_built 104 [.ref x, a1, a2, a3, a4, a5, a6, a7] st h = fk_ev d qX12_built 105 [.ref x, a1, a2, a3, a4, a5, a6, a7] (.ref x :: st) h) ∧
  (∀ (d : Nat) (a0 a1 a2 a3 a4 a5 a7 : Value) (x : Int32) (st : List Value) (h : fk_H), fk_ev d qX12_built 105 [a0, a1, a2, a3, a4, a5, .int x, a7] st h = fk_ev d qX12_built 107 [a0, a1, a2, a3, a4, a5, .int x, a7] (.int x :: st) h) ∧
  (∀ (d : Nat) (L st : List Value) (h : fk_H), fk_ev d qX12_built 107 L st h = fk_ev d qX12_built 108 L (.int (nI 0) :: st) h) ∧
  (∀ (d : Nat) (L : List Value) (x0 : Int32) (x1 : Int32)  (N : Nat) (y : Nat → Nat → Int32) (l : Nat → Nat → Int64), fk_ev (d + 1) qX12_built 108 L (.int x1 :: .int x0 :: .ref 246 :: []) (fk_E N y l) = (fk_ev d qX12_reachedFrom 0 [.ref 246, .int x0, .int x1, .null, .null, .null] [] (fk_E N y l)).bind fun o => fk_ev (d + 1) qX12_built 111 L (o.1.toList ++ []) o.2) ∧
  (∀ (d : Nat) (a0 a1 a2 a3 a4 a5 a6 a7 : Value) (x : Int32) (st : List Value) (h : fk_H), fk_ev d qX12_built 111 [a0, a1, a2, a3, a4, a5, a6, a7] (.int x :: st) h = fk_ev d qX12_built 113 [a0, a1, a2, a3, a4, a5, a6, .int x] st h) ∧
  (∀ (d : Nat) (a0 a1 a2 a3 a4 a6 a7 : Value) (x : Int32) (st : List Value) (h : fk_H), fk_ev d qX12_built 113 [a0, a1, a2, a3, a4, .int x, a6, a7] st h = fk_ev d qX12_built 115 [a0, a1, a2, a3, a4, .int x, a6, a7] (.int x :: st) h) ∧
  (∀ (d : Nat) (a0 a1 a2 a3 a4 a5 a6 : Value) (x : Int32) (st : List Value) (h : fk_H), fk_ev d qX12_built 115 [a0, a1, a2, a3, a4, a5, a6, .int x] st h = fk_ev d qX12_built 117 [a0, a1, a2, a3, a4, a5, a6, .int x] (.int x :: st) h) ∧
  (∀ (d : Nat) (L : List Value) (x y : Int32) (st : List Value) (h : fk_H), fk_ev d qX12_built 117 L (.int y :: .int x :: st) h = fk_ev d qX12_built 118 L (.int (x ||| y) :: st) h) ∧
  (∀ (d : Nat) (a0 a1 a2 a3 a4 a5 a6 a7 : Value) (x : Int32) (st : List Value) (h : fk_H), fk_ev d qX12_built 118 [a0, a1, a2, a3, a4, a5, a6, a7] (.int x :: st) h = fk_ev d qX12_built 120 [a0, a1, a2, a3, a4, .int x, a6, a7] st h) ∧
  (∀ (d : Nat) (a0 a1 a2 a4 a5 a6 a7 : Value) (x : Int32) (st : List Value) (h : fk_H), fk_ev d qX12_built 120 [a0, a1, a2, .int x, a4, a5, a6, a7] st h = fk_ev d qX12_built 121 [a0, a1, a2, .int x, a4, a5, a6, a7] (.int x :: st) h) ∧
  (∀ (d : Nat) (L : List Value) (x : Int32) (st : List Value) (h : fk_H), fk_ev d qX12_built 121 L (.int x :: st) h = if ¬ x = nI 0 then fk_ev d qX12_built 129 L st h else fk_ev d qX12_built 124 L st h) ∧
  (∀ (d : Nat) (a0 a1 a2 a3 a4 a5 a6 : Value) (x : Int32) (st : List Value) (h : fk_H), fk_ev d qX12_built 124 [a0, a1, a2, a3, a4, a5, a6, .int x] st h = fk_ev d qX12_built 126 [a0, a1, a2, a3, a4, a5, a6, .int x] (.int x :: st) h) ∧
  (∀ (d : Nat) (L st : List Value) (h : fk_H), fk_ev d qX12_built 126 L st h = fk_ev d qX12_built 131 L st h) ∧
  (∀ (d : Nat) (a0 a1 a2 a3 a5 a6 a7 : Value) (x : Int32) (st : List Value) (h : fk_H), fk_ev d qX12_built 129 [a0, a1, a2, a3, .int x, a5, a6, a7] st h = fk_ev d qX12_built 131 [a0, a1, a2, a3, .int x, a5, a6, a7] (.int x :: st) h) ∧
  (∀ (d : Nat) (a0 a1 a2 a3 a4 a5 a6 a7 : Value) (x : Int32) (st : List Value) (h : fk_H), fk_ev d qX12_built 131 [a0, a1, a2, a3, a4, a5, a6, a7] (.int x :: st) h = fk_ev d qX12_built 133 [a0, a1, a2, a3, .int x, a5, a6, a7] st h) ∧
  (∀ (d : Nat) (a0 a1 a2 a4 a5 a6 a7 : Value) (x : Int32) (st : List Value) (h : fk_H), fk_ev d qX12_built 133 [a0, a1, a2, .int x, a4, a5, a6, a7] st h = fk_ev d qX12_built 134 [a0, a1, a2, .int x, a4, a5, a6, a7] (.int x :: st) h) ∧
  (∀ (d : Nat) (L st : List Value) (h : fk_H), fk_ev d qX12_built 134 L st h = fk_ev d qX12_built 135 L (.int (nI 1) :: st) h) ∧
  (∀ (d : Nat) (L : List Value) (x y : Int32) (st : List Value) (h : fk_H), fk_ev d qX12_built 135 L (.int y :: .int x :: st) h = fk_ev d qX12_built 136 L (.int (x + y) :: st) h) ∧
  (∀ (d : Nat) (a0 a1 a2 a3 a4 a5 a6 a7 : Value) (x : Int32) (st : List Value) (h : fk_H), fk_ev d qX12_built 136 [a0, a1, a2, a3, a4, a5, a6, a7] (.int x :: st) h = fk_ev d qX12_built 137 [a0, a1, a2, .int x, a4, a5, a6, a7] st h) ∧
  (∀ (d : Nat) (a0 a1 a2 a3 a4 a5 a7 : Value) (x : Int32) (st : List Value) (h : fk_H), fk_ev d qX12_built 137 [a0, a1, a2, a3, a4, a5, .int x, a7] st h = fk_ev d qX12_built 140 [a0, a1, a2, a3, a4, a5, .int (x + nI 1), a7] st h) ∧
  (∀ (d : Nat) (L st : List Value) (h : fk_H), fk_ev d qX12_built 140 L st h = fk_ev d qX12_built 66 L st h) ∧
  (∀ (d : Nat) (a0 a2 a3 a4 a5 a6 a7 : Value) (x : Int32) (st : List Value) (h : fk_H), fk_ev d qX12_built 143 [a0, .int x, a2, a3, a4, a5, a6, a7] st h = fk_ev d qX12_built 144 [a0, .int x, a2, a3, a4, a5, a6, a7] (.int x :: st) h) ∧
  (∀ (d : Nat) (L : List Value) (x : Int32) (st : List Value) (h : fk_H), fk_ev d qX12_built 144 L (.int x :: st) h = if ¬ x = nI 0 then fk_ev d qX12_built 157 L st h else fk_ev d qX12_built 147 L st h) ∧
  (∀ (d : Nat) (L st : List Value) (h : fk_H), fk_ev d qX12_built 147 L st h = fk_ev d qX12_built 148 L (.int (nI 0) :: st) h) ∧
  (∀ (d : Nat) (a0 a1 a2 a4 a5 a6 a7 : Value) (x : Int32) (st : List Value) (h : fk_H), fk_ev d qX12_built 148 [a0, a1, a2, .int x, a4, a5, a6, a7] st h = fk_ev d qX12_built 149 [a0, a1, a2, .int x, a4, a5, a6, a7] (.int x :: st) h) ∧
  (∀ (d : Nat) (L st : List Value) (h : fk_H), fk_ev d qX12_built 149 L st h = fk_ev d qX12_built 150 L (.int (nI 1) :: st) h) ∧
  (∀ (d : Nat) (L : List Value) (x y : Int32) (st : List Value) (h : fk_H), fk_ev d qX12_built 150 L (.int y :: .int x :: st) h = fk_ev d qX12_built 151 L (.int (x - y) :: st) h) ∧
  (∀ (d : Nat) (L : List Value) (x0 : Int32) (x1 : Int32)  (h : fk_H), fk_ev (d + 1) qX12_built 151 L (.int x1 :: .int x0 :: []) h = (fk_ev d qX12_max 0 [.int x0, .int x1] [] h).bind fun o => fk_ev (d + 1) qX12_built 154 L (o.1.toList ++ []) o.2) ∧
  (∀ (d : Nat) (L st : List Value) (h : fk_H), fk_ev d qX12_built 154 L st h = fk_ev d qX12_built 168 L st h) ∧
  (∀ (d : Nat) (a0 a2 a3 a4 a5 a6 a7 : Value) (x : Int32) (st : List Value) (h : fk_H), fk_ev d qX12_built 157 [a0, .int x, a2, a3, a4, a5, a6, a7] st h = fk_ev d qX12_built 158 [a0, .int x, a2, a3, a4, a5, a6, a7] (.int x :: st) h) ∧
  (∀ (d : Nat) (L st : List Value) (h : fk_H), fk_ev d qX12_built 158 L st h = fk_ev d qX12_built 159 L (.int (nI 1) :: st) h) ∧
  (∀ (d : Nat) (L : List Value) (x y : Int32) (st : List Value) (h : fk_H), fk_ev d qX12_built 159 L (.int y :: .int x :: st) h = if ¬ x = y then fk_ev d qX12_built 166 L st h else fk_ev d qX12_built 162 L st h) ∧
  (∀ (d : Nat) (a0 a1 a2 a4 a5 a6 a7 : Value) (x : Int32) (st : List Value) (h : fk_H), fk_ev d qX12_built 162 [a0, a1, a2, .int x, a4, a5, a6, a7] st h = fk_ev d qX12_built 163 [a0, a1, a2, .int x, a4, a5, a6, a7] (.int x :: st) h) ∧
  (∀ (d : Nat) (L st : List Value) (h : fk_H), fk_ev d qX12_built 163 L st h = fk_ev d qX12_built 168 L st h) ∧
  (∀ (d : Nat) (a0 a1 a2 a3 a5 a6 a7 : Value) (x : Int32) (st : List Value) (h : fk_H), fk_ev d qX12_built 166 [a0, a1, a2, a3, .int x, a5, a6, a7] st h = fk_ev d qX12_built 168 [a0, a1, a2, a3, .int x, a5, a6, a7] (.int x :: st) h) ∧
  (∀ (d : Nat) (L : List Value) (x : Int32) (h : fk_H), fk_ev d qX12_built 168 L [.int x] h = some (some (.int x), h)) := ⟨fun d a0 a2 a3 a4 a5 a6 a7 x st h => fk_w_iloadn 1 [a0, .int x, a2, a3, a4, a5, a6, a7] dX12_built_0 rfl,
  fun d L st h => fk_w_iconst dX12_built_1 (by decide),
  fun d L st h => fk_w_iconst dX12_built_2 (by decide),
  fun d L x0 x1 x2 h => fk_g_calls [.int x0, .int x1, .int x2] [] rfl lm_12_112 dX12_built_3 rfl ⟨rfl, by decide⟩ (by simp),
  fun d L x st h => fk_r_if_ne dX12_built_6 (by decide),
  fun d L st h => fk_w_iconst dX12_built_9 (by decide),
  fun d L x h => fk_r_ret dX12_built_10 (Or.inl rfl),
  fun d L st h => fk_w_iconst dX12_built_11 (by decide),
  fun d a0 a1 a2 a3 a4 a5 a6 a7 x st h => fk_w_istoren 2 8 [] [a0, a1, a2, a3, a4, a5, a6, a7] [a0, a1, .int x, a3, a4, a5, a6, a7] dX12_built_12 rfl rfl (by decide) rfl,
  fun d L st h => fk_w_iconst dX12_built_13 (by decide),
  fun d a0 a1 a2 a3 a4 a5 a6 a7 x st h => fk_w_istoren 3 8 [] [a0, a1, a2, a3, a4, a5, a6, a7] [a0, a1, a2, .int x, a4, a5, a6, a7] dX12_built_14 rfl rfl (by decide) rfl,
  fun d L st h => fk_w_bipush dX12_built_16 (by decide),
  fun d L x y st h => fk_r_icmp_ge dX12_built_18 (by decide),
  fun d a1 a2 a3 a4 a5 a6 a7 x st h => fk_w_aloadn 0 [.ref x, a1, a2, a3, a4, a5, a6, a7] dX12_built_21 rfl,
  fun d a0 a1 a2 a4 a5 a6 a7 x st h => fk_w_iloadn 3 [a0, a1, a2, .int x, a4, a5, a6, a7] dX12_built_22 rfl,
  fun d L x0 N y l  => fk_g_call [.int x0] [] rfl lm_12_289 dX12_built_23 rfl ⟨rfl, by decide⟩ (by simp) fk_at_246,
  fun d L x st h => fk_r_if_eq dX12_built_26 (by decide),
  fun d a0 a1 a3 a4 a5 a6 a7 x st h => fk_w_iloadn 2 [a0, a1, .int x, a3, a4, a5, a6, a7] dX12_built_29 rfl,
  fun d L st h => fk_w_iconst dX12_built_30 (by decide),
  fun d a1 a2 a3 a4 a5 a6 a7 x st h => fk_w_aloadn 0 [.ref x, a1, a2, a3, a4, a5, a6, a7] dX12_built_31 rfl,
  fun d L st N y l => fk_g_getC rfl lf_12_19 (by decide) rfl dX12_built_32 fk_at_246,
  fun d a0 a1 a2 a4 a5 a6 a7 x st h => fk_w_iloadn 3 [a0, a1, a2, .int x, a4, a5, a6, a7] dX12_built_35 rfl,
  fun d L st N y l i hi => fk_g_iald fk_at_250 fk_ln_250 (by decide) dX12_built_36 hi,
  fun d L x y st h => fk_r_ishl dX12_built_37,
  fun d L x y st h => fk_r_ior dX12_built_38,
  fun d L st h => fk_w_iconst dX12_built_39 (by decide),
  fun d a1 a2 a3 a4 a5 a6 a7 x st h => fk_w_aloadn 0 [.ref x, a1, a2, a3, a4, a5, a6, a7] dX12_built_40 rfl,
  fun d L st N y l => fk_g_getC rfl lf_12_22 (by decide) rfl dX12_built_41 fk_at_246,
  fun d a0 a1 a2 a4 a5 a6 a7 x st h => fk_w_iloadn 3 [a0, a1, a2, .int x, a4, a5, a6, a7] dX12_built_44 rfl,
  fun d L st N y l i hi => fk_g_iald fk_at_251 fk_ln_251 (by decide) dX12_built_45 hi,
  fun d L x y st h => fk_r_ishl dX12_built_46,
  fun d L x y st h => fk_r_ior dX12_built_47,
  fun d a0 a1 a2 a3 a4 a5 a6 a7 x st h => fk_w_istoren 2 8 [] [a0, a1, a2, a3, a4, a5, a6, a7] [a0, a1, .int x, a3, a4, a5, a6, a7] dX12_built_48 rfl rfl (by decide) rfl,
  fun d a0 a1 a2 a4 a5 a6 a7 x st h => fk_w_iinc 3 8 (1) [] [a0, a1, a2, .int x, a4, a5, a6, a7] [a0, a1, a2, .int (x + nI 1), a4, a5, a6, a7] dX12_built_49 rfl rfl rfl (by decide) rfl,
  fun d L st h => fk_r_goto dX12_built_52 (by decide),
  fun d L st h => fk_w_iconst dX12_built_55 (by decide),
  fun d a0 a1 a2 a3 a4 a5 a6 a7 x st h => fk_w_istoren 3 8 [] [a0, a1, a2, a3, a4, a5, a6, a7] [a0, a1, a2, .int x, a4, a5, a6, a7] dX12_built_56 rfl rfl (by decide) rfl,
  fun d L st h => fk_w_iconst dX12_built_57 (by decide),
  fun d a0 a1 a2 a3 a4 a5 a6 a7 x st h => fk_w_istore 4 8 [] [a0, a1, a2, a3, a4, a5, a6, a7] [a0, a1, a2, a3, .int x, a5, a6, a7] dX12_built_58 rfl rfl (by decide) rfl,
  fun d L st h => fk_w_iconst dX12_built_60 (by decide),
  fun d a0 a1 a2 a3 a4 a5 a6 a7 x st h => fk_w_istore 5 8 [] [a0, a1, a2, a3, a4, a5, a6, a7] [a0, a1, a2, a3, a4, .int x, a6, a7] dX12_built_61 rfl rfl (by decide) rfl,
  fun d L st h => fk_w_iconst dX12_built_63 (by decide),
  fun d a0 a1 a2 a3 a4 a5 a6 a7 x st h => fk_w_istore 6 8 [] [a0, a1, a2, a3, a4, a5, a6, a7] [a0, a1, a2, a3, a4, a5, .int x, a7] dX12_built_64 rfl rfl (by decide) rfl,
  fun d L st h => fk_w_bipush dX12_built_68 (by decide),
  fun d L x y st h => fk_r_icmp_ge dX12_built_70 (by decide),
  fun d a0 a1 a3 a4 a5 a6 a7 x st h => fk_w_iloadn 2 [a0, a1, .int x, a3, a4, a5, a6, a7] dX12_built_73 rfl,
  fun d a0 a1 a2 a3 a4 a5 a7 x st h => fk_w_iload 6 [a0, a1, a2, a3, a4, a5, .int x, a7] dX12_built_74 rfl,
  fun d L x0 x1 h => fk_g_calls [.int x0, .int x1] [] rfl lm_12_108 dX12_built_76 rfl ⟨rfl, by decide⟩ (by simp),
  fun d L x st h => fk_r_if_eq dX12_built_79 (by decide),
  fun d a0 a1 a2 a3 a4 a6 a7 x st h => fk_w_iload 5 [a0, a1, a2, a3, a4, .int x, a6, a7] dX12_built_82 rfl,
  fun d a0 a1 a2 a3 a4 a5 a7 x st h => fk_w_iload 6 [a0, a1, a2, a3, a4, a5, .int x, a7] dX12_built_84 rfl,
  fun d L x0 x1 h => fk_g_calls [.int x0, .int x1] [] rfl lm_12_108 dX12_built_86 rfl ⟨rfl, by decide⟩ (by simp),
  fun d L x st h => fk_r_if_ne dX12_built_89 (by decide),
  fun d a1 a2 a3 a4 a5 a6 a7 x st h => fk_w_aloadn 0 [.ref x, a1, a2, a3, a4, a5, a6, a7] dX12_built_92 rfl,
  fun d a0 a1 a2 a3 a4 a5 a7 x st h => fk_w_iload 6 [a0, a1, a2, a3, a4, a5, .int x, a7] dX12_built_93 rfl,
  fun d L x0 N y l  => fk_g_call [.int x0] [] rfl lm_12_400 dX12_built_95 rfl ⟨rfl, by decide⟩ (by simp) fk_at_246,
  fun d L x st h => fk_r_if_ne dX12_built_98 (by decide),
  fun d L st h => fk_r_goto dX12_built_101 (by decide),
  fun d a1 a2 a3 a4 a5 a6 a7 x st h => fk_w_aloadn 0 [.ref x, a1, a2, a3, a4, a5, a6, a7] dX12_built_104 rfl,
  fun d a0 a1 a2 a3 a4 a5 a7 x st h => fk_w_iload 6 [a0, a1, a2, a3, a4, a5, .int x, a7] dX12_built_105 rfl,
  fun d L st h => fk_w_iconst dX12_built_107 (by decide),
  fun d L x0 x1 N y l  => fk_g_call [.int x0, .int x1] [] rfl lm_12_397 dX12_built_108 rfl ⟨rfl, by decide⟩ (by simp) fk_at_246,
  fun d a0 a1 a2 a3 a4 a5 a6 a7 x st h => fk_w_istore 7 8 [] [a0, a1, a2, a3, a4, a5, a6, a7] [a0, a1, a2, a3, a4, a5, a6, .int x] dX12_built_111 rfl rfl (by decide) rfl,
  fun d a0 a1 a2 a3 a4 a6 a7 x st h => fk_w_iload 5 [a0, a1, a2, a3, a4, .int x, a6, a7] dX12_built_113 rfl,
  fun d a0 a1 a2 a3 a4 a5 a6 x st h => fk_w_iload 7 [a0, a1, a2, a3, a4, a5, a6, .int x] dX12_built_115 rfl,
  fun d L x y st h => fk_r_ior dX12_built_117,
  fun d a0 a1 a2 a3 a4 a5 a6 a7 x st h => fk_w_istore 5 8 [] [a0, a1, a2, a3, a4, a5, a6, a7] [a0, a1, a2, a3, a4, .int x, a6, a7] dX12_built_118 rfl rfl (by decide) rfl,
  fun d a0 a1 a2 a4 a5 a6 a7 x st h => fk_w_iloadn 3 [a0, a1, a2, .int x, a4, a5, a6, a7] dX12_built_120 rfl,
  fun d L x st h => fk_r_if_ne dX12_built_121 (by decide),
  fun d a0 a1 a2 a3 a4 a5 a6 x st h => fk_w_iload 7 [a0, a1, a2, a3, a4, a5, a6, .int x] dX12_built_124 rfl,
  fun d L st h => fk_r_goto dX12_built_126 (by decide),
  fun d a0 a1 a2 a3 a5 a6 a7 x st h => fk_w_iload 4 [a0, a1, a2, a3, .int x, a5, a6, a7] dX12_built_129 rfl,
  fun d a0 a1 a2 a3 a4 a5 a6 a7 x st h => fk_w_istore 4 8 [] [a0, a1, a2, a3, a4, a5, a6, a7] [a0, a1, a2, a3, .int x, a5, a6, a7] dX12_built_131 rfl rfl (by decide) rfl,
  fun d a0 a1 a2 a4 a5 a6 a7 x st h => fk_w_iloadn 3 [a0, a1, a2, .int x, a4, a5, a6, a7] dX12_built_133 rfl,
  fun d L st h => fk_w_iconst dX12_built_134 (by decide),
  fun d L x y st h => fk_r_iadd dX12_built_135,
  fun d a0 a1 a2 a3 a4 a5 a6 a7 x st h => fk_w_istoren 3 8 [] [a0, a1, a2, a3, a4, a5, a6, a7] [a0, a1, a2, .int x, a4, a5, a6, a7] dX12_built_136 rfl rfl (by decide) rfl,
  fun d a0 a1 a2 a3 a4 a5 a7 x st h => fk_w_iinc 6 8 (1) [] [a0, a1, a2, a3, a4, a5, .int x, a7] [a0, a1, a2, a3, a4, a5, .int (x + nI 1), a7] dX12_built_137 rfl rfl rfl (by decide) rfl,
  fun d L st h => fk_r_goto dX12_built_140 (by decide),
  fun d a0 a2 a3 a4 a5 a6 a7 x st h => fk_w_iloadn 1 [a0, .int x, a2, a3, a4, a5, a6, a7] dX12_built_143 rfl,
  fun d L x st h => fk_r_if_ne dX12_built_144 (by decide),
  fun d L st h => fk_w_iconst dX12_built_147 (by decide),
  fun d a0 a1 a2 a4 a5 a6 a7 x st h => fk_w_iloadn 3 [a0, a1, a2, .int x, a4, a5, a6, a7] dX12_built_148 rfl,
  fun d L st h => fk_w_iconst dX12_built_149 (by decide),
  fun d L x y st h => fk_r_isub dX12_built_150,
  fun d L x0 x1 h => fk_g_calls [.int x0, .int x1] [] rfl lm_12_257 dX12_built_151 rfl ⟨rfl, by decide⟩ (by simp),
  fun d L st h => fk_r_goto dX12_built_154 (by decide),
  fun d a0 a2 a3 a4 a5 a6 a7 x st h => fk_w_iloadn 1 [a0, .int x, a2, a3, a4, a5, a6, a7] dX12_built_157 rfl,
  fun d L st h => fk_w_iconst dX12_built_158 (by decide),
  fun d L x y st h => fk_r_icmp_ne dX12_built_159 (by decide),
  fun d a0 a1 a2 a4 a5 a6 a7 x st h => fk_w_iloadn 3 [a0, a1, a2, .int x, a4, a5, a6, a7] dX12_built_162 rfl,
  fun d L st h => fk_r_goto dX12_built_163 (by decide),
  fun d a0 a1 a2 a3 a5 a6 a7 x st h => fk_w_iload 4 [a0, a1, a2, a3, .int x, a5, a6, a7] dX12_built_166 rfl,
  fun d L x h => fk_r_ret dX12_built_168 (Or.inl rfl)⟩
theorem hX12_built_15 : ∀ (d : Nat) (a0 a1 a2 a4 a5 a6 a7 : Value) (x : Int32) (st : List Value) (h : fk_H), fk_ev d qX12_built 15 [a0, a1, a2, .int x, a4, a5, a6, a7] st h = fk_ev d qX12_built 16 [a0, a1, a2, .int x, a4, a5, a6, a7] (.int x :: st) h := fun d a0 a1 a2 a4 a5 a6 a7 x st h => fk_w_iloadn 3 [a0, a1, a2, .int x, a4, a5, a6, a7] dX12_built_15 rfl
theorem hX12_built_66 : ∀ (d : Nat) (a0 a1 a2 a3 a4 a5 a7 : Value) (x : Int32) (st : List Value) (h : fk_H), fk_ev d qX12_built 66 [a0, a1, a2, a3, a4, a5, .int x, a7] st h = fk_ev d qX12_built 68 [a0, a1, a2, a3, a4, a5, .int x, a7] (.int x :: st) h := fun d a0 a1 a2 a3 a4 a5 a7 x st h => fk_w_iload 6 [a0, a1, a2, a3, a4, a5, .int x, a7] dX12_built_66 rfl
