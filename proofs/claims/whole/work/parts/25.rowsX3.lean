theorem dX8_together_0 : decode cX8_together 0 = .ok (.iconst 0, 1) := by decide +kernel
theorem dX8_together_1 : decode cX8_together 1 = .ok (.istore_n 3, 1) := by decide +kernel
theorem dX8_together_2 : decode cX8_together 2 = .ok (.iconst 0, 1) := by decide +kernel
theorem dX8_together_3 : decode cX8_together 3 = .ok (.istore 4, 2) := by decide +kernel
theorem dX8_together_5 : decode cX8_together 5 = .ok (.iload 4, 2) := by decide +kernel
theorem dX8_together_7 : decode cX8_together 7 = .ok (.aload_n 0, 1) := by decide +kernel
theorem dX8_together_8 : decode cX8_together 8 = .ok (.getfield 21, 3) := by decide +kernel
theorem dX8_together_11 : decode cX8_together 11 = .ok (.if_icmp .ge 65, 3) := by decide +kernel
theorem dX8_together_14 : decode cX8_together 14 = .ok (.aload_n 0, 1) := by decide +kernel
theorem dX8_together_15 : decode cX8_together 15 = .ok (.getfield 11, 3) := by decide +kernel
theorem dX8_together_18 : decode cX8_together 18 = .ok (.iload 4, 2) := by decide +kernel
theorem dX8_together_20 : decode cX8_together 20 = .ok (.aaload, 1) := by decide +kernel
theorem dX8_together_21 : decode cX8_together 21 = .ok (.astore 5, 2) := by decide +kernel
theorem dX8_together_23 : decode cX8_together 23 = .ok (.aload 5, 2) := by decide +kernel
theorem dX8_together_25 : decode cX8_together 25 = .ok (.getfield 60, 3) := by decide +kernel
theorem dX8_together_28 : decode cX8_together 28 = .ok (.ifCond .eq 42, 3) := by decide +kernel
theorem dX8_together_31 : decode cX8_together 31 = .ok (.aload 5, 2) := by decide +kernel
theorem dX8_together_33 : decode cX8_together 33 = .ok (.getfield 90, 3) := by decide +kernel
theorem dX8_together_36 : decode cX8_together 36 = .ok (.iload_n 1, 1) := by decide +kernel
theorem dX8_together_37 : decode cX8_together 37 = .ok (.if_icmp .ne 33, 3) := by decide +kernel
theorem dX8_together_40 : decode cX8_together 40 = .ok (.iload_n 3, 1) := by decide +kernel
theorem dX8_together_41 : decode cX8_together 41 = .ok (.iload_n 2, 1) := by decide +kernel
theorem dX8_together_42 : decode cX8_together 42 = .ok (.iconst 1, 1) := by decide +kernel
theorem dX8_together_43 : decode cX8_together 43 = .ok (.if_icmp .ne 7, 3) := by decide +kernel
theorem dX8_together_46 : decode cX8_together 46 = .ok (.iconst 1, 1) := by decide +kernel
theorem dX8_together_47 : decode cX8_together 47 = .ok (.goto 21, 3) := by decide +kernel
theorem dX8_together_50 : decode cX8_together 50 = .ok (.iload_n 2, 1) := by decide +kernel
theorem dX8_together_51 : decode cX8_together 51 = .ok (.iconst 2, 1) := by decide +kernel
theorem dX8_together_52 : decode cX8_together 52 = .ok (.if_icmp .ne 11, 3) := by decide +kernel
theorem dX8_together_55 : decode cX8_together 55 = .ok (.aload 5, 2) := by decide +kernel
theorem dX8_together_57 : decode cX8_together 57 = .ok (.getfield 80, 3) := by decide +kernel
theorem dX8_together_60 : decode cX8_together 60 = .ok (.goto 8, 3) := by decide +kernel
theorem dX8_together_63 : decode cX8_together 63 = .ok (.aload 5, 2) := by decide +kernel
theorem dX8_together_65 : decode cX8_together 65 = .ok (.getfield 113, 3) := by decide +kernel
theorem dX8_together_68 : decode cX8_together 68 = .ok (.iadd, 1) := by decide +kernel
theorem dX8_together_69 : decode cX8_together 69 = .ok (.istore_n 3, 1) := by decide +kernel
theorem dX8_together_70 : decode cX8_together 70 = .ok (.iinc 4 1, 3) := by decide +kernel
theorem dX8_together_73 : decode cX8_together 73 = .ok (.goto (-68), 3) := by decide +kernel
theorem dX8_together_76 : decode cX8_together 76 = .ok (.iload_n 3, 1) := by decide +kernel
theorem dX8_together_77 : decode cX8_together 77 = .ok (.ireturn, 1) := by decide +kernel
theorem rX8_together : (∀ (d : Nat) (L st : List Value) (h : fk_H), fk_ev d qX8_together 0 L st h = fk_ev d qX8_together 1 L (.int (nI 0) :: st) h) ∧
  (∀ (d : Nat) (a0 a1 a2 a3 a4 a5 : Value) (x : Int32) (st : List Value) (h : fk_H), fk_ev d qX8_together 1 [a0, a1, a2, a3, a4, a5] (.int x :: st) h = fk_ev d qX8_together 2 [a0, a1, a2, .int x, a4, a5] st h) ∧
  (∀ (d : Nat) (L st : List Value) (h : fk_H), fk_ev d qX8_together 2 L st h = fk_ev d qX8_together 3 L (.int (nI 0) :: st) h) ∧
  (∀ (d : Nat) (a0 a1 a2 a3 a4 a5 : Value) (x : Int32) (st : List Value) (h : fk_H), fk_ev d qX8_together 3 [a0, a1, a2, a3, a4, a5] (.int x :: st) h = fk_ev d qX8_together 5 [a0, a1, a2, a3, .int x, a5] st h) ∧
  (∀ (d : Nat) (a1 a2 a3 a4 a5 : Value) (x : Nat) (st : List Value) (h : fk_H), fk_ev d qX8_together 7 [.ref x, a1, a2, a3, a4, a5] st h = fk_ev d qX8_together 8 [.ref x, a1, a2, a3, a4, a5] (.ref x :: st) h) ∧
  (∀ (d : Nat) (L st : List Value) (N : Nat) (y : Nat → Nat → Int32) (l : Nat → Nat → Int64) (c : Nat), fk_at c 8 → fk_ev d qX8_together 8 L (.ref c :: st) (fk_E N y l) = fk_ev d qX8_together 11 L (.int (y c 2) :: st) (fk_E N y l)) ∧
  (∀ (d : Nat) (L : List Value) (x y : Int32) (st : List Value) (h : fk_H), fk_ev d qX8_together 11 L (.int y :: .int x :: st) h = if y ≤ x then fk_ev d qX8_together 76 L st h else fk_ev d qX8_together 14 L st h) ∧
  (∀ (d : Nat) (a1 a2 a3 a4 a5 : Value) (x : Nat) (st : List Value) (h : fk_H), fk_ev d qX8_together 14 [.ref x, a1, a2, a3, a4, a5] st h = fk_ev d qX8_together 15 [.ref x, a1, a2, a3, a4, a5] (.ref x :: st) h) ∧
  (∀ (d : Nat) (L st : List Value) (N : Nat) (y : Nat → Nat → Int32) (l : Nat → Nat → Int64) (c : Nat), fk_at c 8 → fk_ev d qX8_together 15 L (.ref c :: st) (fk_E N y l) = fk_ev d qX8_together 18 L (.ref (fk_cr c 0) :: st) (fk_E N y l)) ∧
  (∀ (d : Nat) (a0 a1 a2 a3 a5 : Value) (x : Int32) (st : List Value) (h : fk_H), fk_ev d qX8_together 18 [a0, a1, a2, a3, .int x, a5] st h = fk_ev d qX8_together 20 [a0, a1, a2, a3, .int x, a5] (.int x :: st) h) ∧
  (∀ (d : Nat) (L st : List Value) (N : Nat) (y : Nat → Nat → Int32) (l : Nat → Nat → Int64) (c i : Nat), fk_at c 24 → i < (fk_shp c).2 → (fk_shp c).2 < 2 ^ 31 → fk_ev d qX8_together 20 L (.int (nI i) :: .ref c :: st) (fk_E N y l) = fk_ev d qX8_together 21 L (.ref (c + 2 + i) :: st) (fk_E N y l)) ∧
  (∀ (d : Nat) (a0 a1 a2 a3 a4 a5 : Value) (x : Nat) (st : List Value) (h : fk_H), fk_ev d qX8_together 21 [a0, a1, a2, a3, a4, a5] (.ref x :: st) h = fk_ev d qX8_together 23 [a0, a1, a2, a3, a4, .ref x] st h) ∧
  (∀ (d : Nat) (a0 a1 a2 a3 a4 : Value) (x : Nat) (st : List Value) (h : fk_H), fk_ev d qX8_together 23 [a0, a1, a2, a3, a4, .ref x] st h = fk_ev d qX8_together 25 [a0, a1, a2, a3, a4, .ref x] (.ref x :: st) h) ∧
  (∀ (d : Nat) (L st : List Value) (N : Nat) (y : Nat → Nat → Int32) (l : Nat → Nat → Int64) (c : Nat), fk_at c 0 → fk_ev d qX8_together 25 L (.ref c :: st) (fk_E N y l) = fk_ev d qX8_together 28 L (.int (y c 4) :: st) (fk_E N y l)) ∧
  (∀ (d : Nat) (L : List Value) (x : Int32) (st : List Value) (h : fk_H), fk_ev d qX8_together 28 L (.int x :: st) h = if x = nI 0 then fk_ev d qX8_together 70 L st h else fk_ev d qX8_together 31 L st h) ∧
  (∀ (d : Nat) (a0 a1 a2 a3 a4 : Value) (x : Nat) (st : List Value) (h : fk_H), fk_ev d qX8_together 31 [a0, a1, a2, a3, a4, .ref x] st h = fk_ev d qX8_together 33 [a0, a1, a2, a3, a4, .ref x] (.ref x :: st) h) ∧
  (∀ (d : Nat) (L st : List Value) (N : Nat) (y : Nat → Nat → Int32) (l : Nat → Nat → Int64) (c : Nat), fk_at c 0 → fk_ev d qX8_together 33 L (.ref c :: st) (fk_E N y l) = fk_ev d qX8_together 36 L (.int (y c 1) :: st) (fk_E N y l)) ∧
  (∀ (d : Nat) (a0 a2 a3 a4 a5 : Value) (x : Int32) (st : List Value) (h : fk_H), fk_ev d qX8_together 36 [a0, .int x, a2, a3, a4, a5] st h = fk_ev d qX8_together 37 [a0, .int x, a2, a3, a4, a5] (.int x :: st) h) ∧
  (∀ (d : Nat) (L : List Value) (x y : Int32) (st : List Value) (h : fk_H), fk_ev d qX8_together 37 L (.int y :: .int x :: st) h = if ¬ x = y then fk_ev d qX8_together 70 L st h else fk_ev d qX8_together 40 L st h) ∧
  (∀ (d : Nat) (a0 a1 a2 a4 a5 : Value) (x : Int32) (st : List Value) (h : fk_H), fk_ev d qX8_together 40 [a0, a1, a2, .int x, a4, a5] st h = fk_ev d qX8_together 41 [a0, a1, a2, .int x, a4, a5] (.int x :: st) h) ∧
  (∀ (d : Nat) (a0 a1 a3 a4 a5 : Value) (x : Int32) (st : List Value) (h : fk_H), fk_ev d qX8_together 41 [a0, a1, .int x, a3, a4, a5] st h = fk_ev d qX8_together 42 [a0, a1, .int x, a3, a4, a5] (.int x :: st) h) ∧
  (∀ (d : Nat) (L st : List Value) (h : fk_H), fk_ev d qX8_together 42 L st h = fk_ev d qX8_together 43 L (.int (nI 1) :: st) h) ∧
  (∀ (d : Nat) (L : List Value) (x y : Int32) (st : List Value) (h : fk_H), fk_ev d qX8_together 43 L (.int y :: .int x :: st) h = if ¬ x = y then fk_ev d qX8_together 50 L st h else fk_ev d qX8_together 46 L st h) ∧
  (∀ (d : Nat) (L st : List Value) (h : fk_H), fk_ev d qX8_together 46 L st h = fk_ev d qX8_together 47 L (.int (nI 1) :: st) h) ∧
  (∀ (d : Nat) (L st : List Value) (h : fk_H), fk_ev d qX8_together 47 L st h = fk_ev d qX8_together 68 L st h) ∧
  (∀ (d : Nat) (a0 a1 a3 a4 a5 : Value) (x : Int32) (st : List Value) (h : fk_H), fk_ev d qX8_together 50 [a0, a1, .int x, a3, a4, a5] st h = fk_ev d qX8_together 51 [a0, a1, .int x, a3, a4, a5] (.int x :: st) h) ∧
  (∀ (d : Nat) (L st : List Value) (h : fk_H), fk_ev d qX8_together 51 L st h = fk_ev d qX8_together 52 L (.int (nI 2) :: st) h) ∧
  (∀ (d : Nat) (L : List Value) (x y : Int32) (st : List Value) (h : fk_H), fk_ev d qX8_together 52 L (.int y :: .int x :: st) h = if ¬ x = y then fk_ev d qX8_together 63 L st h else fk_ev d qX8_together 55 L st h) ∧
  (∀ (d : Nat) (a0 a1 a2 a3 a4 : Value) (x : Nat) (st : List Value) (h : fk_H), fk_ev d qX8_together 55 [a0, a1, a2, a3, a4, .ref x] st h = fk_ev d qX8_together 57 [a0, a1, a2, a3, a4, .ref x] (.ref x :: st) h) ∧
  (∀ (d : Nat) (L st : List Value) (N : Nat) (y : Nat → Nat → Int32) (l : Nat → Nat → Int64) (c : Nat), fk_at c 0 → fk_ev d qX8_together 57 L (.ref c :: st) (fk_E N y l) = fk_ev d qX8_together 60 L (.int (y c 5) :: st) (fk_E N y l)) ∧
  (∀ (d : Nat) (L st : List Value) (h : fk_H), fk_ev d qX8_together 60 L st h = fk_ev d qX8_together 68 L st h) ∧
  (∀ (d : Nat) (a0 a1 a2 a3 a4 : Value) (x : Nat) (st : List Value) (h : fk_H), fk_ev d qX8_together 63 [a0, a1, a2, a3, a4, .ref x] st h = fk_ev d qX8_together 65 [a0, a1, a2, a3, a4, .ref x] (.ref x :: st) h) ∧
  (∀ (d : Nat) (L st : List Value) (N : Nat) (y : Nat → Nat → Int32) (l : Nat → Nat → Int64) (c : Nat), fk_at c 0 → fk_ev d qX8_together 65 L (.ref c :: st) (fk_E N y l) = fk_ev d qX8_together 68 L (.int (y c 10) :: st) (fk_E N y l)) ∧
  (∀ (d : Nat) (L : List Value) (x y : Int32) (st : List Value) (h : fk_H), fk_ev d qX8_together 68 L (.int y :: .int x :: st) h = fk_ev d qX8_together 69 L (.int (x + y) :: st) h) ∧
  (∀ (d : Nat) (a0 a1 a2 a3 a4 a5 : Value) (x : Int32) (st : List Value) (h : fk_H), fk_ev d qX8_together 69 [a0, a1, a2, a3, a4, a5] (.int x :: st) h = fk_ev d qX8_together 70 [a0, a1, a2, .int x, a4, a5] st h) ∧
  (∀ (d : Nat) (a0 a1 a2 a3 a5 : Value) (x : Int32) (st : List Value) (h : fk_H), fk_ev d qX8_together 70 [a0, a1, a2, a3, .int x, a5] st h = fk_ev d qX8_together 73 [a0, a1, a2, a3, .int (x + nI 1), a5] st h) ∧
  (∀ (d : Nat) (L st : List Value) (h : fk_H), fk_ev d qX8_together 73 L st h = fk_ev d qX8_together 5 L st h) ∧
  (∀ (d : Nat) (a0 a1 a2 a4 a5 : Value) (x : Int32) (st : List Value) (h : fk_H), fk_ev d qX8_together 76 [a0, a1, a2, .int x, a4, a5] st h = fk_ev d qX8_together 77 [a0, a1, a2, .int x, a4, a5] (.int x :: st) h) ∧
  (∀ (d : Nat) (L : List Value) (x : Int32) (h : fk_H), fk_ev d qX8_together 77 L [.int x] h = some (some (.int x), h)) := ⟨fun d L st h => fk_w_iconst dX8_together_0 (by decide),
  fun d a0 a1 a2 a3 a4 a5 x st h => fk_w_istoren 3 6 [] [a0, a1, a2, a3, a4, a5] [a0, a1, a2, .int x, a4, a5] dX8_together_1 rfl rfl (by decide) rfl,
  fun d L st h => fk_w_iconst dX8_together_2 (by decide),
  fun d a0 a1 a2 a3 a4 a5 x st h => fk_w_istore 4 6 [] [a0, a1, a2, a3, a4, a5] [a0, a1, a2, a3, .int x, a5] dX8_together_3 rfl rfl (by decide) rfl,
  fun d a1 a2 a3 a4 a5 x st h => fk_w_aloadn 0 [.ref x, a1, a2, a3, a4, a5] dX8_together_7 rfl,
  fun d L st N y l c hc => fk_g_getI rfl lf_8_21 (by decide) dX8_together_8 hc,
  fun d L x y st h => fk_r_icmp_ge dX8_together_11 (by decide),
  fun d a1 a2 a3 a4 a5 x st h => fk_w_aloadn 0 [.ref x, a1, a2, a3, a4, a5] dX8_together_14 rfl,
  fun d L st N y l c hc => fk_g_getC rfl lf_8_11 (by decide) rfl dX8_together_15 hc,
  fun d a0 a1 a2 a3 a5 x st h => fk_w_iload 4 [a0, a1, a2, a3, .int x, a5] dX8_together_18 rfl,
  fun d L st N y l c i hc hi hl => fk_h_aald dX8_together_20 hc hi hl,
  fun d a0 a1 a2 a3 a4 a5 x st h => fk_w_astore 5 6 [] [a0, a1, a2, a3, a4, a5] [a0, a1, a2, a3, a4, .ref x] dX8_together_21 rfl rfl (by decide) rfl,
  fun d a0 a1 a2 a3 a4 x st h => fk_w_aload 5 [a0, a1, a2, a3, a4, .ref x] dX8_together_23 rfl,
  fun d L st N y l c hc => fk_g_getI rfl lf_8_60 (by decide) dX8_together_25 hc,
  fun d L x st h => fk_r_if_eq dX8_together_28 (by decide),
  fun d a0 a1 a2 a3 a4 x st h => fk_w_aload 5 [a0, a1, a2, a3, a4, .ref x] dX8_together_31 rfl,
  fun d L st N y l c hc => fk_g_getI rfl lf_8_90 (by decide) dX8_together_33 hc,
  fun d a0 a2 a3 a4 a5 x st h => fk_w_iloadn 1 [a0, .int x, a2, a3, a4, a5] dX8_together_36 rfl,
  fun d L x y st h => fk_r_icmp_ne dX8_together_37 (by decide),
  fun d a0 a1 a2 a4 a5 x st h => fk_w_iloadn 3 [a0, a1, a2, .int x, a4, a5] dX8_together_40 rfl,
  fun d a0 a1 a3 a4 a5 x st h => fk_w_iloadn 2 [a0, a1, .int x, a3, a4, a5] dX8_together_41 rfl,
  fun d L st h => fk_w_iconst dX8_together_42 (by decide),
  fun d L x y st h => fk_r_icmp_ne dX8_together_43 (by decide),
  fun d L st h => fk_w_iconst dX8_together_46 (by decide),
  fun d L st h => fk_r_goto dX8_together_47 (by decide),
  fun d a0 a1 a3 a4 a5 x st h => fk_w_iloadn 2 [a0, a1, .int x, a3, a4, a5] dX8_together_50 rfl,
  fun d L st h => fk_w_iconst dX8_together_51 (by decide),
  fun d L x y st h => fk_r_icmp_ne dX8_together_52 (by decide),
  fun d a0 a1 a2 a3 a4 x st h => fk_w_aload 5 [a0, a1, a2, a3, a4, .ref x] dX8_together_55 rfl,
  fun d L st N y l c hc => fk_g_getI rfl lf_8_80 (by decide) dX8_together_57 hc,
  fun d L st h => fk_r_goto dX8_together_60 (by decide),
  fun d a0 a1 a2 a3 a4 x st h => fk_w_aload 5 [a0, a1, a2, a3, a4, .ref x] dX8_together_63 rfl,
  fun d L st N y l c hc => fk_g_getI rfl lf_8_113 (by decide) dX8_together_65 hc,
  fun d L x y st h => fk_r_iadd dX8_together_68,
  fun d a0 a1 a2 a3 a4 a5 x st h => fk_w_istoren 3 6 [] [a0, a1, a2, a3, a4, a5] [a0, a1, a2, .int x, a4, a5] dX8_together_69 rfl rfl (by decide) rfl,
  fun d a0 a1 a2 a3 a5 x st h => fk_w_iinc 4 6 (1) [] [a0, a1, a2, a3, .int x, a5] [a0, a1, a2, a3, .int (x + nI 1), a5] dX8_together_70 rfl rfl rfl (by decide) rfl,
  fun d L st h => fk_r_goto dX8_together_73 (by decide),
  fun d a0 a1 a2 a4 a5 x st h => fk_w_iloadn 3 [a0, a1, a2, .int x, a4, a5] dX8_together_76 rfl,
  fun d L x h => fk_r_ret dX8_together_77 (Or.inl rfl)⟩
theorem hX8_together_5 : ∀ (d : Nat) (a0 a1 a2 a3 a5 : Value) (x : Int32) (st : List Value) (h : fk_H), fk_ev d qX8_together 5 [a0, a1, a2, a3, .int x, a5] st h = fk_ev d qX8_together 7 [a0, a1, a2, a3, .int x, a5] (.int x :: st) h := fun d a0 a1 a2 a3 a5 x st h => fk_w_iload 4 [a0, a1, a2, a3, .int x, a5] dX8_together_5 rfl
theorem dX8_weightOf_0 : decode cX8_weightOf 0 = .ok (.iconst 0, 1) := by decide +kernel
theorem dX8_weightOf_1 : decode cX8_weightOf 1 = .ok (.istore 4, 2) := by decide +kernel
theorem dX8_weightOf_3 : decode cX8_weightOf 3 = .ok (.iconst 0, 1) := by decide +kernel
theorem dX8_weightOf_4 : decode cX8_weightOf 4 = .ok (.istore 5, 2) := by decide +kernel
theorem dX8_weightOf_6 : decode cX8_weightOf 6 = .ok (.iload 5, 2) := by decide +kernel
theorem dX8_weightOf_8 : decode cX8_weightOf 8 = .ok (.aload_n 0, 1) := by decide +kernel
theorem dX8_weightOf_9 : decode cX8_weightOf 9 = .ok (.getfield 21, 3) := by decide +kernel
theorem dX8_weightOf_12 : decode cX8_weightOf 12 = .ok (.if_icmp .ge 55, 3) := by decide +kernel
theorem dX8_weightOf_15 : decode cX8_weightOf 15 = .ok (.aload_n 0, 1) := by decide +kernel
theorem dX8_weightOf_16 : decode cX8_weightOf 16 = .ok (.getfield 11, 3) := by decide +kernel
theorem dX8_weightOf_19 : decode cX8_weightOf 19 = .ok (.iload 5, 2) := by decide +kernel
theorem dX8_weightOf_21 : decode cX8_weightOf 21 = .ok (.aaload, 1) := by decide +kernel
theorem dX8_weightOf_22 : decode cX8_weightOf 22 = .ok (.astore 6, 2) := by decide +kernel
theorem dX8_weightOf_24 : decode cX8_weightOf 24 = .ok (.aload 6, 2) := by decide +kernel
theorem dX8_weightOf_26 : decode cX8_weightOf 26 = .ok (.getfield 60, 3) := by decide +kernel
theorem dX8_weightOf_29 : decode cX8_weightOf 29 = .ok (.ifCond .eq 32, 3) := by decide +kernel
theorem dX8_weightOf_32 : decode cX8_weightOf 32 = .ok (.aload 6, 2) := by decide +kernel
theorem dX8_weightOf_34 : decode cX8_weightOf 34 = .ok (.getfield 90, 3) := by decide +kernel
theorem dX8_weightOf_37 : decode cX8_weightOf 37 = .ok (.iload_n 1, 1) := by decide +kernel
theorem dX8_weightOf_38 : decode cX8_weightOf 38 = .ok (.if_icmp .ne 23, 3) := by decide +kernel
theorem dX8_weightOf_41 : decode cX8_weightOf 41 = .ok (.aload 6, 2) := by decide +kernel
theorem dX8_weightOf_43 : decode cX8_weightOf 43 = .ok (.iload_n 2, 1) := by decide +kernel
theorem dX8_weightOf_44 : decode cX8_weightOf 44 = .ok (.invokevirtual 116, 3) := by decide +kernel
theorem dX8_weightOf_47 : decode cX8_weightOf 47 = .ok (.iload_n 3, 1) := by decide +kernel
theorem dX8_weightOf_48 : decode cX8_weightOf 48 = .ok (.if_icmp .ne 13, 3) := by decide +kernel
theorem dX8_weightOf_51 : decode cX8_weightOf 51 = .ok (.iload 4, 2) := by decide +kernel
theorem dX8_weightOf_53 : decode cX8_weightOf 53 = .ok (.aload 6, 2) := by decide +kernel
theorem dX8_weightOf_55 : decode cX8_weightOf 55 = .ok (.getfield 80, 3) := by decide +kernel
theorem dX8_weightOf_58 : decode cX8_weightOf 58 = .ok (.iadd, 1) := by decide +kernel
theorem dX8_weightOf_59 : decode cX8_weightOf 59 = .ok (.istore 4, 2) := by decide +kernel
theorem dX8_weightOf_61 : decode cX8_weightOf 61 = .ok (.iinc 5 1, 3) := by decide +kernel
theorem dX8_weightOf_64 : decode cX8_weightOf 64 = .ok (.goto (-58), 3) := by decide +kernel
theorem dX8_weightOf_67 : decode cX8_weightOf 67 = .ok (.iload 4, 2) := by decide +kernel
theorem dX8_weightOf_69 : decode cX8_weightOf 69 = .ok (.ireturn, 1) := by decide +kernel
theorem rX8_weightOf : (∀ (d : Nat) (L st : List Value) (h : fk_H), fk_ev d qX8_weightOf 0 L st h = fk_ev d qX8_weightOf 1 L (.int (nI 0) :: st) h) ∧
  (∀ (d : Nat) (a0 a1 a2 a3 a4 a5 a6 : Value) (x : Int32) (st : List Value) (h : fk_H), fk_ev d qX8_weightOf 1 [a0, a1, a2, a3, a4, a5, a6] (.int x :: st) h = fk_ev d qX8_weightOf 3 [a0, a1, a2, a3, .int x, a5, a6] st h) ∧
  (∀ (d : Nat) (L st : List Value) (h : fk_H), fk_ev d qX8_weightOf 3 L st h = fk_ev d qX8_weightOf 4 L (.int (nI 0) :: st) h) ∧
  (∀ (d : Nat) (a0 a1 a2 a3 a4 a5 a6 : Value) (x : Int32) (st : List Value) (h : fk_H), fk_ev d qX8_weightOf 4 [a0, a1, a2, a3, a4, a5, a6] (.int x :: st) h = fk_ev d qX8_weightOf 6 [a0, a1, a2, a3, a4, .int x, a6] st h) ∧
  (∀ (d : Nat) (a1 a2 a3 a4 a5 a6 : Value) (x : Nat) (st : List Value) (h : fk_H), fk_ev d qX8_weightOf 8 [.ref x, a1, a2, a3, a4, a5, a6] st h = fk_ev d qX8_weightOf 9 [.ref x, a1, a2, a3, a4, a5, a6] (.ref x :: st) h) ∧
  (∀ (d : Nat) (L st : List Value) (N : Nat) (y : Nat → Nat → Int32) (l : Nat → Nat → Int64) (c : Nat), fk_at c 8 → fk_ev d qX8_weightOf 9 L (.ref c :: st) (fk_E N y l) = fk_ev d qX8_weightOf 12 L (.int (y c 2) :: st) (fk_E N y l)) ∧
  (∀ (d : Nat) (L : List Value) (x y : Int32) (st : List Value) (h : fk_H), fk_ev d qX8_weightOf 12 L (.int y :: .int x :: st) h = if y ≤ x then fk_ev d qX8_weightOf 67 L st h else fk_ev d qX8_weightOf 15 L st h) ∧
  (∀ (d : Nat) (a1 a2 a3 a4 a5 a6 : Value) (x : Nat) (st : List Value) (h : fk_H), fk_ev d qX8_weightOf 15 [.ref x, a1, a2, a3, a4, a5, a6] st h = fk_ev d qX8_weightOf 16 [.ref x, a1, a2, a3, a4, a5, a6] (.ref x :: st) h) ∧
  (∀ (d : Nat) (L st : List Value) (N : Nat) (y : Nat → Nat → Int32) (l : Nat → Nat → Int64) (c : Nat), fk_at c 8 → fk_ev d qX8_weightOf 16 L (.ref c :: st) (fk_E N y l) = fk_ev d qX8_weightOf 19 L (.ref (fk_cr c 0) :: st) (fk_E N y l)) ∧
  (∀ (d : Nat) (a0 a1 a2 a3 a4 a6 : Value) (x : Int32) (st : List Value) (h : fk_H), fk_ev d qX8_weightOf 19 [a0, a1, a2, a3, a4, .int x, a6] st h = fk_ev d qX8_weightOf 21 [a0, a1, a2, a3, a4, .int x, a6] (.int x :: st) h) ∧
  (∀ (d : Nat) (L st : List Value) (N : Nat) (y : Nat → Nat → Int32) (l : Nat → Nat → Int64) (c i : Nat), fk_at c 24 → i < (fk_shp c).2 → (fk_shp c).2 < 2 ^ 31 → fk_ev d qX8_weightOf 21 L (.int (nI i) :: .ref c :: st) (fk_E N y l) = fk_ev d qX8_weightOf 22 L (.ref (c + 2 + i) :: st) (fk_E N y l)) ∧
  (∀ (d : Nat) (a0 a1 a2 a3 a4 a5 a6 : Value) (x : Nat) (st : List Value) (h : fk_H), fk_ev d qX8_weightOf 22 [a0, a1, a2, a3, a4, a5, a6] (.ref x :: st) h = fk_ev d qX8_weightOf 24 [a0, a1, a2, a3, a4, a5, .ref x] st h) ∧
  (∀ (d : Nat) (a0 a1 a2 a3 a4 a5 : Value) (x : Nat) (st : List Value) (h : fk_H), fk_ev d qX8_weightOf 24 [a0, a1, a2, a3, a4, a5, .ref x] st h = fk_ev d qX8_weightOf 26 [a0, a1, a2, a3, a4, a5, .ref x] (.ref x :: st) h) ∧
  (∀ (d : Nat) (L st : List Value) (N : Nat) (y : Nat → Nat → Int32) (l : Nat → Nat → Int64) (c : Nat), fk_at c 0 → fk_ev d qX8_weightOf 26 L (.ref c :: st) (fk_E N y l) = fk_ev d qX8_weightOf 29 L (.int (y c 4) :: st) (fk_E N y l)) ∧
  (∀ (d : Nat) (L : List Value) (x : Int32) (st : List Value) (h : fk_H), fk_ev d qX8_weightOf 29 L (.int x :: st) h = if x = nI 0 then fk_ev d qX8_weightOf 61 L st h else fk_ev d qX8_weightOf 32 L st h) ∧
  (∀ (d : Nat) (a0 a1 a2 a3 a4 a5 : Value) (x : Nat) (st : List Value) (h : fk_H), fk_ev d qX8_weightOf 32 [a0, a1, a2, a3, a4, a5, .ref x] st h = fk_ev d qX8_weightOf 34 [a0, a1, a2, a3, a4, a5, .ref x] (.ref x :: st) h) ∧
  (∀ (d : Nat) (L st : List Value) (N : Nat) (y : Nat → Nat → Int32) (l : Nat → Nat → Int64) (c : Nat), fk_at c 0 → fk_ev d qX8_weightOf 34 L (.ref c :: st) (fk_E N y l) = fk_ev d qX8_weightOf 37 L (.int (y c 1) :: st) (fk_E N y l)) ∧
  (∀ (d : Nat) (a0 a2 a3 a4 a5 a6 : Value) (x : Int32) (st : List Value) (h : fk_H), fk_ev d qX8_weightOf 37 [a0, .int x, a2, a3, a4, a5, a6] st h = fk_ev d qX8_weightOf 38 [a0, .int x, a2, a3, a4, a5, a6] (.int x :: st) h) ∧
  (∀ (d : Nat) (L : List Value) (x y : Int32) (st : List Value) (h : fk_H), fk_ev d qX8_weightOf 38 L (.int y :: .int x :: st) h = if ¬ x = y then fk_ev d qX8_weightOf 61 L st h else fk_ev d qX8_weightOf 41 L st h) ∧
  (∀ (d : Nat) (a0 a1 a2 a3 a4 a5 : Value) (x : Nat) (st : List Value) (h : fk_H), fk_ev d qX8_weightOf 41 [a0, a1, a2, a3, a4, a5, .ref x] st h = fk_ev d qX8_weightOf 43 [a0, a1, a2, a3, a4, a5, .ref x] (.ref x :: st) h) ∧
  (∀ (d : Nat) (a0 a1 a3 a4 a5 a6 : Value) (x : Int32) (st : List Value) (h : fk_H), fk_ev d qX8_weightOf 43 [a0, a1, .int x, a3, a4, a5, a6] st h = fk_ev d qX8_weightOf 44 [a0, a1, .int x, a3, a4, a5, a6] (.int x :: st) h) ∧
  (∀ (d : Nat) (L : List Value) (x0 : Int32)  (N : Nat) (y : Nat → Nat → Int32) (l : Nat → Nat → Int64) (c : Nat), fk_at c 0 → fk_ev (d + 1) qX8_weightOf 44 L (.int x0 :: .ref c :: []) (fk_E N y l) = (fk_ev d qX0_knows 0 [.ref c, .int x0] [] (fk_E N y l)).bind fun o => fk_ev (d + 1) qX8_weightOf 47 L (o.1.toList ++ []) o.2) ∧
  (∀ (d : Nat) (a0 a1 a2 a4 a5 a6 : Value) (x : Int32) (st : List Value) (h : fk_H), fk_ev d qX8_weightOf 47 [a0, a1, a2, .int x, a4, a5, a6] st h = fk_ev d qX8_weightOf 48 [a0, a1, a2, .int x, a4, a5, a6] (.int x :: st) h) ∧
  (∀ (d : Nat) (L : List Value) (x y : Int32) (st : List Value) (h : fk_H), fk_ev d qX8_weightOf 48 L (.int y :: .int x :: st) h = if ¬ x = y then fk_ev d qX8_weightOf 61 L st h else fk_ev d qX8_weightOf 51 L st h) ∧
  (∀ (d : Nat) (a0 a1 a2 a3 a5 a6 : Value) (x : Int32) (st : List Value) (h : fk_H), fk_ev d qX8_weightOf 51 [a0, a1, a2, a3, .int x, a5, a6] st h = fk_ev d qX8_weightOf 53 [a0, a1, a2, a3, .int x, a5, a6] (.int x :: st) h) ∧
  (∀ (d : Nat) (a0 a1 a2 a3 a4 a5 : Value) (x : Nat) (st : List Value) (h : fk_H), fk_ev d qX8_weightOf 53 [a0, a1, a2, a3, a4, a5, .ref x] st h = fk_ev d qX8_weightOf 55 [a0, a1, a2, a3, a4, a5, .ref x] (.ref x :: st) h) ∧
  (∀ (d : Nat) (L st : List Value) (N : Nat) (y : Nat → Nat → Int32) (l : Nat → Nat → Int64) (c : Nat), fk_at c 0 → fk_ev d qX8_weightOf 55 L (.ref c :: st) (fk_E N y l) = fk_ev d qX8_weightOf 58 L (.int (y c 5) :: st) (fk_E N y l)) ∧
  (∀ (d : Nat) (L : List Value) (x y : Int32) (st : List Value) (h : fk_H), fk_ev d qX8_weightOf 58 L (.int y :: .int x :: st) h = fk_ev d qX8_weightOf 59 L (.int (x + y) :: st) h) ∧
  (∀ (d : Nat) (a0 a1 a2 a3 a4 a5 a6 : Value) (x : Int32) (st : List Value) (h : fk_H), fk_ev d qX8_weightOf 59 [a0, a1, a2, a3, a4, a5, a6] (.int x :: st) h = fk_ev d qX8_weightOf 61 [a0, a1, a2, a3, .int x, a5, a6] st h) ∧
  (∀ (d : Nat) (a0 a1 a2 a3 a4 a6 : Value) (x : Int32) (st : List Value) (h : fk_H), fk_ev d qX8_weightOf 61 [a0, a1, a2, a3, a4, .int x, a6] st h = fk_ev d qX8_weightOf 64 [a0, a1, a2, a3, a4, .int (x + nI 1), a6] st h) ∧
  (∀ (d : Nat) (L st : List Value) (h : fk_H), fk_ev d qX8_weightOf 64 L st h = fk_ev d qX8_weightOf 6 L st h) ∧
  (∀ (d : Nat) (a0 a1 a2 a3 a5 a6 : Value) (x : Int32) (st : List Value) (h : fk_H), fk_ev d qX8_weightOf 67 [a0, a1, a2, a3, .int x, a5, a6] st h = fk_ev d qX8_weightOf 69 [a0, a1, a2, a3, .int x, a5, a6] (.int x :: st) h) ∧
  (∀ (d : Nat) (L : List Value) (x : Int32) (h : fk_H), fk_ev d qX8_weightOf 69 L [.int x] h = some (some (.int x), h)) := ⟨fun d L st h => fk_w_iconst dX8_weightOf_0 (by decide),
  fun d a0 a1 a2 a3 a4 a5 a6 x st h => fk_w_istore 4 7 [] [a0, a1, a2, a3, a4, a5, a6] [a0, a1, a2, a3, .int x, a5, a6] dX8_weightOf_1 rfl rfl (by decide) rfl,
  fun d L st h => fk_w_iconst dX8_weightOf_3 (by decide),
  fun d a0 a1 a2 a3 a4 a5 a6 x st h => fk_w_istore 5 7 [] [a0, a1, a2, a3, a4, a5, a6] [a0, a1, a2, a3, a4, .int x, a6] dX8_weightOf_4 rfl rfl (by decide) rfl,
  fun d a1 a2 a3 a4 a5 a6 x st h => fk_w_aloadn 0 [.ref x, a1, a2, a3, a4, a5, a6] dX8_weightOf_8 rfl,
  fun d L st N y l c hc => fk_g_getI rfl lf_8_21 (by decide) dX8_weightOf_9 hc,
  fun d L x y st h => fk_r_icmp_ge dX8_weightOf_12 (by decide),
  fun d a1 a2 a3 a4 a5 a6 x st h => fk_w_aloadn 0 [.ref x, a1, a2, a3, a4, a5, a6] dX8_weightOf_15 rfl,
  fun d L st N y l c hc => fk_g_getC rfl lf_8_11 (by decide) rfl dX8_weightOf_16 hc,
  fun d a0 a1 a2 a3 a4 a6 x st h => fk_w_iload 5 [a0, a1, a2, a3, a4, .int x, a6] dX8_weightOf_19 rfl,
  fun d L st N y l c i hc hi hl => fk_h_aald dX8_weightOf_21 hc hi hl,
  fun d a0 a1 a2 a3 a4 a5 a6 x st h => fk_w_astore 6 7 [] [a0, a1, a2, a3, a4, a5, a6] [a0, a1, a2, a3, a4, a5, .ref x] dX8_weightOf_22 rfl rfl (by decide) rfl,
  fun d a0 a1 a2 a3 a4 a5 x st h => fk_w_aload 6 [a0, a1, a2, a3, a4, a5, .ref x] dX8_weightOf_24 rfl,
  fun d L st N y l c hc => fk_g_getI rfl lf_8_60 (by decide) dX8_weightOf_26 hc,
  fun d L x st h => fk_r_if_eq dX8_weightOf_29 (by decide),
  fun d a0 a1 a2 a3 a4 a5 x st h => fk_w_aload 6 [a0, a1, a2, a3, a4, a5, .ref x] dX8_weightOf_32 rfl,
  fun d L st N y l c hc => fk_g_getI rfl lf_8_90 (by decide) dX8_weightOf_34 hc,
  fun d a0 a2 a3 a4 a5 a6 x st h => fk_w_iloadn 1 [a0, .int x, a2, a3, a4, a5, a6] dX8_weightOf_37 rfl,
  fun d L x y st h => fk_r_icmp_ne dX8_weightOf_38 (by decide),
  fun d a0 a1 a2 a3 a4 a5 x st h => fk_w_aload 6 [a0, a1, a2, a3, a4, a5, .ref x] dX8_weightOf_41 rfl,
  fun d a0 a1 a3 a4 a5 a6 x st h => fk_w_iloadn 2 [a0, a1, .int x, a3, a4, a5, a6] dX8_weightOf_43 rfl,
  fun d L x0 N y l c hc => fk_g_call [.int x0] [] rfl lm_8_116 dX8_weightOf_44 rfl ⟨rfl, by decide⟩ (by simp) hc,
  fun d a0 a1 a2 a4 a5 a6 x st h => fk_w_iloadn 3 [a0, a1, a2, .int x, a4, a5, a6] dX8_weightOf_47 rfl,
  fun d L x y st h => fk_r_icmp_ne dX8_weightOf_48 (by decide),
  fun d a0 a1 a2 a3 a5 a6 x st h => fk_w_iload 4 [a0, a1, a2, a3, .int x, a5, a6] dX8_weightOf_51 rfl,
  fun d a0 a1 a2 a3 a4 a5 x st h => fk_w_aload 6 [a0, a1, a2, a3, a4, a5, .ref x] dX8_weightOf_53 rfl,
  fun d L st N y l c hc => fk_g_getI rfl lf_8_80 (by decide) dX8_weightOf_55 hc,
  fun d L x y st h => fk_r_iadd dX8_weightOf_58,
  fun d a0 a1 a2 a3 a4 a5 a6 x st h => fk_w_istore 4 7 [] [a0, a1, a2, a3, a4, a5, a6] [a0, a1, a2, a3, .int x, a5, a6] dX8_weightOf_59 rfl rfl (by decide) rfl,
  fun d a0 a1 a2 a3 a4 a6 x st h => fk_w_iinc 5 7 (1) [] [a0, a1, a2, a3, a4, .int x, a6] [a0, a1, a2, a3, a4, .int (x + nI 1), a6] dX8_weightOf_61 rfl rfl rfl (by decide) rfl,
  fun d L st h => fk_r_goto dX8_weightOf_64 (by decide),
  fun d a0 a1 a2 a3 a5 a6 x st h => fk_w_iload 4 [a0, a1, a2, a3, .int x, a5, a6] dX8_weightOf_67 rfl,
  fun d L x h => fk_r_ret dX8_weightOf_69 (Or.inl rfl)⟩
theorem hX8_weightOf_6 : ∀ (d : Nat) (a0 a1 a2 a3 a4 a6 : Value) (x : Int32) (st : List Value) (h : fk_H), fk_ev d qX8_weightOf 6 [a0, a1, a2, a3, a4, .int x, a6] st h = fk_ev d qX8_weightOf 8 [a0, a1, a2, a3, a4, .int x, a6] (.int x :: st) h := fun d a0 a1 a2 a3 a4 a6 x st h => fk_w_iload 5 [a0, a1, a2, a3, a4, .int x, a6] dX8_weightOf_6 rfl
theorem dX8_shareOf_0 : decode cX8_shareOf 0 = .ok (.aload_n 0, 1) := by decide +kernel
theorem dX8_shareOf_1 : decode cX8_shareOf 1 = .ok (.aload_n 1, 1) := by decide +kernel
theorem dX8_shareOf_2 : decode cX8_shareOf 2 = .ok (.getfield 90, 3) := by decide +kernel
theorem dX8_shareOf_5 : decode cX8_shareOf 5 = .ok (.iconst 2, 1) := by decide +kernel
theorem dX8_shareOf_6 : decode cX8_shareOf 6 = .ok (.invokevirtual 119, 3) := by decide +kernel
theorem dX8_shareOf_9 : decode cX8_shareOf 9 = .ok (.istore_n 3, 1) := by decide +kernel
theorem dX8_shareOf_10 : decode cX8_shareOf 10 = .ok (.iload_n 3, 1) := by decide +kernel
theorem dX8_shareOf_11 : decode cX8_shareOf 11 = .ok (.ifCond .gt 5, 3) := by decide +kernel
theorem dX8_shareOf_14 : decode cX8_shareOf 14 = .ok (.iconst 0, 1) := by decide +kernel
theorem dX8_shareOf_15 : decode cX8_shareOf 15 = .ok (.ireturn, 1) := by decide +kernel
theorem dX8_shareOf_16 : decode cX8_shareOf 16 = .ok (.iload_n 2, 1) := by decide +kernel
theorem dX8_shareOf_17 : decode cX8_shareOf 17 = .ok (.aload_n 1, 1) := by decide +kernel
theorem dX8_shareOf_18 : decode cX8_shareOf 18 = .ok (.getfield 80, 3) := by decide +kernel
theorem dX8_shareOf_21 : decode cX8_shareOf 21 = .ok (.imul, 1) := by decide +kernel
theorem dX8_shareOf_22 : decode cX8_shareOf 22 = .ok (.iload_n 3, 1) := by decide +kernel
theorem dX8_shareOf_23 : decode cX8_shareOf 23 = .ok (.irem, 1) := by decide +kernel
theorem dX8_shareOf_24 : decode cX8_shareOf 24 = .ok (.istore 4, 2) := by decide +kernel
theorem dX8_shareOf_26 : decode cX8_shareOf 26 = .ok (.iload_n 2, 1) := by decide +kernel
theorem dX8_shareOf_27 : decode cX8_shareOf 27 = .ok (.istore 5, 2) := by decide +kernel
theorem dX8_shareOf_29 : decode cX8_shareOf 29 = .ok (.iconst 0, 1) := by decide +kernel
theorem dX8_shareOf_30 : decode cX8_shareOf 30 = .ok (.istore 6, 2) := by decide +kernel
theorem dX8_shareOf_32 : decode cX8_shareOf 32 = .ok (.iconst 0, 1) := by decide +kernel
theorem dX8_shareOf_33 : decode cX8_shareOf 33 = .ok (.istore 7, 2) := by decide +kernel
theorem dX8_shareOf_35 : decode cX8_shareOf 35 = .ok (.iload 7, 2) := by decide +kernel
theorem dX8_shareOf_37 : decode cX8_shareOf 37 = .ok (.aload_n 0, 1) := by decide +kernel
theorem dX8_shareOf_38 : decode cX8_shareOf 38 = .ok (.getfield 21, 3) := by decide +kernel
theorem dX8_shareOf_41 : decode cX8_shareOf 41 = .ok (.if_icmp .ge 89, 3) := by decide +kernel
theorem dX8_shareOf_44 : decode cX8_shareOf 44 = .ok (.aload_n 0, 1) := by decide +kernel
theorem dX8_shareOf_45 : decode cX8_shareOf 45 = .ok (.getfield 11, 3) := by decide +kernel
theorem dX8_shareOf_48 : decode cX8_shareOf 48 = .ok (.iload 7, 2) := by decide +kernel
theorem dX8_shareOf_50 : decode cX8_shareOf 50 = .ok (.aaload, 1) := by decide +kernel
theorem dX8_shareOf_51 : decode cX8_shareOf 51 = .ok (.astore 8, 2) := by decide +kernel
theorem dX8_shareOf_53 : decode cX8_shareOf 53 = .ok (.aload 8, 2) := by decide +kernel
theorem dX8_shareOf_55 : decode cX8_shareOf 55 = .ok (.getfield 60, 3) := by decide +kernel
theorem dX8_shareOf_58 : decode cX8_shareOf 58 = .ok (.ifCond .eq 66, 3) := by decide +kernel
theorem dX8_shareOf_61 : decode cX8_shareOf 61 = .ok (.aload 8, 2) := by decide +kernel
theorem dX8_shareOf_63 : decode cX8_shareOf 63 = .ok (.getfield 90, 3) := by decide +kernel
theorem dX8_shareOf_66 : decode cX8_shareOf 66 = .ok (.aload_n 1, 1) := by decide +kernel
theorem dX8_shareOf_67 : decode cX8_shareOf 67 = .ok (.getfield 90, 3) := by decide +kernel
theorem dX8_shareOf_70 : decode cX8_shareOf 70 = .ok (.if_icmp .ne 54, 3) := by decide +kernel
theorem dX8_shareOf_73 : decode cX8_shareOf 73 = .ok (.iload 5, 2) := by decide +kernel
theorem dX8_shareOf_75 : decode cX8_shareOf 75 = .ok (.iload_n 2, 1) := by decide +kernel
theorem dX8_shareOf_76 : decode cX8_shareOf 76 = .ok (.aload 8, 2) := by decide +kernel
theorem dX8_shareOf_78 : decode cX8_shareOf 78 = .ok (.getfield 80, 3) := by decide +kernel
theorem dX8_shareOf_81 : decode cX8_shareOf 81 = .ok (.imul, 1) := by decide +kernel
theorem dX8_shareOf_82 : decode cX8_shareOf 82 = .ok (.iload_n 3, 1) := by decide +kernel
theorem dX8_shareOf_83 : decode cX8_shareOf 83 = .ok (.idiv, 1) := by decide +kernel
theorem dX8_shareOf_84 : decode cX8_shareOf 84 = .ok (.isub, 1) := by decide +kernel
theorem dX8_shareOf_85 : decode cX8_shareOf 85 = .ok (.istore 5, 2) := by decide +kernel
theorem dX8_shareOf_87 : decode cX8_shareOf 87 = .ok (.iload_n 2, 1) := by decide +kernel
theorem dX8_shareOf_88 : decode cX8_shareOf 88 = .ok (.aload 8, 2) := by decide +kernel
theorem dX8_shareOf_90 : decode cX8_shareOf 90 = .ok (.getfield 80, 3) := by decide +kernel
theorem dX8_shareOf_93 : decode cX8_shareOf 93 = .ok (.imul, 1) := by decide +kernel
theorem dX8_shareOf_94 : decode cX8_shareOf 94 = .ok (.iload_n 3, 1) := by decide +kernel
theorem dX8_shareOf_95 : decode cX8_shareOf 95 = .ok (.irem, 1) := by decide +kernel
theorem dX8_shareOf_96 : decode cX8_shareOf 96 = .ok (.istore 9, 2) := by decide +kernel
theorem dX8_shareOf_98 : decode cX8_shareOf 98 = .ok (.iload 9, 2) := by decide +kernel
theorem dX8_shareOf_100 : decode cX8_shareOf 100 = .ok (.iload 4, 2) := by decide +kernel
theorem dX8_shareOf_102 : decode cX8_shareOf 102 = .ok (.if_icmp .gt 19, 3) := by decide +kernel
theorem dX8_shareOf_105 : decode cX8_shareOf 105 = .ok (.iload 9, 2) := by decide +kernel
theorem dX8_shareOf_107 : decode cX8_shareOf 107 = .ok (.iload 4, 2) := by decide +kernel
theorem dX8_shareOf_109 : decode cX8_shareOf 109 = .ok (.if_icmp .ne 15, 3) := by decide +kernel
theorem dX8_shareOf_112 : decode cX8_shareOf 112 = .ok (.iload 7, 2) := by decide +kernel
theorem dX8_shareOf_114 : decode cX8_shareOf 114 = .ok (.aload_n 1, 1) := by decide +kernel
theorem dX8_shareOf_115 : decode cX8_shareOf 115 = .ok (.getfield 71, 3) := by decide +kernel
theorem dX8_shareOf_118 : decode cX8_shareOf 118 = .ok (.if_icmp .ge 6, 3) := by decide +kernel
theorem dX8_shareOf_121 : decode cX8_shareOf 121 = .ok (.iinc 6 1, 3) := by decide +kernel
theorem dX8_shareOf_124 : decode cX8_shareOf 124 = .ok (.iinc 7 1, 3) := by decide +kernel
theorem dX8_shareOf_127 : decode cX8_shareOf 127 = .ok (.goto (-92), 3) := by decide +kernel
theorem dX8_shareOf_130 : decode cX8_shareOf 130 = .ok (.iload_n 2, 1) := by decide +kernel
theorem dX8_shareOf_131 : decode cX8_shareOf 131 = .ok (.aload_n 1, 1) := by decide +kernel
theorem dX8_shareOf_132 : decode cX8_shareOf 132 = .ok (.getfield 80, 3) := by decide +kernel
theorem dX8_shareOf_135 : decode cX8_shareOf 135 = .ok (.imul, 1) := by decide +kernel
theorem dX8_shareOf_136 : decode cX8_shareOf 136 = .ok (.iload_n 3, 1) := by decide +kernel
theorem dX8_shareOf_137 : decode cX8_shareOf 137 = .ok (.idiv, 1) := by decide +kernel
theorem dX8_shareOf_138 : decode cX8_shareOf 138 = .ok (.iload 6, 2) := by decide +kernel
theorem dX8_shareOf_140 : decode cX8_shareOf 140 = .ok (.iload 5, 2) := by decide +kernel
theorem dX8_shareOf_142 : decode cX8_shareOf 142 = .ok (.if_icmp .ge 7, 3) := by decide +kernel
theorem dX8_shareOf_145 : decode cX8_shareOf 145 = .ok (.iconst 1, 1) := by decide +kernel
theorem dX8_shareOf_146 : decode cX8_shareOf 146 = .ok (.goto 4, 3) := by decide +kernel
theorem dX8_shareOf_149 : decode cX8_shareOf 149 = .ok (.iconst 0, 1) := by decide +kernel
theorem dX8_shareOf_150 : decode cX8_shareOf 150 = .ok (.iadd, 1) := by decide +kernel
theorem dX8_shareOf_151 : decode cX8_shareOf 151 = .ok (.ireturn, 1) := by decide +kernel
theorem rX8_shareOf : (∀ (d : Nat) (a1 a2 a3 a4 a5 a6 a7 a8 a9 : Value) (x : Nat) (st : List Value) (h : fk_H), fk_ev d qX8_shareOf 0 [.ref x, a1, a2, a3, a4, a5, a6, a7, a8, a9] st h = fk_ev d qX8_shareOf 1 [.ref x, a1, a2, a3, a4, a5, a6, a7, a8, a9] (.ref x :: st) h) ∧
  (∀ (d : Nat) (a0 a2 a3 a4 a5 a6 a7 a8 a9 : Value) (x : Nat) (st : List Value) (h : fk_H), fk_ev d qX8_shareOf 1 [a0, .ref x, a2, a3, a4, a5, a6, a7, a8, a9] st h = fk_ev d qX8_shareOf 2 [a0, .ref x, a2, a3, a4, a5, a6, a7, a8, a9] (.ref x :: st) h) ∧
  (∀ (d : Nat) (L st : List Value) (N : Nat) (y : Nat → Nat → Int32) (l : Nat → Nat → Int64) (c : Nat), fk_at c 0 → fk_ev d qX8_shareOf 2 L (.ref c :: st) (fk_E N y l) = fk_ev d qX8_shareOf 5 L (.int (y c 1) :: st) (fk_E N y l)) ∧
  (∀ (d : Nat) (L st : List Value) (h : fk_H), fk_ev d qX8_shareOf 5 L st h = fk_ev d qX8_shareOf 6 L (.int (nI 2) :: st) h) ∧
  (∀ (d : Nat) (L : List Value) (x0 : Int32) (x1 : Int32)  (N : Nat) (y : Nat → Nat → Int32) (l : Nat → Nat → Int64) (c : Nat), fk_at c 8 → fk_ev (d + 1) qX8_shareOf 6 L (.int x1 :: .int x0 :: .ref c :: []) (fk_E N y l) = (fk_ev d qX8_together 0 [.ref c, .int x0, .int x1, .null, .null, .null] [] (fk_E N y l)).bind fun o => fk_ev (d + 1) qX8_shareOf 9 L (o.1.toList ++ []) o.2) ∧
  (∀ (d : Nat) (a0 a1 a2 a3 a4 a5 a6 a7 a8 a9 : Value) (x : Int32) (st : List Value) (h : fk_H), fk_ev d qX8_shareOf 9 [a0, a1, a2, a3, a4, a5, a6, a7, a8, a9] (.int x :: st) h = fk_ev d qX8_shareOf 10 [a0, a1, a2, .int x, a4, a5, a6, a7, a8, a9] st h) ∧
  (∀ (d : Nat) (a0 a1 a2 a4 a5 a6 a7 a8 a9 : Value) (x : Int32) (st : List Value) (h : fk_H), fk_ev d qX8_shareOf 10 [a0, a1, a2, .int x, a4, a5, a6, a7, a8, a9] st h = fk_ev d qX8_shareOf 11 [a0, a1, a2, .int x, a4, a5, a6, a7, a8, a9] (.int x :: st) h) ∧
  (∀ (d : Nat) (L : List Value) (x : Int32) (st : List Value) (h : fk_H), fk_ev d qX8_shareOf 11 L (.int x :: st) h = if nI 0 < x then fk_ev d qX8_shareOf 16 L st h else fk_ev d qX8_shareOf 14 L st h) ∧
  (∀ (d : Nat) (L st : List Value) (h : fk_H), fk_ev d qX8_shareOf 14 L st h = fk_ev d qX8_shareOf 15 L (.int (nI 0) :: st) h) ∧
  (∀ (d : Nat) (L : List Value) (x : Int32) (h : fk_H), fk_ev d qX8_shareOf 15 L [.int x] h = some (some (.int x), h)) ∧
  (∀ (d : Nat) (a0 a1 a3 a4 a5 a6 a7 a8 a9 : Value) (x : Int32) (st : List Value) (h : fk_H), fk_ev d qX8_shareOf 16 [a0, a1, .int x, a3, a4, a5, a6, a7, a8, a9] st h = fk_ev d qX8_shareOf 17 [a0, a1, .int x, a3, a4, a5, a6, a7, a8, a9] (.int x :: st) h) ∧
  (∀ (d : Nat) (a0 a2 a3 a4 a5 a6 a7 a8 a9 : Value) (x : Nat) (st : List Value) (h : fk_H), fk_ev d qX8_shareOf 17 [a0, .ref x, a2, a3, a4, a5, a6, a7, a8, a9] st h = fk_ev d qX8_shareOf 18 [a0, .ref x, a2, a3, a4, a5, a6, a7, a8, a9] (.ref x :: st) h) ∧
  (∀ (d : Nat) (L st : List Value) (N : Nat) (y : Nat → Nat → Int32) (l : Nat → Nat → Int64) (c : Nat), fk_at c 0 → fk_ev d qX8_shareOf 18 L (.ref c :: st) (fk_E N y l) = fk_ev d qX8_shareOf 21 L (.int (y c 5) :: st) (fk_E N y l)) ∧
  (∀ (d : Nat) (L : List Value) (x y : Int32) (st : List Value) (h : fk_H), fk_ev d qX8_shareOf 21 L (.int y :: .int x :: st) h = fk_ev d qX8_shareOf 22 L (.int (x * y) :: st) h) ∧
  (∀ (d : Nat) (a0 a1 a2 a4 a5 a6 a7 a8 a9 : Value) (x : Int32) (st : List Value) (h : fk_H), fk_ev d qX8_shareOf 22 [a0, a1, a2, .int x, a4, a5, a6, a7, a8, a9] st h = fk_ev d qX8_shareOf 23 [a0, a1, a2, .int x, a4, a5, a6, a7, a8, a9] (.int x :: st) h) ∧
  (∀ (d : Nat) (L : List Value) (x y : Int32) (st : List Value) (h : fk_H), fk_ev d qX8_shareOf 23 L (.int y :: .int x :: st) h = if y = 0 then none else fk_ev d qX8_shareOf 24 L (.int (x - x / y * y) :: st) h) ∧
  (∀ (d : Nat) (a0 a1 a2 a3 a4 a5 a6 a7 a8 a9 : Value) (x : Int32) (st : List Value) (h : fk_H), fk_ev d qX8_shareOf 24 [a0, a1, a2, a3, a4, a5, a6, a7, a8, a9] (.int x :: st) h = fk_ev d qX8_shareOf 26 [a0, a1, a2, a3, .int x, a5, a6, a7, a8, a9] st h) ∧
  (∀ (d : Nat) (a0 a1 a3 a4 a5 a6 a7 a8 a9 : Value) (x : Int32) (st : List Value) (h : fk_H), fk_ev d qX8_shareOf 26 [a0, a1, .int x, a3, a4, a5, a6, a7, a8, a9] st h = fk_ev d qX8_shareOf 27 [a0, a1, .int x, a3, a4, a5, a6, a7, a8, a9] (.int x :: st) h) ∧
  (∀ (d : Nat) (a0 a1 a2 a3 a4 a5 a6 a7 a8 a9 : Value) (x : Int32) (st : List Value) (h : fk_H), fk_ev d qX8_shareOf 27 [a0, a1, a2, a3, a4, a5, a6, a7, a8, a9] (.int x :: st) h = fk_ev d qX8_shareOf 29 [a0, a1, a2, a3, a4, .int x, a6, a7, a8, a9] st h) ∧
  (∀ (d : Nat) (L st : List Value) (h : fk_H), fk_ev d qX8_shareOf 29 L st h = fk_ev d qX8_shareOf 30 L (.int (nI 0) :: st) h) ∧
  (∀ (d : Nat) (a0 a1 a2 a3 a4 a5 a6 a7 a8 a9 : Value) (x : Int32) (st : List Value) (h : fk_H), fk_ev d qX8_shareOf 30 [a0, a1, a2, a3, a4, a5, a6, a7, a8, a9] (.int x :: st) h = fk_ev d qX8_shareOf 32 [a0, a1, a2, a3, a4, a5, .int x, a7, a8, a9] st h) ∧
  (∀ (d : Nat) (L st : List Value) (h : fk_H), fk_ev d qX8_shareOf 32 L st h = fk_ev d qX8_shareOf 33 L (.int (nI 0) :: st) h) ∧
  (∀ (d : Nat) (a0 a1 a2 a3 a4 a5 a6 a7 a8 a9 : Value) (x : Int32) (st : List Value) (h : fk_H), fk_ev d qX8_shareOf 33 [a0, a1, a2, a3, a4, a5, a6, a7, a8, a9] (.int x :: st) h = fk_ev d qX8_shareOf 35 [a0, a1, a2, a3, a4, a5, a6, .int x, a8, a9] st h) ∧
  (∀ (d : Nat) (a1 a2 a3 a4 a5 a6 a7 a8 a9 : Value) (x : Nat) (st : List Value) (h : fk_H), fk_ev d qX8_shareOf 37 [.ref x, a1, a2, a3, a4, a5, a6, a7, a8, a9] st h = fk_ev d qX8_shareOf 38 [.ref x, a1, a2, a3, a4, a5, a6, a7, a8, a9] (.ref x :: st) h) ∧
  (∀ (d : Nat) (L st : List Value) (N : Nat) (y : Nat → Nat → Int32) (l : Nat → Nat → Int64) (c : Nat), fk_at c 8 → fk_ev d qX8_shareOf 38 L (.ref c :: st) (fk_E N y l) = fk_ev d qX8_shareOf 41 L (.int (y c 2) :: st) (fk_E N y l)) ∧
  (∀ (d : Nat) (L : List Value) (x y : Int32) (st : List Value) (h : fk_H), fk_ev d qX8_shareOf 41 L (.int y :: .int x :: st) h = if y ≤ x then fk_ev d qX8_shareOf 130 L st h else fk_ev d qX8_shareOf 44 L st h) ∧
  (∀ (d : Nat) (a1 a2 a3 a4 a5 a6 a7 a8 a9 : Value) (x : Nat) (st : List Value) (h : fk_H), fk_ev d qX8_shareOf 44 [.ref x, a1, a2, a3, a4, a5, a6, a7, a8, a9] st h = fk_ev d qX8_shareOf 45 [.ref x, a1, a2, a3, a4, a5, a6, a7, a8, a9] (.ref x :: st) h) ∧
  (∀ (d : Nat) (L st : List Value) (N : Nat) (y : Nat → Nat → Int32) (l : Nat → Nat → Int64) (c : Nat), fk_at c 8 → fk_ev d qX8_shareOf 45 L (.ref c :: st) (fk_E N y l) = fk_ev d qX8_shareOf 48 L (.ref (fk_cr c 0) :: st) (fk_E N y l)) ∧
  (∀ (d : Nat) (a0 a1 a2 a3 a4 a5 a6 a8 a9 : Value) (x : Int32) (st : List Value) (h : fk_H), fk_ev d qX8_shareOf 48 [a0, a1, a2, a3, a4, a5, a6, .int x, a8, a9] st h = fk_ev d qX8_shareOf 50 [a0, a1, a2, a3, a4, a5, a6, .int x, a8, a9] (.int x :: st) h) ∧
  (∀ (d : Nat) (L st : List Value) (N : Nat) (y : Nat → Nat → Int32) (l : Nat → Nat → Int64) (c i : Nat), fk_at c 24 → i < (fk_shp c).2 → (fk_shp c).2 < 2 ^ 31 → fk_ev d qX8_shareOf 50 L (.int (nI i) :: .ref c :: st) (fk_E N y l) = fk_ev d qX8_shareOf 51 L (.ref (c + 2 + i) :: st) (fk_E N y l)) ∧
  (∀ (d : Nat) (a0 a1 a2 a3 a4 a5 a6 a7 a8 a9 : Value) (x : Nat) (st : List Value) (h : fk_H), fk_ev d qX8_shareOf 51 [a0, a1, a2, a3, a4, a5, a6, a7, a8, a9] (.ref x :: st) h = fk_ev d qX8_shareOf 53 [a0, a1, a2, a3, a4, a5, a6, a7, .ref x, a9] st h) ∧
  (∀ (d : Nat) (a0 a1 a2 a3 a4 a5 a6 a7 a9 : Value) (x : Nat) (st : List Value) (h : fk_H), fk_ev d qX8_shareOf 53 [a0, a1, a2, a3, a4, a5, a6, a7, .ref x, a9] st h = fk_ev d qX8_shareOf 55 [a0, a1, a2, a3, a4, a5, a6, a7, .ref x, a9] (.ref x :: st) h) ∧
  (∀ (d : Nat) (L st : List Value) (N : Nat) (y : Nat → Nat → Int32) (l : Nat → Nat → Int64) (c : Nat), fk_at c 0 → fk_ev d qX8_shareOf 55 L (.ref c :: st) (fk_E N y l) = fk_ev d qX8_shareOf 58 L (.int (y c 4) :: st) (fk_E N y l)) ∧
  (∀ (d : Nat) (L : List Value) (x : Int32) (st : List Value) (h : fk_H), fk_ev d qX8_shareOf 58 L (.int x :: st) h = if x = nI 0 then fk_ev d qX8_shareOf 124 L st h else fk_ev d qX8_shareOf 61 L st h) ∧
  (∀ (d : Nat) (a0 a1 a2 a3 a4 a5 a6 a7 a9 : Value) (x : Nat) (st : List Value) (h : fk_H), fk_ev d qX8_shareOf 61 [a0, a1, a2, a3, a4, a5, a6, a7, .ref x, a9] st h = fk_ev d qX8_shareOf 63 [a0, a1, a2, a3, a4, a5, a6, a7, .ref x, a9] (.ref x :: st) h) ∧
  (∀ (d : Nat) (L st : List Value) (N : Nat) (y : Nat → Nat → Int32) (l : Nat → Nat → Int64) (c : Nat), fk_at c 0 → fk_ev d qX8_shareOf 63 L (.ref c :: st) (fk_E N y l) = fk_ev d qX8_shareOf 66 L (.int (y c 1) :: st) (fk_E N y l)) ∧
  (∀ (d : Nat) (a0 a2 a3 a4 a5 a6 a7 a8 a9 : Value) (x : Nat) (st : List Value) (h : fk_H), fk_ev d qX8_shareOf 66 [a0, .ref x, a2, a3, a4, a5, a6, a7, a8, a9] st h = fk_ev d qX8_shareOf 67 [a0, .ref x, a2, a3, a4, a5, a6, a7, a8, a9] (.ref x :: st) h) ∧
  (∀ (d : Nat) (L st : List Value) (N : Nat) (y : Nat → Nat → Int32) (l : Nat → Nat → Int64) (c : Nat), fk_at c 0 → fk_ev d qX8_shareOf 67 L (.ref c :: st) (fk_E N y l) = fk_ev d qX8_shareOf 70 L (.int (y c 1) :: st) (fk_E N y l)) ∧
  (∀ (d : Nat) (L : List Value) (x y : Int32) (st : List Value) (h : fk_H), fk_ev d qX8_shareOf 70 L (.int y :: .int x :: st) h = if ¬ x = y then fk_ev d qX8_shareOf 124 L st h else fk_ev d qX8_shareOf 73 L st h) ∧
  (∀ (d : Nat) (a0 a1 a2 a3 a4 a6 a7 a8 a9 : Value) (x : Int32) (st : List Value) (h : fk_H), fk_ev d qX8_shareOf 73 [a0, a1, a2, a3, a4, .int x, a6, a7, a8, a9] st h = fk_ev d qX8_shareOf 75 [a0, a1, a2, a3, a4, .int x, a6, a7, a8, a9] (.int x :: st) h) ∧
  (∀ (d : Nat) (a0 a1 a3 a4 a5 a6 a7 a8 a9 : Value) (x : Int32) (st : List Value) (h : fk_H), fk_ev d qX8_shareOf 75 [a0, a1, .int x, a3, a4, a5, a6, a7, a8, a9] st h = fk_ev d qX8_shareOf 76 [a0, a1, .int x, a3, a4, a5, a6, a7, a8, a9] (.int x :: st) h) ∧
  (∀ (d : Nat) (a0 a1 a2 a3 a4 a5 a6 a7 a9 : Value) (x : Nat) (st : List Value) (h : fk_H), fk_ev d qX8_shareOf 76 [a0, a1, a2, a3, a4, a5, a6, a7, .ref x, a9] st h = fk_ev d qX8_shareOf 78 [a0, a1, a2, a3, a4, a5, a6, a7, .ref x, a9] (.ref x :: st) h) ∧
  (∀ (d : Nat) (L st : List Value) (N : Nat) (y : Nat → Nat → Int32) (l : Nat → Nat → Int64) (c : Nat), fk_at c 0 → fk_ev d qX8_shareOf 78 L (.ref c :: st) (fk_E N y l) = fk_ev d qX8_shareOf 81 L (.int (y c 5) :: st) (fk_E N y l)) ∧
  (∀ (d : Nat) (L : List Value) (x y : Int32) (st : List Value) (h : fk_H), fk_ev d qX8_shareOf 81 L (.int y :: .int x :: st) h = fk_ev d qX8_shareOf 82 L (.int (x * y) :: st) h) ∧
  (∀ (d : Nat) (a0 a1 a2 a4 a5 a6 a7 a8 a9 : Value) (x : Int32) (st : List Value) (h : fk_H), fk_ev d qX8_shareOf 82 [a0, a1, a2, .int x, a4, a5, a6, a7, a8, a9] st h = fk_ev d qX8_shareOf 83 [a0, a1, a2, .int x, a4, a5, a6, a7, a8, a9] (.int x :: st) h) ∧
  (∀ (d : Nat) (L : List Value) (x y : Int32) (st : List Value) (h : fk_H), fk_ev d qX8_shareOf 83 L (.int y :: .int x :: st) h = if y = 0 then none else fk_ev d qX8_shareOf 84 L (.int (x / y) :: st) h) ∧
  (∀ (d : Nat) (L : List Value) (x y : Int32) (st : List Value) (h : fk_H), fk_ev d qX8_shareOf 84 L (.int y :: .int x :: st) h = fk_ev d qX8_shareOf 85 L (.int (x - y) :: st) h) ∧
  (∀ (d : Nat) (a0 a1 a2 a3 a4 a5 a6 a7 a8 a9 : Value) (x : Int32) (st : List Value) (h : fk_H), fk_ev d qX8_shareOf 85 [a0, a1, a2, a3, a4, a5, a6, a7, a8, a9] (.int x :: st) h = fk_ev d qX8_shareOf 87 [a0, a1, a2, a3, a4, .int x, a6, a7, a8, a9] st h) ∧
  (∀ (d : Nat) (a0 a1 a3 a4 a5 a6 a7 a8 a9 : Value) (x : Int32) (st : List Value) (h : fk_H), fk_ev d qX8_shareOf 87 [a0, a1, .int x, a3, a4, a5, a6, a7, a8, a9] st h = fk_ev d qX8_shareOf 88 [a0, a1, .int x, a3, a4, a5, a6, a7, a8, a9] (.int x :: st) h) ∧
  (∀ (d : Nat) (a0 a1 a2 a3 a4 a5 a6 a7 a9 : Value) (x : Nat) (st : List Value) (h : fk_H), fk_ev d qX8_shareOf 88 [a0, a1, a2, a3, a4, a5, a6, a7, .ref x, a9] st h = fk_ev d qX8_shareOf 90 [a0, a1, a2, a3, a4, a5, a6, a7, .ref x, a9] (.ref x :: st) h) ∧
  (∀ (d : Nat) (L st : List Value) (N : Nat) (y : Nat → Nat → Int32) (l : Nat → Nat → Int64) (c : Nat), fk_at c 0 → fk_ev d qX8_shareOf 90 L (.ref c :: st) (fk_E N y l) = fk_ev d qX8_shareOf 93 L (.int (y c 5) :: st) (fk_E N y l)) ∧
  (∀ (d : Nat) (L : List Value) (x y : Int32) (st : List Value) (h : fk_H), fk_ev d qX8_shareOf 93 L (.int y :: .int x :: st) h = fk_ev d qX8_shareOf 94 L (.int (x * y) :: st) h) ∧
  (∀ (d : Nat) (a0 a1 a2 a4 a5 a6 a7 a8 a9 : Value) (x : Int32) (st : List Value) (h : fk_H), fk_ev d qX8_shareOf 94 [a0, a1, a2, .int x, a4, a5, a6, a7, a8, a9] st h = fk_ev d qX8_shareOf 95 [a0, a1, a2, .int x, a4, a5, a6, a7, a8, a9] (.int x :: st) h) ∧
  (∀ (d : Nat) (L : List Value) (x y : Int32) (st : List Value) (h : fk_H), fk_ev d qX8_shareOf 95 L (.int y :: .int x :: st) h = if y = 0 then none else fk_ev d qX8_shareOf 96 L (.int (x - x / y * y) :: st) h) ∧
  (∀ (d : Nat) (a0 a1 a2 a3 a4 a5 a6 a7 a8 a9 : Value) (x : Int32) (st : List Value) (h : fk_H), fk_ev d qX8_shareOf 96 [a0, a1, a2, a3, a4, a5, a6, a7, a8, a9] (.int x :: st) h = fk_ev d qX8_shareOf 98 [a0, a1, a2, a3, a4, a5, a6, a7, a8, .int x] st h) ∧
  (∀ (d : Nat) (a0 a1 a2 a3 a4 a5 a6 a7 a8 : Value) (x : Int32) (st : List Value) (h : fk_H), fk_ev d qX8_shareOf 98 [a0, a1, a2, a3, a4, a5, a6, a7, a8, .int x] st h = fk_ev d qX8_shareOf 100 [a0, a1, a2, a3, a4, a5, a6, a7, a8, .int x] (.int x :: st) h) ∧
  (∀ (d : Nat) (a0 a1 a2 a3 a5 a6 a7 a8 a9 : Value) (x : Int32) (st : List Value) (h : fk_H), fk_ev d qX8_shareOf 100 [a0, a1, a2, a3, .int x, a5, a6, a7, a8, a9] st h = fk_ev d qX8_shareOf 102 [a0, a1, a2, a3, .int x, a5, a6, a7, a8, a9] (.int x :: st) h) ∧
  (∀ (d : Nat) (L : List Value) (x y : Int32) (st : List Value) (h : fk_H), fk_ev d qX8_shareOf 102 L (.int y :: .int x :: st) h = if y < x then fk_ev d qX8_shareOf 121 L st h else fk_ev d qX8_shareOf 105 L st h) ∧
  (∀ (d : Nat) (a0 a1 a2 a3 a4 a5 a6 a7 a8 : Value) (x : Int32) (st : List Value) (h : fk_H), fk_ev d qX8_shareOf 105 [a0, a1, a2, a3, a4, a5, a6, a7, a8, .int x] st h = fk_ev d qX8_shareOf 107 [a0, a1, a2, a3, a4, a5, a6, a7, a8, .int x] (.int x :: st) h) ∧
  (∀ (d : Nat) (a0 a1 a2 a3 a5 a6 a7 a8 a9 : Value) (x : Int32) (st : List Value) (h : fk_H), fk_ev d qX8_shareOf 107 [a0, a1, a2, a3, .int x, a5, a6, a7, a8, a9] st h = fk_ev d qX8_shareOf 109 [a0, a1, a2, a3, .int x, a5, a6, a7, a8, a9] (.int x :: st) h) ∧
  (∀ (d : Nat) (L : List Value) (x y : Int32) (st : List Value) (h : fk_H), fk_ev d qX8_shareOf 109 L (.int y :: .int x :: st) h = if ¬ x = y then fk_ev d qX8_shareOf 124 L st h else fk_ev d qX8_shareOf 112 L st h) ∧
  (∀ (d : Nat) (a0 a1 a2 a3 a4 a5 a6 a8 a9 : Value) (x : Int32) (st : List Value) (h : fk_H), fk_ev d qX8_shareOf 112 [a0, a1, a2, a3, a4, a5, a6, .int x, a8, a9] st h = fk_ev d qX8_shareOf 114 [a0, a1, a2, a3, a4, a5, a6, .int x, a8, a9] (.int x :: st) h) ∧
  (∀ (d : Nat) (a0 a2 a3 a4 a5 a6 a7 a8 a9 : Value) (x : Nat) (st : List Value) (h : fk_H), fk_ev d qX8_shareOf 114 [a0, .ref x, a2, a3, a4, a5, a6, a7, a8, a9] st h = fk_ev d qX8_shareOf 115 [a0, .ref x, a2, a3, a4, a5, a6, a7, a8, a9] (.ref x :: st) h) ∧
  (∀ (d : Nat) (L st : List Value) (N : Nat) (y : Nat → Nat → Int32) (l : Nat → Nat → Int64) (c : Nat), fk_at c 0 → fk_ev d qX8_shareOf 115 L (.ref c :: st) (fk_E N y l) = fk_ev d qX8_shareOf 118 L (.int (y c 0) :: st) (fk_E N y l)) ∧
  (∀ (d : Nat) (L : List Value) (x y : Int32) (st : List Value) (h : fk_H), fk_ev d qX8_shareOf 118 L (.int y :: .int x :: st) h = if y ≤ x then fk_ev d qX8_shareOf 124 L st h else fk_ev d qX8_shareOf 121 L st h) ∧
  (∀ (d : Nat) (a0 a1 a2 a3 a4 a5 a7 a8 a9 : Value) (x : Int32) (st : List Value) (h : fk_H), fk_ev d qX8_shareOf 121 [a0, a1, a2, a3, a4, a5, .int x, a7, a8, a9] st h = fk_ev d qX8_shareOf 124 [a0, a1, a2, a3, a4, a5, .int (x + nI 1), a7, a8, a9] st h) ∧
  (∀ (d : Nat) (a0 a1 a2 a3 a4 a5 a6 a8 a9 : Value) (x : Int32) (st : List Value) (h : fk_H), fk_ev d qX8_shareOf 124 [a0, a1, a2, a3, a4, a5, a6, .int x, a8, a9] st h = fk_ev d qX8_shareOf 127 [a0, a1, a2, a3, a4, a5, a6, .int (x + nI 1), a8, a9] st h) ∧
  (∀ (d : Nat) (L st : List Value) (h : fk_H), fk_ev d qX8_shareOf 127 L st h = fk_ev d qX8_shareOf 35 L st h) ∧
  (∀ (d : Nat) (a0 a1 a3 a4 a5 a6 a7 a8 a9 : Value) (x : Int32) (st : List Value) (h : fk_H), fk_ev d qX8_shareOf 130 [a0, a1, .int x, a3, a4, a5, a6, a7, a8, a9] st h = fk_ev d qX8_shareOf 131 [a0, a1, .int x, a3, a4, a5, a6, a7, a8, a9] (.int x :: st) h) ∧
  (∀ (d : Nat) (a0 a2 a3 a4 a5 a6 a7 a8 a9 : Value) (x : Nat) (st : List Value) (h : fk_H), fk_ev d qX8_shareOf 131 [a0, .ref x, a2, a3, a4, a5, a6, a7, a8, a9] st h = fk_ev d qX8_shareOf 132 [a0, .ref x, a2, a3, a4, a5, a6, a7, a8, a9] (.ref x :: st) h) ∧
  (∀ (d : Nat) (L st : List Value) (N : Nat) (y : Nat → Nat → Int32) (l : Nat → Nat → Int64) (c : Nat), fk_at c 0 → fk_ev d qX8_shareOf 132 L (.ref c :: st) (fk_E N y l) = fk_ev d qX8_shareOf 135 L (.int (y c 5) :: st) (fk_E N y l)) ∧
  (∀ (d : Nat) (L : List Value) (x y : Int32) (st : List Value) (h : fk_H), fk_ev d qX8_shareOf 135 L (.int y :: .int x :: st) h = fk_ev d qX8_shareOf 136 L (.int (x * y) :: st) h) ∧
  (∀ (d : Nat) (a0 a1 a2 a4 a5 a6 a7 a8 a9 : Value) (x : Int32) (st : List Value) (h : fk_H), fk_ev d qX8_shareOf 136 [a0, a1, a2, .int x, a4, a5, a6, a7, a8, a9] st h = fk_ev d qX8_shareOf 137 [a0, a1, a2, .int x, a4, a5, a6, a7, a8, a9] (.int x :: st) h) ∧
  (∀ (d : Nat) (L : List Value) (x y : Int32) (st : List Value) (h : fk_H), fk_ev d qX8_shareOf 137 L (.int y :: .int x :: st) h = if y = 0 then none else fk_ev d qX8_shareOf 138 L (.int (x / y) :: st) h) ∧
  (∀ (d : Nat) (a0 a1 a2 a3 a4 a5 a7 a8 a9 : Value) (x : Int32) (st : List Value) (h : fk_H), fk_ev d qX8_shareOf 138 [a0, a1, a2, a3, a4, a5, .int x, a7, a8, a9] st h = fk_ev d qX8_shareOf 140 [a0, a1, a2, a3, a4, a5, .int x, a7, a8, a9] (.int x :: st) h) ∧
  (∀ (d : Nat) (a0 a1 a2 a3 a4 a6 a7 a8 a9 : Value) (x : Int32) (st : List Value) (h : fk_H), fk_ev d qX8_shareOf 140 [a0, a1, a2, a3, a4, .int x, a6, a7, a8, a9] st h = fk_ev d qX8_shareOf 142 [a0, a1, a2, a3, a4, .int x, a6, a7, a8, a9] (.int x :: st) h) ∧
  (∀ (d : Nat) (L : List Value) (x y : Int32) (st : List Value) (h : fk_H), fk_ev d qX8_shareOf 142 L (.int y :: .int x :: st) h = if y ≤ x then fk_ev d qX8_shareOf 149 L st h else fk_ev d qX8_shareOf 145 L st h) ∧
  (∀ (d : Nat) (L st : List Value) (h : fk_H), fk_ev d qX8_shareOf 145 L st h = fk_ev d qX8_shareOf 146 L (.int (nI 1) :: st) h) ∧
  (∀ (d : Nat) (L st : List Value) (h : fk_H), fk_ev d qX8_shareOf 146 L st h = fk_ev d qX8_shareOf 150 L st h) ∧
  (∀ (d : Nat) (L st : List Value) (h : fk_H), fk_ev d qX8_shareOf 149 L st h = fk_ev d qX8_shareOf 150 L (.int (nI 0) :: st) h) ∧
  (∀ (d : Nat) (L : List Value) (x y : Int32) (st : List Value) (h : fk_H), fk_ev d qX8_shareOf 150 L (.int y :: .int x :: st) h = fk_ev d qX8_shareOf 151 L (.int (x + y) :: st) h) ∧
  (∀ (d : Nat) (L : List Value) (x : Int32) (h : fk_H), fk_ev d qX8_shareOf 151 L [.int x] h = some (some (.int x), h)) := ⟨fun d a1 a2 a3 a4 a5 a6 a7 a8 a9 x st h => fk_w_aloadn 0 [.ref x, a1, a2, a3, a4, a5, a6, a7, a8, a9] dX8_shareOf_0 rfl,
  fun d a0 a2 a3 a4 a5 a6 a7 a8 a9 x st h => fk_w_aloadn 1 [a0, .ref x, a2, a3, a4, a5, a6, a7, a8, a9] dX8_shareOf_1 rfl,
  fun d L st N y l c hc => fk_g_getI rfl lf_8_90 (by decide) dX8_shareOf_2 hc,
  fun d L st h => fk_w_iconst dX8_shareOf_5 (by decide),
  fun d L x0 x1 N y l c hc => fk_g_call [.int x0, .int x1] [] rfl lm_8_119 dX8_shareOf_6 rfl ⟨rfl, by decide⟩ (by simp) hc,
  fun d a0 a1 a2 a3 a4 a5 a6 a7 a8 a9 x st h => fk_w_istoren 3 10 [] [a0, a1, a2, a3, a4, a5, a6, a7, a8, a9] [a0, a1, a2, .int x, a4, a5, a6, a7, a8, a9] dX8_shareOf_9 rfl rfl (by decide) rfl,
  fun d a0 a1 a2 a4 a5 a6 a7 a8 a9 x st h => fk_w_iloadn 3 [a0, a1, a2, .int x, a4, a5, a6, a7, a8, a9] dX8_shareOf_10 rfl,
  fun d L x st h => fk_r_if_gt dX8_shareOf_11 (by decide),
  fun d L st h => fk_w_iconst dX8_shareOf_14 (by decide),
  fun d L x h => fk_r_ret dX8_shareOf_15 (Or.inl rfl),
  fun d a0 a1 a3 a4 a5 a6 a7 a8 a9 x st h => fk_w_iloadn 2 [a0, a1, .int x, a3, a4, a5, a6, a7, a8, a9] dX8_shareOf_16 rfl,
  fun d a0 a2 a3 a4 a5 a6 a7 a8 a9 x st h => fk_w_aloadn 1 [a0, .ref x, a2, a3, a4, a5, a6, a7, a8, a9] dX8_shareOf_17 rfl,
  fun d L st N y l c hc => fk_g_getI rfl lf_8_80 (by decide) dX8_shareOf_18 hc,
  fun d L x y st h => fk_r_imul dX8_shareOf_21,
  fun d a0 a1 a2 a4 a5 a6 a7 a8 a9 x st h => fk_w_iloadn 3 [a0, a1, a2, .int x, a4, a5, a6, a7, a8, a9] dX8_shareOf_22 rfl,
  fun d L x y st h => fk_r_irem dX8_shareOf_23,
  fun d a0 a1 a2 a3 a4 a5 a6 a7 a8 a9 x st h => fk_w_istore 4 10 [] [a0, a1, a2, a3, a4, a5, a6, a7, a8, a9] [a0, a1, a2, a3, .int x, a5, a6, a7, a8, a9] dX8_shareOf_24 rfl rfl (by decide) rfl,
  fun d a0 a1 a3 a4 a5 a6 a7 a8 a9 x st h => fk_w_iloadn 2 [a0, a1, .int x, a3, a4, a5, a6, a7, a8, a9] dX8_shareOf_26 rfl,
  fun d a0 a1 a2 a3 a4 a5 a6 a7 a8 a9 x st h => fk_w_istore 5 10 [] [a0, a1, a2, a3, a4, a5, a6, a7, a8, a9] [a0, a1, a2, a3, a4, .int x, a6, a7, a8, a9] dX8_shareOf_27 rfl rfl (by decide) rfl,
  fun d L st h => fk_w_iconst dX8_shareOf_29 (by decide),
  fun d a0 a1 a2 a3 a4 a5 a6 a7 a8 a9 x st h => fk_w_istore 6 10 [] [a0, a1, a2, a3, a4, a5, a6, a7, a8, a9] [a0, a1, a2, a3, a4, a5, .int x, a7, a8, a9] dX8_shareOf_30 rfl rfl (by decide) rfl,
  fun d L st h => fk_w_iconst dX8_shareOf_32 (by decide),
  fun d a0 a1 a2 a3 a4 a5 a6 a7 a8 a9 x st h => fk_w_istore 7 10 [] [a0, a1, a2, a3, a4, a5, a6, a7, a8, a9] [a0, a1, a2, a3, a4, a5, a6, .int x, a8, a9] dX8_shareOf_33 rfl rfl (by decide) rfl,
  fun d a1 a2 a3 a4 a5 a6 a7 a8 a9 x st h => fk_w_aloadn 0 [.ref x, a1, a2, a3, a4, a5, a6, a7, a8, a9] dX8_shareOf_37 rfl,
  fun d L st N y l c hc => fk_g_getI rfl lf_8_21 (by decide) dX8_shareOf_38 hc,
  fun d L x y st h => fk_r_icmp_ge dX8_shareOf_41 (by decide),
  fun d a1 a2 a3 a4 a5 a6 a7 a8 a9 x st h => fk_w_aloadn 0 [.ref x, a1, a2, a3, a4, a5, a6, a7, a8, a9] dX8_shareOf_44 rfl,
  fun d L st N y l c hc => fk_g_getC rfl lf_8_11 (by decide) rfl dX8_shareOf_45 hc,
  fun d a0 a1 a2 a3 a4 a5 a6 a8 a9 x st h => fk_w_iload 7 [a0, a1, a2, a3, a4, a5, a6, .int x, a8, a9] dX8_shareOf_48 rfl,
  fun d L st N y l c i hc hi hl => fk_h_aald dX8_shareOf_50 hc hi hl,
  fun d a0 a1 a2 a3 a4 a5 a6 a7 a8 a9 x st h => fk_w_astore 8 10 [] [a0, a1, a2, a3, a4, a5, a6, a7, a8, a9] [a0, a1, a2, a3, a4, a5, a6, a7, .ref x, a9] dX8_shareOf_51 rfl rfl (by decide) rfl,
  fun d a0 a1 a2 a3 a4 a5 a6 a7 a9 x st h => fk_w_aload 8 [a0, a1, a2, a3, a4, a5, a6, a7, .ref x, a9] dX8_shareOf_53 rfl,
  fun d L st N y l c hc => fk_g_getI rfl lf_8_60 (by decide) dX8_shareOf_55 hc,
  fun d L x st h => fk_r_if_eq dX8_shareOf_58 (by decide),
  fun d a0 a1 a2 a3 a4 a5 a6 a7 a9 x st h => fk_w_aload 8 [a0, a1, a2, a3, a4, a5, a6, a7, .ref x, a9] dX8_shareOf_61 rfl,
  fun d L st N y l c hc => fk_g_getI rfl lf_8_90 (by decide) dX8_shareOf_63 hc,
  fun d a0 a2 a3 a4 a5 a6 a7 a8 a9 x st h => fk_w_aloadn 1 [a0, .ref x, a2, a3, a4, a5, a6, a7, a8, a9] dX8_shareOf_66 rfl,
  fun d L st N y l c hc => fk_g_getI rfl lf_8_90 (by decide) dX8_shareOf_67 hc,
  fun d L x y st h => fk_r_icmp_ne dX8_shareOf_70 (by decide),
  fun d a0 a1 a2 a3 a4 a6 a7 a8 a9 x st h => fk_w_iload 5 [a0, a1, a2, a3, a4, .int x, a6, a7, a8, a9] dX8_shareOf_73 rfl,
  fun d a0 a1 a3 a4 a5 a6 a7 a8 a9 x st h => fk_w_iloadn 2 [a0, a1, .int x, a3, a4, a5, a6, a7, a8, a9] dX8_shareOf_75 rfl,
  fun d a0 a1 a2 a3 a4 a5 a6 a7 a9 x st h => fk_w_aload 8 [a0, a1, a2, a3, a4, a5, a6, a7, .ref x, a9] dX8_shareOf_76 rfl,
  fun d L st N y l c hc => fk_g_getI rfl lf_8_80 (by decide) dX8_shareOf_78 hc,
  fun d L x y st h => fk_r_imul dX8_shareOf_81,
  fun d a0 a1 a2 a4 a5 a6 a7 a8 a9 x st h => fk_w_iloadn 3 [a0, a1, a2, .int x, a4, a5, a6, a7, a8, a9] dX8_shareOf_82 rfl,
  fun d L x y st h => fk_r_idiv dX8_shareOf_83,
  fun d L x y st h => fk_r_isub dX8_shareOf_84,
  fun d a0 a1 a2 a3 a4 a5 a6 a7 a8 a9 x st h => fk_w_istore 5 10 [] [a0, a1, a2, a3, a4, a5, a6, a7, a8, a9] [a0, a1, a2, a3, a4, .int x, a6, a7, a8, a9] dX8_shareOf_85 rfl rfl (by decide) rfl,
  fun d a0 a1 a3 a4 a5 a6 a7 a8 a9 x st h => fk_w_iloadn 2 [a0, a1, .int x, a3, a4, a5, a6, a7, a8, a9] dX8_shareOf_87 rfl,
  fun d a0 a1 a2 a3 a4 a5 a6 a7 a9 x st h => fk_w_aload 8 [a0, a1, a2, a3, a4, a5, a6, a7, .ref x, a9] dX8_shareOf_88 rfl,
  fun d L st N y l c hc => fk_g_getI rfl lf_8_80 (by decide) dX8_shareOf_90 hc,
  fun d L x y st h => fk_r_imul dX8_shareOf_93,
  fun d a0 a1 a2 a4 a5 a6 a7 a8 a9 x st h => fk_w_iloadn 3 [a0, a1, a2, .int x, a4, a5, a6, a7, a8, a9] dX8_shareOf_94 rfl,
  fun d L x y st h => fk_r_irem dX8_shareOf_95,
  fun d a0 a1 a2 a3 a4 a5 a6 a7 a8 a9 x st h => fk_w_istore 9 10 [] [a0, a1, a2, a3, a4, a5, a6, a7, a8, a9] [a0, a1, a2, a3, a4, a5, a6, a7, a8, .int x] dX8_shareOf_96 rfl rfl (by decide) rfl,
  fun d a0 a1 a2 a3 a4 a5 a6 a7 a8 x st h => fk_w_iload 9 [a0, a1, a2, a3, a4, a5, a6, a7, a8, .int x] dX8_shareOf_98 rfl,
  fun d a0 a1 a2 a3 a5 a6 a7 a8 a9 x st h => fk_w_iload 4 [a0, a1, a2, a3, .int x, a5, a6, a7, a8, a9] dX8_shareOf_100 rfl,
  fun d L x y st h => fk_r_icmp_gt dX8_shareOf_102 (by decide),
  fun d a0 a1 a2 a3 a4 a5 a6 a7 a8 x st h => fk_w_iload 9 [a0, a1, a2, a3, a4, a5, a6, a7, a8, .int x] dX8_shareOf_105 rfl,
  fun d a0 a1 a2 a3 a5 a6 a7 a8 a9 x st h => fk_w_iload 4 [a0, a1, a2, a3, .int x, a5, a6, a7, a8, a9] dX8_shareOf_107 rfl,
  fun d L x y st h => fk_r_icmp_ne dX8_shareOf_109 (by decide),
  fun d a0 a1 a2 a3 a4 a5 a6 a8 a9 x st h => fk_w_iload 7 [a0, a1, a2, a3, a4, a5, a6, .int x, a8, a9] dX8_shareOf_112 rfl,
  fun d a0 a2 a3 a4 a5 a6 a7 a8 a9 x st h => fk_w_aloadn 1 [a0, .ref x, a2, a3, a4, a5, a6, a7, a8, a9] dX8_shareOf_114 rfl,
  fun d L st N y l c hc => fk_g_getI rfl lf_8_71 (by decide) dX8_shareOf_115 hc,
  fun d L x y st h => fk_r_icmp_ge dX8_shareOf_118 (by decide),
  fun d a0 a1 a2 a3 a4 a5 a7 a8 a9 x st h => fk_w_iinc 6 10 (1) [] [a0, a1, a2, a3, a4, a5, .int x, a7, a8, a9] [a0, a1, a2, a3, a4, a5, .int (x + nI 1), a7, a8, a9] dX8_shareOf_121 rfl rfl rfl (by decide) rfl,
  fun d a0 a1 a2 a3 a4 a5 a6 a8 a9 x st h => fk_w_iinc 7 10 (1) [] [a0, a1, a2, a3, a4, a5, a6, .int x, a8, a9] [a0, a1, a2, a3, a4, a5, a6, .int (x + nI 1), a8, a9] dX8_shareOf_124 rfl rfl rfl (by decide) rfl,
  fun d L st h => fk_r_goto dX8_shareOf_127 (by decide),
  fun d a0 a1 a3 a4 a5 a6 a7 a8 a9 x st h => fk_w_iloadn 2 [a0, a1, .int x, a3, a4, a5, a6, a7, a8, a9] dX8_shareOf_130 rfl,
  fun d a0 a2 a3 a4 a5 a6 a7 a8 a9 x st h => fk_w_aloadn 1 [a0, .ref x, a2, a3, a4, a5, a6, a7, a8, a9] dX8_shareOf_131 rfl,
  fun d L st N y l c hc => fk_g_getI rfl lf_8_80 (by decide) dX8_shareOf_132 hc,
  fun d L x y st h => fk_r_imul dX8_shareOf_135,
  fun d a0 a1 a2 a4 a5 a6 a7 a8 a9 x st h => fk_w_iloadn 3 [a0, a1, a2, .int x, a4, a5, a6, a7, a8, a9] dX8_shareOf_136 rfl,
  fun d L x y st h => fk_r_idiv dX8_shareOf_137,
  fun d a0 a1 a2 a3 a4 a5 a7 a8 a9 x st h => fk_w_iload 6 [a0, a1, a2, a3, a4, a5, .int x, a7, a8, a9] dX8_shareOf_138 rfl,
  fun d a0 a1 a2 a3 a4 a6 a7 a8 a9 x st h => fk_w_iload 5 [a0, a1, a2, a3, a4, .int x, a6, a7, a8, a9] dX8_shareOf_140 rfl,
  fun d L x y st h => fk_r_icmp_ge dX8_shareOf_142 (by decide),
  fun d L st h => fk_w_iconst dX8_shareOf_145 (by decide),
  fun d L st h => fk_r_goto dX8_shareOf_146 (by decide),
  fun d L st h => fk_w_iconst dX8_shareOf_149 (by decide),
  fun d L x y st h => fk_r_iadd dX8_shareOf_150,
  fun d L x h => fk_r_ret dX8_shareOf_151 (Or.inl rfl)⟩
theorem hX8_shareOf_35 : ∀ (d : Nat) (a0 a1 a2 a3 a4 a5 a6 a8 a9 : Value) (x : Int32) (st : List Value) (h : fk_H), fk_ev d qX8_shareOf 35 [a0, a1, a2, a3, a4, a5, a6, .int x, a8, a9] st h = fk_ev d qX8_shareOf 37 [a0, a1, a2, a3, a4, a5, a6, .int x, a8, a9] (.int x :: st) h := fun d a0 a1 a2 a3 a4 a5 a6 a8 a9 x st h => fk_w_iload 7 [a0, a1, a2, a3, a4, a5, a6, .int x, a8, a9] dX8_shareOf_35 rfl
theorem dX8_nearestInCommon_0 : decode cX8_nearestInCommon 0 = .ok (.iload_n 1, 1) := by decide +kernel
theorem dX8_nearestInCommon_1 : decode cX8_nearestInCommon 1 = .ok (.istore_n 3, 1) := by decide +kernel
theorem dX8_nearestInCommon_2 : decode cX8_nearestInCommon 2 = .ok (.iload_n 2, 1) := by decide +kernel
theorem dX8_nearestInCommon_3 : decode cX8_nearestInCommon 3 = .ok (.istore 4, 2) := by decide +kernel
theorem dX8_nearestInCommon_5 : decode cX8_nearestInCommon 5 = .ok (.iconst 0, 1) := by decide +kernel
theorem dX8_nearestInCommon_6 : decode cX8_nearestInCommon 6 = .ok (.istore 5, 2) := by decide +kernel
theorem dX8_nearestInCommon_8 : decode cX8_nearestInCommon 8 = .ok (.iload 5, 2) := by decide +kernel
theorem dX8_nearestInCommon_10 : decode cX8_nearestInCommon 10 = .ok (.sipush 128, 3) := by decide +kernel
theorem dX8_nearestInCommon_13 : decode cX8_nearestInCommon 13 = .ok (.if_icmp .ge 68, 3) := by decide +kernel
theorem dX8_nearestInCommon_16 : decode cX8_nearestInCommon 16 = .ok (.iload_n 3, 1) := by decide +kernel
theorem dX8_nearestInCommon_17 : decode cX8_nearestInCommon 17 = .ok (.iload 4, 2) := by decide +kernel
theorem dX8_nearestInCommon_19 : decode cX8_nearestInCommon 19 = .ok (.if_icmp .eq 62, 3) := by decide +kernel
theorem dX8_nearestInCommon_22 : decode cX8_nearestInCommon 22 = .ok (.iload_n 3, 1) := by decide +kernel
theorem dX8_nearestInCommon_23 : decode cX8_nearestInCommon 23 = .ok (.iload 4, 2) := by decide +kernel
theorem dX8_nearestInCommon_25 : decode cX8_nearestInCommon 25 = .ok (.if_icmp .le 13, 3) := by decide +kernel
theorem dX8_nearestInCommon_28 : decode cX8_nearestInCommon 28 = .ok (.iload_n 3, 1) := by decide +kernel
theorem dX8_nearestInCommon_29 : decode cX8_nearestInCommon 29 = .ok (.istore 6, 2) := by decide +kernel
theorem dX8_nearestInCommon_31 : decode cX8_nearestInCommon 31 = .ok (.iload 4, 2) := by decide +kernel
theorem dX8_nearestInCommon_33 : decode cX8_nearestInCommon 33 = .ok (.istore_n 3, 1) := by decide +kernel
theorem dX8_nearestInCommon_34 : decode cX8_nearestInCommon 34 = .ok (.iload 6, 2) := by decide +kernel
theorem dX8_nearestInCommon_36 : decode cX8_nearestInCommon 36 = .ok (.istore 4, 2) := by decide +kernel
theorem dX8_nearestInCommon_38 : decode cX8_nearestInCommon 38 = .ok (.aload_n 0, 1) := by decide +kernel
theorem dX8_nearestInCommon_39 : decode cX8_nearestInCommon 39 = .ok (.iload 4, 2) := by decide +kernel
theorem dX8_nearestInCommon_41 : decode cX8_nearestInCommon 41 = .ok (.invokevirtual 122, 3) := by decide +kernel
theorem dX8_nearestInCommon_44 : decode cX8_nearestInCommon 44 = .ok (.ifCond .eq 16, 3) := by decide +kernel
theorem dX8_nearestInCommon_47 : decode cX8_nearestInCommon 47 = .ok (.aload_n 0, 1) := by decide +kernel
theorem dX8_nearestInCommon_48 : decode cX8_nearestInCommon 48 = .ok (.getfield 11, 3) := by decide +kernel
theorem dX8_nearestInCommon_51 : decode cX8_nearestInCommon 51 = .ok (.iload 4, 2) := by decide +kernel
theorem dX8_nearestInCommon_53 : decode cX8_nearestInCommon 53 = .ok (.aaload, 1) := by decide +kernel
theorem dX8_nearestInCommon_54 : decode cX8_nearestInCommon 54 = .ok (.getfield 74, 3) := by decide +kernel
theorem dX8_nearestInCommon_57 : decode cX8_nearestInCommon 57 = .ok (.ifCond .ge 6, 3) := by decide +kernel
theorem dX8_nearestInCommon_60 : decode cX8_nearestInCommon 60 = .ok (.bipush (-2), 2) := by decide +kernel
theorem dX8_nearestInCommon_62 : decode cX8_nearestInCommon 62 = .ok (.ireturn, 1) := by decide +kernel
theorem dX8_nearestInCommon_63 : decode cX8_nearestInCommon 63 = .ok (.aload_n 0, 1) := by decide +kernel
theorem dX8_nearestInCommon_64 : decode cX8_nearestInCommon 64 = .ok (.getfield 11, 3) := by decide +kernel
theorem dX8_nearestInCommon_67 : decode cX8_nearestInCommon 67 = .ok (.iload 4, 2) := by decide +kernel
theorem dX8_nearestInCommon_69 : decode cX8_nearestInCommon 69 = .ok (.aaload, 1) := by decide +kernel
theorem dX8_nearestInCommon_70 : decode cX8_nearestInCommon 70 = .ok (.getfield 74, 3) := by decide +kernel
theorem dX8_nearestInCommon_73 : decode cX8_nearestInCommon 73 = .ok (.istore 4, 2) := by decide +kernel
theorem dX8_nearestInCommon_75 : decode cX8_nearestInCommon 75 = .ok (.iinc 5 1, 3) := by decide +kernel
theorem dX8_nearestInCommon_78 : decode cX8_nearestInCommon 78 = .ok (.goto (-70), 3) := by decide +kernel
theorem dX8_nearestInCommon_81 : decode cX8_nearestInCommon 81 = .ok (.iload_n 3, 1) := by decide +kernel
theorem dX8_nearestInCommon_82 : decode cX8_nearestInCommon 82 = .ok (.ireturn, 1) := by decide +kernel
theorem rX8_nearestInCommon : (∀ (d : Nat) (a0 a2 a3 a4 a5 a6 : Value) (x : Int32) (st : List Value) (h : fk_H), fk_ev d qX8_nearestInCommon 0 [a0, .int x, a2, a3, a4, a5, a6] st h = fk_ev d qX8_nearestInCommon 1 [a0, .int x, a2, a3, a4, a5, a6] (.int x :: st) h) ∧
  (∀ (d : Nat) (a0 a1 a2 a3 a4 a5 a6 : Value) (x : Int32) (st : List Value) (h : fk_H), fk_ev d qX8_nearestInCommon 1 [a0, a1, a2, a3, a4, a5, a6] (.int x :: st) h = fk_ev d qX8_nearestInCommon 2 [a0, a1, a2, .int x, a4, a5, a6] st h) ∧
  (∀ (d : Nat) (a0 a1 a3 a4 a5 a6 : Value) (x : Int32) (st : List Value) (h : fk_H), fk_ev d qX8_nearestInCommon 2 [a0, a1, .int x, a3, a4, a5, a6] st h = fk_ev d qX8_nearestInCommon 3 [a0, a1, .int x, a3, a4, a5, a6] (.int x :: st) h) ∧
  (∀ (d : Nat) (a0 a1 a2 a3 a4 a5 a6 : Value) (x : Int32) (st : List Value) (h : fk_H), fk_ev d qX8_nearestInCommon 3 [a0, a1, a2, a3, a4, a5, a6] (.int x :: st) h = fk_ev d qX8_nearestInCommon 5 [a0, a1, a2, a3, .int x, a5, a6] st h) ∧
  (∀ (d : Nat) (L st : List Value) (h : fk_H), fk_ev d qX8_nearestInCommon 5 L st h = fk_ev d qX8_nearestInCommon 6 L (.int (nI 0) :: st) h) ∧
  (∀ (d : Nat) (a0 a1 a2 a3 a4 a5 a6 : Value) (x : Int32) (st : List Value) (h : fk_H), fk_ev d qX8_nearestInCommon 6 [a0, a1, a2, a3, a4, a5, a6] (.int x :: st) h = fk_ev d qX8_nearestInCommon 8 [a0, a1, a2, a3, a4, .int x, a6] st h) ∧
  (∀ (d : Nat) (L st : List Value) (h : fk_H), fk_ev d qX8_nearestInCommon 10 L st h = fk_ev d qX8_nearestInCommon 13 L (.int (nI 128) :: st) h) ∧
  (∀ (d : Nat) (L : List Value) (x y : Int32) (st : List Value) (h : fk_H), fk_ev d qX8_nearestInCommon 13 L (.int y :: .int x :: st) h = if y ≤ x then fk_ev d qX8_nearestInCommon 81 L st h else fk_ev d qX8_nearestInCommon 16 L st h) ∧
  (∀ (d : Nat) (a0 a1 a2 a4 a5 a6 : Value) (x : Int32) (st : List Value) (h : fk_H), fk_ev d qX8_nearestInCommon 16 [a0, a1, a2, .int x, a4, a5, a6] st h = fk_ev d qX8_nearestInCommon 17 [a0, a1, a2, .int x, a4, a5, a6] (.int x :: st) h) ∧
  (∀ (d : Nat) (a0 a1 a2 a3 a5 a6 : Value) (x : Int32) (st : List Value) (h : fk_H), fk_ev d qX8_nearestInCommon 17 [a0, a1, a2, a3, .int x, a5, a6] st h = fk_ev d qX8_nearestInCommon 19 [a0, a1, a2, a3, .int x, a5, a6] (.int x :: st) h) ∧
  (∀ (d : Nat) (L : List Value) (x y : Int32) (st : List Value) (h : fk_H), fk_ev d qX8_nearestInCommon 19 L (.int y :: .int x :: st) h = if x = y then fk_ev d qX8_nearestInCommon 81 L st h else fk_ev d qX8_nearestInCommon 22 L st h) ∧
  (∀ (d : Nat) (a0 a1 a2 a4 a5 a6 : Value) (x : Int32) (st : List Value) (h : fk_H), fk_ev d qX8_nearestInCommon 22 [a0, a1, a2, .int x, a4, a5, a6] st h = fk_ev d qX8_nearestInCommon 23 [a0, a1, a2, .int x, a4, a5, a6] (.int x :: st) h) ∧
  (∀ (d : Nat) (a0 a1 a2 a3 a5 a6 : Value) (x : Int32) (st : List Value) (h : fk_H), fk_ev d qX8_nearestInCommon 23 [a0, a1, a2, a3, .int x, a5, a6] st h = fk_ev d qX8_nearestInCommon 25 [a0, a1, a2, a3, .int x, a5, a6] (.int x :: st) h) ∧
  (∀ (d : Nat) (L : List Value) (x y : Int32) (st : List Value) (h : fk_H), fk_ev d qX8_nearestInCommon 25 L (.int y :: .int x :: st) h = if x ≤ y then fk_ev d qX8_nearestInCommon 38 L st h else fk_ev d qX8_nearestInCommon 28 L st h) ∧
  (∀ (d : Nat) (a0 a1 a2 a4 a5 a6 : Value) (x : Int32) (st : List Value) (h : fk_H), fk_ev d qX8_nearestInCommon 28 [a0, a1, a2, .int x, a4, a5, a6] st h = fk_ev d qX8_nearestInCommon 29 [a0, a1, a2, .int x, a4, a5, a6] (.int x :: st) h) ∧
  (∀ (d : Nat) (a0 a1 a2 a3 a4 a5 a6 : Value) (x : Int32) (st : List Value) (h : fk_H), fk_ev d qX8_nearestInCommon 29 [a0, a1, a2, a3, a4, a5, a6] (.int x :: st) h = fk_ev d qX8_nearestInCommon 31 [a0, a1, a2, a3, a4, a5, .int x] st h) ∧
  (∀ (d : Nat) (a0 a1 a2 a3 a5 a6 : Value) (x : Int32) (st : List Value) (h : fk_H), fk_ev d qX8_nearestInCommon 31 [a0, a1, a2, a3, .int x, a5, a6] st h = fk_ev d qX8_nearestInCommon 33 [a0, a1, a2, a3, .int x, a5, a6] (.int x :: st) h) ∧
  (∀ (d : Nat) (a0 a1 a2 a3 a4 a5 a6 : Value) (x : Int32) (st : List Value) (h : fk_H), fk_ev d qX8_nearestInCommon 33 [a0, a1, a2, a3, a4, a5, a6] (.int x :: st) h = fk_ev d qX8_nearestInCommon 34 [a0, a1, a2, .int x, a4, a5, a6] st h) ∧
  (∀ (d : Nat) (a0 a1 a2 a3 a4 a5 : Value) (x : Int32) (st : List Value) (h : fk_H), fk_ev d qX8_nearestInCommon 34 [a0, a1, a2, a3, a4, a5, .int x] st h = fk_ev d qX8_nearestInCommon 36 [a0, a1, a2, a3, a4, a5, .int x] (.int x :: st) h) ∧
  (∀ (d : Nat) (a0 a1 a2 a3 a4 a5 a6 : Value) (x : Int32) (st : List Value) (h : fk_H), fk_ev d qX8_nearestInCommon 36 [a0, a1, a2, a3, a4, a5, a6] (.int x :: st) h = fk_ev d qX8_nearestInCommon 38 [a0, a1, a2, a3, .int x, a5, a6] st h) ∧
  (∀ (d : Nat) (a1 a2 a3 a4 a5 a6 : Value) (x : Nat) (st : List Value) (h : fk_H), fk_ev d qX8_nearestInCommon 38 [.ref x, a1, a2, a3, a4, a5, a6] st h = fk_ev d qX8_nearestInCommon 39 [.ref x, a1, a2, a3, a4, a5, a6] (.ref x :: st) h) ∧
  (∀ (d : Nat) (a0 a1 a2 a3 a5 a6 : Value) (x : Int32) (st : List Value) (h : fk_H), fk_ev d qX8_nearestInCommon 39 [a0, a1, a2, a3, .int x, a5, a6] st h = fk_ev d qX8_nearestInCommon 41 [a0, a1, a2, a3, .int x, a5, a6] (.int x :: st) h) ∧
  (∀ (d : Nat) (L : List Value) (x0 : Int32)  (N : Nat) (y : Nat → Nat → Int32) (l : Nat → Nat → Int64) (c : Nat), fk_at c 8 → fk_ev (d + 1) qX8_nearestInCommon 41 L (.int x0 :: .ref c :: []) (fk_E N y l) = (fk_ev d qX8_hasBeen 0 [.ref c, .int x0] [] (fk_E N y l)).bind fun o => fk_ev (d + 1) qX8_nearestInCommon 44 L (o.1.toList ++ []) o.2) ∧
  (∀ (d : Nat) (L : List Value) (x : Int32) (st : List Value) (h : fk_H), fk_ev d qX8_nearestInCommon 44 L (.int x :: st) h = if x = nI 0 then fk_ev d qX8_nearestInCommon 60 L st h else fk_ev d qX8_nearestInCommon 47 L st h) ∧
  (∀ (d : Nat) (a1 a2 a3 a4 a5 a6 : Value) (x : Nat) (st : List Value) (h : fk_H), fk_ev d qX8_nearestInCommon 47 [.ref x, a1, a2, a3, a4, a5, a6] st h = fk_ev d qX8_nearestInCommon 48 [.ref x, a1, a2, a3, a4, a5, a6] (.ref x :: st) h) ∧
  (∀ (d : Nat) (L st : List Value) (N : Nat) (y : Nat → Nat → Int32) (l : Nat → Nat → Int64) (c : Nat), fk_at c 8 → fk_ev d qX8_nearestInCommon 48 L (.ref c :: st) (fk_E N y l) = fk_ev d qX8_nearestInCommon 51 L (.ref (fk_cr c 0) :: st) (fk_E N y l)) ∧
  (∀ (d : Nat) (a0 a1 a2 a3 a5 a6 : Value) (x : Int32) (st : List Value) (h : fk_H), fk_ev d qX8_nearestInCommon 51 [a0, a1, a2, a3, .int x, a5, a6] st h = fk_ev d qX8_nearestInCommon 53 [a0, a1, a2, a3, .int x, a5, a6] (.int x :: st) h) ∧
  (∀ (d : Nat) (L st : List Value) (N : Nat) (y : Nat → Nat → Int32) (l : Nat → Nat → Int64) (c i : Nat), fk_at c 24 → i < (fk_shp c).2 → (fk_shp c).2 < 2 ^ 31 → fk_ev d qX8_nearestInCommon 53 L (.int (nI i) :: .ref c :: st) (fk_E N y l) = fk_ev d qX8_nearestInCommon 54 L (.ref (c + 2 + i) :: st) (fk_E N y l)) ∧
  (∀ (d : Nat) (L st : List Value) (N : Nat) (y : Nat → Nat → Int32) (l : Nat → Nat → Int64) (c : Nat), fk_at c 0 → fk_ev d qX8_nearestInCommon 54 L (.ref c :: st) (fk_E N y l) = fk_ev d qX8_nearestInCommon 57 L (.int (y c 2) :: st) (fk_E N y l)) ∧
  (∀ (d : Nat) (L : List Value) (x : Int32) (st : List Value) (h : fk_H), fk_ev d qX8_nearestInCommon 57 L (.int x :: st) h = if nI 0 ≤ x then fk_ev d qX8_nearestInCommon 63 L st h else fk_ev d qX8_nearestInCommon 60 L st h) ∧
  (∀ (d : Nat) (L st : List Value) (h : fk_H), fk_ev d qX8_nearestInCommon 60 L st h = fk_ev d qX8_nearestInCommon 62 L (.int ((-2 : Int32)) :: st) h) ∧
  (∀ (d : Nat) (L : List Value) (x : Int32) (h : fk_H), fk_ev d qX8_nearestInCommon 62 L [.int x] h = some (some (.int x), h)) ∧
  (∀ (d : Nat) (a1 a2 a3 a4 a5 a6 : Value) (x : Nat) (st : List Value) (h : fk_H), fk_ev d qX8_nearestInCommon 63 [.ref x, a1, a2, a3, a4, a5, a6] st h = fk_ev d qX8_nearestInCommon 64 [.ref x, a1, a2, a3, a4, a5, a6] (.ref x :: st) h) ∧
  (∀ (d : Nat) (L st : List Value) (N : Nat) (y : Nat → Nat → Int32) (l : Nat → Nat → Int64) (c : Nat), fk_at c 8 → fk_ev d qX8_nearestInCommon 64 L (.ref c :: st) (fk_E N y l) = fk_ev d qX8_nearestInCommon 67 L (.ref (fk_cr c 0) :: st) (fk_E N y l)) ∧
  (∀ (d : Nat) (a0 a1 a2 a3 a5 a6 : Value) (x : Int32) (st : List Value) (h : fk_H), fk_ev d qX8_nearestInCommon 67 [a0, a1, a2, a3, .int x, a5, a6] st h = fk_ev d qX8_nearestInCommon 69 [a0, a1, a2, a3, .int x, a5, a6] (.int x :: st) h) ∧
  (∀ (d : Nat) (L st : List Value) (N : Nat) (y : Nat → Nat → Int32) (l : Nat → Nat → Int64) (c i : Nat), fk_at c 24 → i < (fk_shp c).2 → (fk_shp c).2 < 2 ^ 31 → fk_ev d qX8_nearestInCommon 69 L (.int (nI i) :: .ref c :: st) (fk_E N y l) = fk_ev d qX8_nearestInCommon 70 L (.ref (c + 2 + i) :: st) (fk_E N y l)) ∧
  (∀ (d : Nat) (L st : List Value) (N : Nat) (y : Nat → Nat → Int32) (l : Nat → Nat → Int64) (c : Nat), fk_at c 0 → fk_ev d qX8_nearestInCommon 70 L (.ref c :: st) (fk_E N y l) = fk_ev d qX8_nearestInCommon 73 L (.int (y c 2) :: st) (fk_E N y l)) ∧
  (∀ (d : Nat) (a0 a1 a2 a3 a4 a5 a6 : Value) (x : Int32) (st : List Value) (h : fk_H), fk_ev d qX8_nearestInCommon 73 [a0, a1, a2, a3, a4, a5, a6] (.int x :: st) h = fk_ev d qX8_nearestInCommon 75 [a0, a1, a2, a3, .int x, a5, a6] st h) ∧
  (∀ (d : Nat) (a0 a1 a2 a3 a4 a6 : Value) (x : Int32) (st : List Value) (h : fk_H), fk_ev d qX8_nearestInCommon 75 [a0, a1, a2, a3, a4, .int x, a6] st h = fk_ev d qX8_nearestInCommon 78 [a0, a1, a2, a3, a4, .int (x + nI 1), a6] st h) ∧
  (∀ (d : Nat) (L st : List Value) (h : fk_H), fk_ev d qX8_nearestInCommon 78 L st h = fk_ev d qX8_nearestInCommon 8 L st h) ∧
  (∀ (d : Nat) (a0 a1 a2 a4 a5 a6 : Value) (x : Int32) (st : List Value) (h : fk_H), fk_ev d qX8_nearestInCommon 81 [a0, a1, a2, .int x, a4, a5, a6] st h = fk_ev d qX8_nearestInCommon 82 [a0, a1, a2, .int x, a4, a5, a6] (.int x :: st) h) ∧
  (∀ (d : Nat) (L : List Value) (x : Int32) (h : fk_H), fk_ev d qX8_nearestInCommon 82 L [.int x] h = some (some (.int x), h)) := ⟨fun d a0 a2 a3 a4 a5 a6 x st h => fk_w_iloadn 1 [a0, .int x, a2, a3, a4, a5, a6] dX8_nearestInCommon_0 rfl,
  fun d a0 a1 a2 a3 a4 a5 a6 x st h => fk_w_istoren 3 7 [] [a0, a1, a2, a3, a4, a5, a6] [a0, a1, a2, .int x, a4, a5, a6] dX8_nearestInCommon_1 rfl rfl (by decide) rfl,
  fun d a0 a1 a3 a4 a5 a6 x st h => fk_w_iloadn 2 [a0, a1, .int x, a3, a4, a5, a6] dX8_nearestInCommon_2 rfl,
  fun d a0 a1 a2 a3 a4 a5 a6 x st h => fk_w_istore 4 7 [] [a0, a1, a2, a3, a4, a5, a6] [a0, a1, a2, a3, .int x, a5, a6] dX8_nearestInCommon_3 rfl rfl (by decide) rfl,
  fun d L st h => fk_w_iconst dX8_nearestInCommon_5 (by decide),
  fun d a0 a1 a2 a3 a4 a5 a6 x st h => fk_w_istore 5 7 [] [a0, a1, a2, a3, a4, a5, a6] [a0, a1, a2, a3, a4, .int x, a6] dX8_nearestInCommon_6 rfl rfl (by decide) rfl,
  fun d L st h => fk_w_sipush dX8_nearestInCommon_10 (by decide),
  fun d L x y st h => fk_r_icmp_ge dX8_nearestInCommon_13 (by decide),
  fun d a0 a1 a2 a4 a5 a6 x st h => fk_w_iloadn 3 [a0, a1, a2, .int x, a4, a5, a6] dX8_nearestInCommon_16 rfl,
  fun d a0 a1 a2 a3 a5 a6 x st h => fk_w_iload 4 [a0, a1, a2, a3, .int x, a5, a6] dX8_nearestInCommon_17 rfl,
  fun d L x y st h => fk_r_icmp_eq dX8_nearestInCommon_19 (by decide),
  fun d a0 a1 a2 a4 a5 a6 x st h => fk_w_iloadn 3 [a0, a1, a2, .int x, a4, a5, a6] dX8_nearestInCommon_22 rfl,
  fun d a0 a1 a2 a3 a5 a6 x st h => fk_w_iload 4 [a0, a1, a2, a3, .int x, a5, a6] dX8_nearestInCommon_23 rfl,
  fun d L x y st h => fk_r_icmp_le dX8_nearestInCommon_25 (by decide),
  fun d a0 a1 a2 a4 a5 a6 x st h => fk_w_iloadn 3 [a0, a1, a2, .int x, a4, a5, a6] dX8_nearestInCommon_28 rfl,
  fun d a0 a1 a2 a3 a4 a5 a6 x st h => fk_w_istore 6 7 [] [a0, a1, a2, a3, a4, a5, a6] [a0, a1, a2, a3, a4, a5, .int x] dX8_nearestInCommon_29 rfl rfl (by decide) rfl,
  fun d a0 a1 a2 a3 a5 a6 x st h => fk_w_iload 4 [a0, a1, a2, a3, .int x, a5, a6] dX8_nearestInCommon_31 rfl,
  fun d a0 a1 a2 a3 a4 a5 a6 x st h => fk_w_istoren 3 7 [] [a0, a1, a2, a3, a4, a5, a6] [a0, a1, a2, .int x, a4, a5, a6] dX8_nearestInCommon_33 rfl rfl (by decide) rfl,
  fun d a0 a1 a2 a3 a4 a5 x st h => fk_w_iload 6 [a0, a1, a2, a3, a4, a5, .int x] dX8_nearestInCommon_34 rfl,
  fun d a0 a1 a2 a3 a4 a5 a6 x st h => fk_w_istore 4 7 [] [a0, a1, a2, a3, a4, a5, a6] [a0, a1, a2, a3, .int x, a5, a6] dX8_nearestInCommon_36 rfl rfl (by decide) rfl,
  fun d a1 a2 a3 a4 a5 a6 x st h => fk_w_aloadn 0 [.ref x, a1, a2, a3, a4, a5, a6] dX8_nearestInCommon_38 rfl,
  fun d a0 a1 a2 a3 a5 a6 x st h => fk_w_iload 4 [a0, a1, a2, a3, .int x, a5, a6] dX8_nearestInCommon_39 rfl,
  fun d L x0 N y l c hc => fk_g_call [.int x0] [] rfl lm_8_122 dX8_nearestInCommon_41 rfl ⟨rfl, by decide⟩ (by simp) hc,
  fun d L x st h => fk_r_if_eq dX8_nearestInCommon_44 (by decide),
  fun d a1 a2 a3 a4 a5 a6 x st h => fk_w_aloadn 0 [.ref x, a1, a2, a3, a4, a5, a6] dX8_nearestInCommon_47 rfl,
  fun d L st N y l c hc => fk_g_getC rfl lf_8_11 (by decide) rfl dX8_nearestInCommon_48 hc,
  fun d a0 a1 a2 a3 a5 a6 x st h => fk_w_iload 4 [a0, a1, a2, a3, .int x, a5, a6] dX8_nearestInCommon_51 rfl,
  fun d L st N y l c i hc hi hl => fk_h_aald dX8_nearestInCommon_53 hc hi hl,
  fun d L st N y l c hc => fk_g_getI rfl lf_8_74 (by decide) dX8_nearestInCommon_54 hc,
  fun d L x st h => fk_r_if_ge dX8_nearestInCommon_57 (by decide),
  fun d L st h => fk_w_bipush dX8_nearestInCommon_60 (by decide),
  fun d L x h => fk_r_ret dX8_nearestInCommon_62 (Or.inl rfl),
  fun d a1 a2 a3 a4 a5 a6 x st h => fk_w_aloadn 0 [.ref x, a1, a2, a3, a4, a5, a6] dX8_nearestInCommon_63 rfl,
  fun d L st N y l c hc => fk_g_getC rfl lf_8_11 (by decide) rfl dX8_nearestInCommon_64 hc,
  fun d a0 a1 a2 a3 a5 a6 x st h => fk_w_iload 4 [a0, a1, a2, a3, .int x, a5, a6] dX8_nearestInCommon_67 rfl,
  fun d L st N y l c i hc hi hl => fk_h_aald dX8_nearestInCommon_69 hc hi hl,
  fun d L st N y l c hc => fk_g_getI rfl lf_8_74 (by decide) dX8_nearestInCommon_70 hc,
  fun d a0 a1 a2 a3 a4 a5 a6 x st h => fk_w_istore 4 7 [] [a0, a1, a2, a3, a4, a5, a6] [a0, a1, a2, a3, .int x, a5, a6] dX8_nearestInCommon_73 rfl rfl (by decide) rfl,
  fun d a0 a1 a2 a3 a4 a6 x st h => fk_w_iinc 5 7 (1) [] [a0, a1, a2, a3, a4, .int x, a6] [a0, a1, a2, a3, a4, .int (x + nI 1), a6] dX8_nearestInCommon_75 rfl rfl rfl (by decide) rfl,
  fun d L st h => fk_r_goto dX8_nearestInCommon_78 (by decide),
  fun d a0 a1 a2 a4 a5 a6 x st h => fk_w_iloadn 3 [a0, a1, a2, .int x, a4, a5, a6] dX8_nearestInCommon_81 rfl,
  fun d L x h => fk_r_ret dX8_nearestInCommon_82 (Or.inl rfl)⟩
theorem hX8_nearestInCommon_8 : ∀ (d : Nat) (a0 a1 a2 a3 a4 a6 : Value) (x : Int32) (st : List Value) (h : fk_H), fk_ev d qX8_nearestInCommon 8 [a0, a1, a2, a3, a4, .int x, a6] st h = fk_ev d qX8_nearestInCommon 10 [a0, a1, a2, a3, a4, .int x, a6] (.int x :: st) h := fun d a0 a1 a2 a3 a4 a6 x st h => fk_w_iload 5 [a0, a1, a2, a3, a4, .int x, a6] dX8_nearestInCommon_8 rfl
theorem dX9_seek_0 : decode cX9_seek 0 = .ok (.aload_n 0, 1) := by decide +kernel
theorem dX9_seek_1 : decode cX9_seek 1 = .ok (.iconst (-1), 1) := by decide +kernel
theorem dX9_seek_2 : decode cX9_seek 2 = .ok (.putfield 9, 3) := by decide +kernel
theorem dX9_seek_5 : decode cX9_seek 5 = .ok (.aload_n 0, 1) := by decide +kernel
theorem dX9_seek_6 : decode cX9_seek 6 = .ok (.iconst 0, 1) := by decide +kernel
theorem dX9_seek_7 : decode cX9_seek 7 = .ok (.putfield 15, 3) := by decide +kernel
theorem dX9_seek_10 : decode cX9_seek 10 = .ok (.aload_n 0, 1) := by decide +kernel
theorem dX9_seek_11 : decode cX9_seek 11 = .ok (.iconst 1, 1) := by decide +kernel
theorem dX9_seek_12 : decode cX9_seek 12 = .ok (.putfield 18, 3) := by decide +kernel
theorem dX9_seek_15 : decode cX9_seek 15 = .ok (.aload_n 1, 1) := by decide +kernel
theorem dX9_seek_16 : decode cX9_seek 16 = .ok (.getfield 36, 3) := by decide +kernel
theorem dX9_seek_19 : decode cX9_seek 19 = .ok (.iload_n 3, 1) := by decide +kernel
theorem dX9_seek_20 : decode cX9_seek 20 = .ok (.aaload, 1) := by decide +kernel
theorem dX9_seek_21 : decode cX9_seek 21 = .ok (.astore 6, 2) := by decide +kernel
theorem dX9_seek_23 : decode cX9_seek 23 = .ok (.iload 4, 2) := by decide +kernel
theorem dX9_seek_25 : decode cX9_seek 25 = .ok (.iconst 1, 1) := by decide +kernel
theorem dX9_seek_26 : decode cX9_seek 26 = .ok (.aload 6, 2) := by decide +kernel
theorem dX9_seek_28 : decode cX9_seek 28 = .ok (.getfield 42, 3) := by decide +kernel
theorem dX9_seek_31 : decode cX9_seek 31 = .ok (.ishl, 1) := by decide +kernel
theorem dX9_seek_32 : decode cX9_seek 32 = .ok (.iconst (-1), 1) := by decide +kernel
theorem dX9_seek_33 : decode cX9_seek 33 = .ok (.ixor, 1) := by decide +kernel
theorem dX9_seek_34 : decode cX9_seek 34 = .ok (.iand, 1) := by decide +kernel
theorem dX9_seek_35 : decode cX9_seek 35 = .ok (.istore 7, 2) := by decide +kernel
theorem dX9_seek_37 : decode cX9_seek 37 = .ok (.iload 7, 2) := by decide +kernel
theorem dX9_seek_39 : decode cX9_seek 39 = .ok (.ifCond .ne 9, 3) := by decide +kernel
theorem dX9_seek_42 : decode cX9_seek 42 = .ok (.aload_n 0, 1) := by decide +kernel
theorem dX9_seek_43 : decode cX9_seek 43 = .ok (.iconst 0, 1) := by decide +kernel
theorem dX9_seek_44 : decode cX9_seek 44 = .ok (.putfield 9, 3) := by decide +kernel
theorem dX9_seek_47 : decode cX9_seek 47 = .ok (.return_, 1) := by decide +kernel
theorem dX9_seek_48 : decode cX9_seek 48 = .ok (.iload 7, 2) := by decide +kernel
theorem dX9_seek_50 : decode cX9_seek 50 = .ok (.aload_n 0, 1) := by decide +kernel
theorem dX9_seek_51 : decode cX9_seek 51 = .ok (.getfield 24, 3) := by decide +kernel
theorem dX9_seek_54 : decode cX9_seek 54 = .ok (.aload 6, 2) := by decide +kernel
theorem dX9_seek_56 : decode cX9_seek 56 = .ok (.getfield 42, 3) := by decide +kernel
theorem dX9_seek_59 : decode cX9_seek 59 = .ok (.iconst 0, 1) := by decide +kernel
theorem dX9_seek_60 : decode cX9_seek 60 = .ok (.invokevirtual 47, 3) := by decide +kernel
theorem dX9_seek_63 : decode cX9_seek 63 = .ok (.iconst (-1), 1) := by decide +kernel
theorem dX9_seek_64 : decode cX9_seek 64 = .ok (.ixor, 1) := by decide +kernel
theorem dX9_seek_65 : decode cX9_seek 65 = .ok (.iand, 1) := by decide +kernel
theorem dX9_seek_66 : decode cX9_seek 66 = .ok (.ifCond .eq 4, 3) := by decide +kernel
theorem dX9_seek_69 : decode cX9_seek 69 = .ok (.return_, 1) := by decide +kernel
theorem dX9_seek_70 : decode cX9_seek 70 = .ok (.aload_n 0, 1) := by decide +kernel
theorem dX9_seek_71 : decode cX9_seek 71 = .ok (.getfield 24, 3) := by decide +kernel
theorem dX9_seek_74 : decode cX9_seek 74 = .ok (.invokevirtual 53, 3) := by decide +kernel
theorem dX9_seek_77 : decode cX9_seek 77 = .ok (.istore 8, 2) := by decide +kernel
theorem dX9_seek_79 : decode cX9_seek 79 = .ok (.iconst 0, 1) := by decide +kernel
theorem dX9_seek_80 : decode cX9_seek 80 = .ok (.istore 9, 2) := by decide +kernel
theorem dX9_seek_82 : decode cX9_seek 82 = .ok (.iload 5, 2) := by decide +kernel
theorem dX9_seek_84 : decode cX9_seek 84 = .ok (.istore 10, 2) := by decide +kernel
theorem dX9_seek_86 : decode cX9_seek 86 = .ok (.iconst 0, 1) := by decide +kernel
theorem dX9_seek_87 : decode cX9_seek 87 = .ok (.istore 11, 2) := by decide +kernel
theorem dX9_seek_89 : decode cX9_seek 89 = .ok (.iload 11, 2) := by decide +kernel
theorem dX9_seek_91 : decode cX9_seek 91 = .ok (.sipush 256, 3) := by decide +kernel
theorem dX9_seek_94 : decode cX9_seek 94 = .ok (.if_icmp .ge 148, 3) := by decide +kernel
theorem dX9_seek_97 : decode cX9_seek 97 = .ok (.iload 10, 2) := by decide +kernel
theorem dX9_seek_99 : decode cX9_seek 99 = .ok (.ifCond .le 143, 3) := by decide +kernel
theorem dX9_seek_102 : decode cX9_seek 102 = .ok (.aload_n 0, 1) := by decide +kernel
theorem dX9_seek_103 : decode cX9_seek 103 = .ok (.getfield 32, 3) := by decide +kernel
theorem dX9_seek_106 : decode cX9_seek 106 = .ok (.aload_n 1, 1) := by decide +kernel
theorem dX9_seek_107 : decode cX9_seek 107 = .ok (.invokevirtual 57, 3) := by decide +kernel
theorem dX9_seek_110 : decode cX9_seek 110 = .ok (.aload_n 0, 1) := by decide +kernel
theorem dX9_seek_111 : decode cX9_seek 111 = .ok (.getfield 28, 3) := by decide +kernel
theorem dX9_seek_114 : decode cX9_seek 114 = .ok (.aload_n 0, 1) := by decide +kernel
theorem dX9_seek_115 : decode cX9_seek 115 = .ok (.getfield 32, 3) := by decide +kernel
theorem dX9_seek_118 : decode cX9_seek 118 = .ok (.aload_n 2, 1) := by decide +kernel
theorem dX9_seek_119 : decode cX9_seek 119 = .ok (.invokevirtual 61, 3) := by decide +kernel
theorem dX9_seek_122 : decode cX9_seek 122 = .ok (.aload_n 0, 1) := by decide +kernel
theorem dX9_seek_123 : decode cX9_seek 123 = .ok (.getfield 28, 3) := by decide +kernel
theorem dX9_seek_126 : decode cX9_seek 126 = .ok (.aload 6, 2) := by decide +kernel
theorem dX9_seek_128 : decode cX9_seek 128 = .ok (.getfield 67, 3) := by decide +kernel
theorem dX9_seek_131 : decode cX9_seek 131 = .ok (.iload 9, 2) := by decide +kernel
theorem dX9_seek_133 : decode cX9_seek 133 = .ok (.invokevirtual 70, 3) := by decide +kernel
theorem dX9_seek_136 : decode cX9_seek 136 = .ok (.aload_n 0, 1) := by decide +kernel
theorem dX9_seek_137 : decode cX9_seek 137 = .ok (.aload 6, 2) := by decide +kernel
theorem dX9_seek_139 : decode cX9_seek 139 = .ok (.getfield 67, 3) := by decide +kernel
theorem dX9_seek_142 : decode cX9_seek 142 = .ok (.iload 7, 2) := by decide +kernel
theorem dX9_seek_144 : decode cX9_seek 144 = .ok (.iload 10, 2) := by decide +kernel
theorem dX9_seek_146 : decode cX9_seek 146 = .ok (.invokevirtual 74, 3) := by decide +kernel
theorem dX9_seek_149 : decode cX9_seek 149 = .ok (.istore 12, 2) := by decide +kernel
theorem dX9_seek_151 : decode cX9_seek 151 = .ok (.iload 12, 2) := by decide +kernel
theorem dX9_seek_153 : decode cX9_seek 153 = .ok (.ifCond .le 29, 3) := by decide +kernel
theorem dX9_seek_156 : decode cX9_seek 156 = .ok (.aload_n 0, 1) := by decide +kernel
theorem dX9_seek_157 : decode cX9_seek 157 = .ok (.iload 12, 2) := by decide +kernel
theorem dX9_seek_159 : decode cX9_seek 159 = .ok (.putfield 9, 3) := by decide +kernel
theorem dX9_seek_162 : decode cX9_seek 162 = .ok (.aload_n 0, 1) := by decide +kernel
theorem dX9_seek_163 : decode cX9_seek 163 = .ok (.iload 9, 2) := by decide +kernel
theorem dX9_seek_165 : decode cX9_seek 165 = .ok (.putfield 15, 3) := by decide +kernel
theorem dX9_seek_168 : decode cX9_seek 168 = .ok (.aload_n 0, 1) := by decide +kernel
theorem dX9_seek_169 : decode cX9_seek 169 = .ok (.aload_n 0, 1) := by decide +kernel
theorem dX9_seek_170 : decode cX9_seek 170 = .ok (.getfield 21, 3) := by decide +kernel
theorem dX9_seek_173 : decode cX9_seek 173 = .ok (.putfield 18, 3) := by decide +kernel
theorem dX9_seek_176 : decode cX9_seek 176 = .ok (.iload 12, 2) := by decide +kernel
theorem dX9_seek_178 : decode cX9_seek 178 = .ok (.iconst 1, 1) := by decide +kernel
theorem dX9_seek_179 : decode cX9_seek 179 = .ok (.isub, 1) := by decide +kernel
theorem dX9_seek_180 : decode cX9_seek 180 = .ok (.istore 10, 2) := by decide +kernel
theorem dX9_seek_182 : decode cX9_seek 182 = .ok (.aload_n 0, 1) := by decide +kernel
theorem dX9_seek_183 : decode cX9_seek 183 = .ok (.getfield 28, 3) := by decide +kernel
theorem dX9_seek_186 : decode cX9_seek 186 = .ok (.getfield 78, 3) := by decide +kernel
theorem dX9_seek_189 : decode cX9_seek 189 = .ok (.iload 8, 2) := by decide +kernel
theorem dX9_seek_191 : decode cX9_seek 191 = .ok (.iand, 1) := by decide +kernel
theorem dX9_seek_192 : decode cX9_seek 192 = .ok (.istore 13, 2) := by decide +kernel
theorem dX9_seek_194 : decode cX9_seek 194 = .ok (.iload 9, 2) := by decide +kernel
theorem dX9_seek_196 : decode cX9_seek 196 = .ok (.iload 13, 2) := by decide +kernel
theorem dX9_seek_198 : decode cX9_seek 198 = .ok (.ifCond .ne 8, 3) := by decide +kernel
theorem dX9_seek_201 : decode cX9_seek 201 = .ok (.iload 8, 2) := by decide +kernel
theorem dX9_seek_203 : decode cX9_seek 203 = .ok (.goto 14, 3) := by decide +kernel
theorem dX9_seek_206 : decode cX9_seek 206 = .ok (.iload 8, 2) := by decide +kernel
theorem dX9_seek_208 : decode cX9_seek 208 = .ok (.iload 13, 2) := by decide +kernel
theorem dX9_seek_210 : decode cX9_seek 210 = .ok (.iload 13, 2) := by decide +kernel
theorem dX9_seek_212 : decode cX9_seek 212 = .ok (.ineg, 1) := by decide +kernel
theorem dX9_seek_213 : decode cX9_seek 213 = .ok (.iand, 1) := by decide +kernel
theorem dX9_seek_214 : decode cX9_seek 214 = .ok (.iconst 1, 1) := by decide +kernel
theorem dX9_seek_215 : decode cX9_seek 215 = .ok (.isub, 1) := by decide +kernel
theorem dX9_seek_216 : decode cX9_seek 216 = .ok (.iand, 1) := by decide +kernel
theorem dX9_seek_217 : decode cX9_seek 217 = .ok (.ior, 1) := by decide +kernel
theorem dX9_seek_218 : decode cX9_seek 218 = .ok (.istore 9, 2) := by decide +kernel
theorem dX9_seek_220 : decode cX9_seek 220 = .ok (.iload 9, 2) := by decide +kernel
theorem dX9_seek_222 : decode cX9_seek 222 = .ok (.iload 8, 2) := by decide +kernel
theorem dX9_seek_224 : decode cX9_seek 224 = .ok (.isub, 1) := by decide +kernel
theorem dX9_seek_225 : decode cX9_seek 225 = .ok (.iload 8, 2) := by decide +kernel
theorem dX9_seek_227 : decode cX9_seek 227 = .ok (.iand, 1) := by decide +kernel
theorem dX9_seek_228 : decode cX9_seek 228 = .ok (.istore 9, 2) := by decide +kernel
theorem dX9_seek_230 : decode cX9_seek 230 = .ok (.iload 9, 2) := by decide +kernel
theorem dX9_seek_232 : decode cX9_seek 232 = .ok (.ifCond .ne 4, 3) := by decide +kernel
theorem dX9_seek_235 : decode cX9_seek 235 = .ok (.return_, 1) := by decide +kernel
theorem dX9_seek_236 : decode cX9_seek 236 = .ok (.iinc 11 1, 3) := by decide +kernel
theorem dX9_seek_239 : decode cX9_seek 239 = .ok (.goto (-150), 3) := by decide +kernel
theorem dX9_seek_242 : decode cX9_seek 242 = .ok (.return_, 1) := by decide +kernel
theorem rX9_seek : (∀ (d : Nat) (a1 a2 a3 a4 a5 a6 a7 a8 a9 a10 a11 a12 a13 : Value) (x : Nat) (st : List Value) (h : fk_H), fk_ev d qX9_seek 0 [.ref x, a1, a2, a3, a4, a5, a6, a7, a8, a9, a10, a11, a12, a13] st h = fk_ev d qX9_seek 1 [.ref x, a1, a2, a3, a4, a5, a6, a7, a8, a9, a10, a11, a12, a13] (.ref x :: st) h) ∧
  (∀ (d : Nat) (L st : List Value) (h : fk_H), fk_ev d qX9_seek 1 L st h = fk_ev d qX9_seek 2 L (.int ((-1 : Int32)) :: st) h) ∧
  (∀ (d : Nat) (L st : List Value) (N : Nat) (y : Nat → Nat → Int32) (l : Nat → Nat → Int64) (v : Int32), fk_ev d qX9_seek 2 L (.int v :: .ref 240 :: st) (fk_E N y l) = fk_ev d qX9_seek 5 L st (fk_E N (fk_u y 240 3 v) l)) ∧
  (∀ (d : Nat) (a1 a2 a3 a4 a5 a6 a7 a8 a9 a10 a11 a12 a13 : Value) (x : Nat) (st : List Value) (h : fk_H), fk_ev d qX9_seek 5 [.ref x, a1, a2, a3, a4, a5, a6, a7, a8, a9, a10, a11, a12, a13] st h = fk_ev d qX9_seek 6 [.ref x, a1, a2, a3, a4, a5, a6, a7, a8, a9, a10, a11, a12, a13] (.ref x :: st) h) ∧
  (∀ (d : Nat) (L st : List Value) (h : fk_H), fk_ev d qX9_seek 6 L st h = fk_ev d qX9_seek 7 L (.int (nI 0) :: st) h) ∧
  (∀ (d : Nat) (L st : List Value) (N : Nat) (y : Nat → Nat → Int32) (l : Nat → Nat → Int64) (v : Int32), fk_ev d qX9_seek 7 L (.int v :: .ref 240 :: st) (fk_E N y l) = fk_ev d qX9_seek 10 L st (fk_E N (fk_u y 240 4 v) l)) ∧
  (∀ (d : Nat) (a1 a2 a3 a4 a5 a6 a7 a8 a9 a10 a11 a12 a13 : Value) (x : Nat) (st : List Value) (h : fk_H), fk_ev d qX9_seek 10 [.ref x, a1, a2, a3, a4, a5, a6, a7, a8, a9, a10, a11, a12, a13] st h = fk_ev d qX9_seek 11 [.ref x, a1, a2, a3, a4, a5, a6, a7, a8, a9, a10, a11, a12, a13] (.ref x :: st) h) ∧
  (∀ (d : Nat) (L st : List Value) (h : fk_H), fk_ev d qX9_seek 11 L st h = fk_ev d qX9_seek 12 L (.int (nI 1) :: st) h) ∧
  (∀ (d : Nat) (L st : List Value) (N : Nat) (y : Nat → Nat → Int32) (l : Nat → Nat → Int64) (v : Int32), fk_ev d qX9_seek 12 L (.int v :: .ref 240 :: st) (fk_E N y l) = fk_ev d qX9_seek 15 L st (fk_E N (fk_u y 240 5 v) l)) ∧
  (∀ (d : Nat) (a0 a2 a3 a4 a5 a6 a7 a8 a9 a10 a11 a12 a13 : Value) (x : Nat) (st : List Value) (h : fk_H), fk_ev d qX9_seek 15 [a0, .ref x, a2, a3, a4, a5, a6, a7, a8, a9, a10, a11, a12, a13] st h = fk_ev d qX9_seek 16 [a0, .ref x, a2, a3, a4, a5, a6, a7, a8, a9, a10, a11, a12, a13] (.ref x :: st) h) ∧
  (∀ (d : Nat) (L st : List Value) (N : Nat) (y : Nat → Nat → Int32) (l : Nat → Nat → Int64) (c : Nat), fk_at c 8 → fk_ev d qX9_seek 16 L (.ref c :: st) (fk_E N y l) = fk_ev d qX9_seek 19 L (.ref (fk_cr c 0) :: st) (fk_E N y l)) ∧
  (∀ (d : Nat) (a0 a1 a2 a4 a5 a6 a7 a8 a9 a10 a11 a12 a13 : Value) (x : Int32) (st : List Value) (h : fk_H), fk_ev d qX9_seek 19 [a0, a1, a2, .int x, a4, a5, a6, a7, a8, a9, a10, a11, a12, a13] st h = fk_ev d qX9_seek 20 [a0, a1, a2, .int x, a4, a5, a6, a7, a8, a9, a10, a11, a12, a13] (.int x :: st) h) ∧
  (∀ (d : Nat) (L st : List Value) (N : Nat) (y : Nat → Nat → Int32) (l : Nat → Nat → Int64) (c i : Nat), fk_at c 24 → i < (fk_shp c).2 → (fk_shp c).2 < 2 ^ 31 → fk_ev d qX9_seek 20 L (.int (nI i) :: .ref c :: st) (fk_E N y l) = fk_ev d qX9_seek 21 L (.ref (c + 2 + i) :: st) (fk_E N y l)) ∧
  (∀ (d : Nat) (a0 a1 a2 a3 a4 a5 a6 a7 a8 a9 a10 a11 a12 a13 : Value) (x : Nat) (st : List Value) (h : fk_H), fk_ev d qX9_seek 21 [a0, a1, a2, a3, a4, a5, a6, a7, a8, a9, a10, a11, a12, a13] (.ref x :: st) h = fk_ev d qX9_seek 23 [a0, a1, a2, a3, a4, a5, .ref x, a7, a8, a9, a10, a11, a12, a13] st h) ∧
  (∀ (d : Nat) (a0 a1 a2 a3 a5 a6 a7 a8 a9 a10 a11 a12 a13 : Value) (x : Int32) (st : List Value) (h : fk_H), fk_ev d qX9_seek 23 [a0, a1, a2, a3, .int x, a5, a6, a7, a8, a9, a10, a11, a12, a13] st h = fk_ev d qX9_seek 25 [a0, a1, a2, a3, .int x, a5, a6, a7, a8, a9, a10, a11, a12, a13] (.int x :: st) h) ∧
  (∀ (d : Nat) (L st : List Value) (h : fk_H), fk_ev d qX9_seek 25 L st h = fk_ev d qX9_seek 26 L (.int (nI 1) :: st) h) ∧
  (∀ (d : Nat) (a0 a1 a2 a3 a4 a5 a7 a8 a9 a10 a11 a12 a13 : Value) (x : Nat) (st : List Value) (h : fk_H), fk_ev d qX9_seek 26 [a0, a1, a2, a3, a4, a5, .ref x, a7, a8, a9, a10, a11, a12, a13] st h = fk_ev d qX9_seek 28 [a0, a1, a2, a3, a4, a5, .ref x, a7, a8, a9, a10, a11, a12, a13] (.ref x :: st) h) ∧
  (∀ (d : Nat) (L st : List Value) (N : Nat) (y : Nat → Nat → Int32) (l : Nat → Nat → Int64) (c : Nat), fk_at c 0 → fk_ev d qX9_seek 28 L (.ref c :: st) (fk_E N y l) = fk_ev d qX9_seek 31 L (.int (y c 6) :: st) (fk_E N y l)) ∧
  (∀ (d : Nat) (L : List Value) (x y : Int32) (st : List Value) (h : fk_H), fk_ev d qX9_seek 31 L (.int y :: .int x :: st) h = fk_ev d qX9_seek 32 L (.int (x <<< (y &&& 31)) :: st) h) ∧
  (∀ (d : Nat) (L st : List Value) (h : fk_H), fk_ev d qX9_seek 32 L st h = fk_ev d qX9_seek 33 L (.int ((-1 : Int32)) :: st) h) ∧
  (∀ (d : Nat) (L : List Value) (x y : Int32) (st : List Value) (h : fk_H), fk_ev d qX9_seek 33 L (.int y :: .int x :: st) h = fk_ev d qX9_seek 34 L (.int (x ^^^ y) :: st) h) ∧
  (∀ (d : Nat) (L : List Value) (x y : Int32) (st : List Value) (h : fk_H), fk_ev d qX9_seek 34 L (.int y :: .int x :: st) h = fk_ev d qX9_seek 35 L (.int (x &&& y) :: st) h) ∧
  (∀ (d : Nat) (a0 a1 a2 a3 a4 a5 a6 a7 a8 a9 a10 a11 a12 a13 : Value) (x : Int32) (st : List Value) (h : fk_H), fk_ev d qX9_seek 35 [a0, a1, a2, a3, a4, a5, a6, a7, a8, a9, a10, a11, a12, a13] (.int x :: st) h = fk_ev d qX9_seek 37 [a0, a1, a2, a3, a4, a5, a6, .int x, a8, a9, a10, a11, a12, a13] st h) ∧
  (∀ (d : Nat) (a0 a1 a2 a3 a4 a5 a6 a8 a9 a10 a11 a12 a13 : Value) (x : Int32) (st : List Value) (h : fk_H), fk_ev d qX9_seek 37 [a0, a1, a2, a3, a4, a5, a6, .int x, a8, a9, a10, a11, a12, a13] st h = fk_ev d qX9_seek 39 [a0, a1, a2, a3, a4, a5, a6, .int x, a8, a9, a10, a11, a12, a13] (.int x :: st) h) ∧
  (∀ (d : Nat) (L : List Value) (x : Int32) (st : List Value) (h : fk_H), fk_ev d qX9_seek 39 L (.int x :: st) h = if ¬ x = nI 0 then fk_ev d qX9_seek 48 L st h else fk_ev d qX9_seek 42 L st h) ∧
  (∀ (d : Nat) (a1 a2 a3 a4 a5 a6 a7 a8 a9 a10 a11 a12 a13 : Value) (x : Nat) (st : List Value) (h : fk_H), fk_ev d qX9_seek 42 [.ref x, a1, a2, a3, a4, a5, a6, a7, a8, a9, a10, a11, a12, a13] st h = fk_ev d qX9_seek 43 [.ref x, a1, a2, a3, a4, a5, a6, a7, a8, a9, a10, a11, a12, a13] (.ref x :: st) h) ∧
  (∀ (d : Nat) (L st : List Value) (h : fk_H), fk_ev d qX9_seek 43 L st h = fk_ev d qX9_seek 44 L (.int (nI 0) :: st) h) ∧
  (∀ (d : Nat) (L st : List Value) (N : Nat) (y : Nat → Nat → Int32) (l : Nat → Nat → Int64) (v : Int32), fk_ev d qX9_seek 44 L (.int v :: .ref 240 :: st) (fk_E N y l) = fk_ev d qX9_seek 47 L st (fk_E N (fk_u y 240 3 v) l)) ∧
  (∀ (d : Nat) (L : List Value) (h : fk_H), fk_ev d qX9_seek 47 L [] h = some (none, h)) ∧
  (∀ (d : Nat) (a0 a1 a2 a3 a4 a5 a6 a8 a9 a10 a11 a12 a13 : Value) (x : Int32) (st : List Value) (h : fk_H), fk_ev d qX9_seek 48 [a0, a1, a2, a3, a4, a5, a6, .int x, a8, a9, a10, a11, a12, a13] st h = fk_ev d qX9_seek 50 [a0, a1, a2, a3, a4, a5, a6, .int x, a8, a9, a10, a11, a12, a13] (.int x :: st) h) ∧
  (∀ (d : Nat) (a1 a2 a3 a4 a5 a6 a7 a8 a9 a10 a11 a12 a13 : Value) (x : Nat) (st : List Value) (h : fk_H), fk_ev d qX9_seek 50 [.ref x, a1, a2, a3, a4, a5, a6, a7, a8, a9, a10, a11, a12, a13] st h = fk_ev d qX9_seek 51 [.ref x, a1, a2, a3, a4, a5, a6, a7, a8, a9, a10, a11, a12, a13] (.ref x :: st) h) ∧
  (∀ (d : Nat) (L st : List Value) (N : Nat) (y : Nat → Nat → Int32) (l : Nat → Nat → Int64), fk_ev d qX9_seek 51 L (.ref 240 :: st) (fk_E N y l) = fk_ev d qX9_seek 54 L (.ref 18 :: st) (fk_E N y l)) ∧
  (∀ (d : Nat) (a0 a1 a2 a3 a4 a5 a7 a8 a9 a10 a11 a12 a13 : Value) (x : Nat) (st : List Value) (h : fk_H), fk_ev d qX9_seek 54 [a0, a1, a2, a3, a4, a5, .ref x, a7, a8, a9, a10, a11, a12, a13] st h = fk_ev d qX9_seek 56 [a0, a1, a2, a3, a4, a5, .ref x, a7, a8, a9, a10, a11, a12, a13] (.ref x :: st) h) ∧
  (∀ (d : Nat) (L st : List Value) (N : Nat) (y : Nat → Nat → Int32) (l : Nat → Nat → Int64) (c : Nat), fk_at c 0 → fk_ev d qX9_seek 56 L (.ref c :: st) (fk_E N y l) = fk_ev d qX9_seek 59 L (.int (y c 6) :: st) (fk_E N y l)) ∧
  (∀ (d : Nat) (L st : List Value) (h : fk_H), fk_ev d qX9_seek 59 L st h = fk_ev d qX9_seek 60 L (.int (nI 0) :: st) h) ∧
  (∀ (d : Nat) (L : List Value) (x0 : Int32) (x1 : Int32) (w0 : Value) (N : Nat) (y : Nat → Nat → Int32) (l : Nat → Nat → Int64), fk_ev (d + 1) qX9_seek 60 L (.int x1 :: .int x0 :: .ref 18 :: [w0]) (fk_E N y l) = (fk_ev d qX5_reach 0 [.ref 18, .int x0, .int x1, .null, .null, .null, .null, .null] [] (fk_E N y l)).bind fun o => fk_ev (d + 1) qX9_seek 63 L (o.1.toList ++ [w0]) o.2) ∧
  (∀ (d : Nat) (L st : List Value) (h : fk_H), fk_ev d qX9_seek 63 L st h = fk_ev d qX9_seek 64 L (.int ((-1 : Int32)) :: st) h) ∧
  (∀ (d : Nat) (L : List Value) (x y : Int32) (st : List Value) (h : fk_H), fk_ev d qX9_seek 64 L (.int y :: .int x :: st) h = fk_ev d qX9_seek 65 L (.int (x ^^^ y) :: st) h) ∧
  (∀ (d : Nat) (L : List Value) (x y : Int32) (st : List Value) (h : fk_H), fk_ev d qX9_seek 65 L (.int y :: .int x :: st) h = fk_ev d qX9_seek 66 L (.int (x &&& y) :: st) h) ∧
  (∀ (d : Nat) (L : List Value) (x : Int32) (st : List Value) (h : fk_H), fk_ev d qX9_seek 66 L (.int x :: st) h = if x = nI 0 then fk_ev d qX9_seek 70 L st h else fk_ev d qX9_seek 69 L st h) ∧
  (∀ (d : Nat) (L : List Value) (h : fk_H), fk_ev d qX9_seek 69 L [] h = some (none, h)) ∧
  (∀ (d : Nat) (a1 a2 a3 a4 a5 a6 a7 a8 a9 a10 a11 a12 a13 : Value) (x : Nat) (st : List Value) (h : fk_H), fk_ev d qX9_seek 70 [.ref x, a1, a2, a3, a4, a5, a6, a7, a8, a9, a10, a11, a12, a13] st h = fk_ev d qX9_seek 71 [.ref x, a1, a2, a3, a4, a5, a6, a7, a8, a9, a10, a11, a12, a13] (.ref x :: st) h) ∧
  (∀ (d : Nat) (L st : List Value) (N : Nat) (y : Nat → Nat → Int32) (l : Nat → Nat → Int64), fk_ev d qX9_seek 71 L (.ref 240 :: st) (fk_E N y l) = fk_ev d qX9_seek 74 L (.ref 18 :: st) (fk_E N y l)) ∧
  (∀ (d : Nat) (L : List Value)   (N : Nat) (y : Nat → Nat → Int32) (l : Nat → Nat → Int64), fk_ev (d + 1) qX9_seek 74 L (.ref 18 :: []) (fk_E N y l) = (fk_ev d qX5_forkPlaces 0 [.ref 18, .null, .null, .null, .null] [] (fk_E N y l)).bind fun o => fk_ev (d + 1) qX9_seek 77 L (o.1.toList ++ []) o.2) ∧
  (∀ (d : Nat) (a0 a1 a2 a3 a4 a5 a6 a7 a8 a9 a10 a11 a12 a13 : Value) (x : Int32) (st : List Value) (h : fk_H), fk_ev d qX9_seek 77 [a0, a1, a2, a3, a4, a5, a6, a7, a8, a9, a10, a11, a12, a13] (.int x :: st) h = fk_ev d qX9_seek 79 [a0, a1, a2, a3, a4, a5, a6, a7, .int x, a9, a10, a11, a12, a13] st h) ∧
  (∀ (d : Nat) (L st : List Value) (h : fk_H), fk_ev d qX9_seek 79 L st h = fk_ev d qX9_seek 80 L (.int (nI 0) :: st) h) ∧
  (∀ (d : Nat) (a0 a1 a2 a3 a4 a5 a6 a7 a8 a9 a10 a11 a12 a13 : Value) (x : Int32) (st : List Value) (h : fk_H), fk_ev d qX9_seek 80 [a0, a1, a2, a3, a4, a5, a6, a7, a8, a9, a10, a11, a12, a13] (.int x :: st) h = fk_ev d qX9_seek 82 [a0, a1, a2, a3, a4, a5, a6, a7, a8, .int x, a10, a11, a12, a13] st h) ∧
  (∀ (d : Nat) (a0 a1 a2 a3 a4 a6 a7 a8 a9 a10 a11 a12 a13 : Value) (x : Int32) (st : List Value) (h : fk_H), fk_ev d qX9_seek 82 [a0, a1, a2, a3, a4, .int x, a6, a7, a8, a9, a10, a11, a12, a13] st h = fk_ev d qX9_seek 84 [a0, a1, a2, a3, a4, .int x, a6, a7, a8, a9, a10, a11, a12, a13] (.int x :: st) h) ∧
  (∀ (d : Nat) (a0 a1 a2 a3 a4 a5 a6 a7 a8 a9 a10 a11 a12 a13 : Value) (x : Int32) (st : List Value) (h : fk_H), fk_ev d qX9_seek 84 [a0, a1, a2, a3, a4, a5, a6, a7, a8, a9, a10, a11, a12, a13] (.int x :: st) h = fk_ev d qX9_seek 86 [a0, a1, a2, a3, a4, a5, a6, a7, a8, a9, .int x, a11, a12, a13] st h) ∧
  (∀ (d : Nat) (L st : List Value) (h : fk_H), fk_ev d qX9_seek 86 L st h = fk_ev d qX9_seek 87 L (.int (nI 0) :: st) h) ∧
  (∀ (d : Nat) (a0 a1 a2 a3 a4 a5 a6 a7 a8 a9 a10 a11 a12 a13 : Value) (x : Int32) (st : List Value) (h : fk_H), fk_ev d qX9_seek 87 [a0, a1, a2, a3, a4, a5, a6, a7, a8, a9, a10, a11, a12, a13] (.int x :: st) h = fk_ev d qX9_seek 89 [a0, a1, a2, a3, a4, a5, a6, a7, a8, a9, a10, .int x, a12, a13] st h) ∧
  (∀ (d : Nat) (L st : List Value) (h : fk_H), fk_ev d qX9_seek 91 L st h = fk_ev d qX9_seek 94 L (.int (nI 256) :: st) h) ∧
  (∀ (d : Nat) (L : List Value) (x y : Int32) (st : List Value) (h : fk_H), fk_ev d qX9_seek 94 L (.int y :: .int x :: st) h = if y ≤ x then fk_ev d qX9_seek 242 L st h else fk_ev d qX9_seek 97 L st h) ∧
  (∀ (d : Nat) (a0 a1 a2 a3 a4 a5 a6 a7 a8 a9 a11 a12 a13 : Value) (x : Int32) (st : List Value) (h : fk_H), fk_ev d qX9_seek 97 [a0, a1, a2, a3, a4, a5, a6, a7, a8, a9, .int x, a11, a12, a13] st h = fk_ev d qX9_seek 99 [a0, a1, a2, a3, a4, a5, a6, a7, a8, a9, .int x, a11, a12, a13] (.int x :: st) h) ∧
  (∀ (d : Nat) (L : List Value) (x : Int32) (st : List Value) (h : fk_H), fk_ev d qX9_seek 99 L (.int x :: st) h = if x ≤ nI 0 then fk_ev d qX9_seek 242 L st h else fk_ev d qX9_seek 102 L st h) ∧
  (∀ (d : Nat) (a1 a2 a3 a4 a5 a6 a7 a8 a9 a10 a11 a12 a13 : Value) (x : Nat) (st : List Value) (h : fk_H), fk_ev d qX9_seek 102 [.ref x, a1, a2, a3, a4, a5, a6, a7, a8, a9, a10, a11, a12, a13] st h = fk_ev d qX9_seek 103 [.ref x, a1, a2, a3, a4, a5, a6, a7, a8, a9, a10, a11, a12, a13] (.ref x :: st) h) ∧
  (∀ (d : Nat) (L st : List Value) (N : Nat) (y : Nat → Nat → Int32) (l : Nat → Nat → Int64), fk_ev d qX9_seek 103 L (.ref 240 :: st) (fk_E N y l) = fk_ev d qX9_seek 106 L (.ref 167 :: st) (fk_E N y l)) ∧
  (∀ (d : Nat) (a0 a2 a3 a4 a5 a6 a7 a8 a9 a10 a11 a12 a13 : Value) (x : Nat) (st : List Value) (h : fk_H), fk_ev d qX9_seek 106 [a0, .ref x, a2, a3, a4, a5, a6, a7, a8, a9, a10, a11, a12, a13] st h = fk_ev d qX9_seek 107 [a0, .ref x, a2, a3, a4, a5, a6, a7, a8, a9, a10, a11, a12, a13] (.ref x :: st) h) ∧
  (∀ (d : Nat) (L : List Value) (x0 : Nat)  (N : Nat) (y : Nat → Nat → Int32) (l : Nat → Nat → Int64) (c : Nat), fk_at c 8 → fk_ev (d + 1) qX9_seek 107 L (.ref x0 :: .ref c :: []) (fk_E N y l) = (fk_ev d qX8_copyFrom 0 [.ref c, .ref x0, .null] [] (fk_E N y l)).bind fun o => fk_ev (d + 1) qX9_seek 110 L (o.1.toList ++ []) o.2) ∧
  (∀ (d : Nat) (a1 a2 a3 a4 a5 a6 a7 a8 a9 a10 a11 a12 a13 : Value) (x : Nat) (st : List Value) (h : fk_H), fk_ev d qX9_seek 110 [.ref x, a1, a2, a3, a4, a5, a6, a7, a8, a9, a10, a11, a12, a13] st h = fk_ev d qX9_seek 111 [.ref x, a1, a2, a3, a4, a5, a6, a7, a8, a9, a10, a11, a12, a13] (.ref x :: st) h) ∧
  (∀ (d : Nat) (L st : List Value) (N : Nat) (y : Nat → Nat → Int32) (l : Nat → Nat → Int64), fk_ev d qX9_seek 111 L (.ref 240 :: st) (fk_E N y l) = fk_ev d qX9_seek 114 L (.ref 238 :: st) (fk_E N y l)) ∧
  (∀ (d : Nat) (a1 a2 a3 a4 a5 a6 a7 a8 a9 a10 a11 a12 a13 : Value) (x : Nat) (st : List Value) (h : fk_H), fk_ev d qX9_seek 114 [.ref x, a1, a2, a3, a4, a5, a6, a7, a8, a9, a10, a11, a12, a13] st h = fk_ev d qX9_seek 115 [.ref x, a1, a2, a3, a4, a5, a6, a7, a8, a9, a10, a11, a12, a13] (.ref x :: st) h) ∧
  (∀ (d : Nat) (L st : List Value) (N : Nat) (y : Nat → Nat → Int32) (l : Nat → Nat → Int64), fk_ev d qX9_seek 115 L (.ref 240 :: st) (fk_E N y l) = fk_ev d qX9_seek 118 L (.ref 167 :: st) (fk_E N y l)) ∧
  (∀ (d : Nat) (a0 a1 a3 a4 a5 a6 a7 a8 a9 a10 a11 a12 a13 : Value) (x : Nat) (st : List Value) (h : fk_H), fk_ev d qX9_seek 118 [a0, a1, .ref x, a3, a4, a5, a6, a7, a8, a9, a10, a11, a12, a13] st h = fk_ev d qX9_seek 119 [a0, a1, .ref x, a3, a4, a5, a6, a7, a8, a9, a10, a11, a12, a13] (.ref x :: st) h) ∧
  (∀ (d : Nat) (L : List Value) (x0 : Nat) (x1 : Nat)  (N : Nat) (y : Nat → Nat → Int32) (l : Nat → Nat → Int64), fk_ev (d + 1) qX9_seek 119 L (.ref x1 :: .ref x0 :: .ref 238 :: []) (fk_E N y l) = (fk_ev d qX6_begin 0 [.ref 238, .ref x0, .ref x1] [] (fk_E N y l)).bind fun o => fk_ev (d + 1) qX9_seek 122 L (o.1.toList ++ []) o.2) ∧
  (∀ (d : Nat) (a1 a2 a3 a4 a5 a6 a7 a8 a9 a10 a11 a12 a13 : Value) (x : Nat) (st : List Value) (h : fk_H), fk_ev d qX9_seek 122 [.ref x, a1, a2, a3, a4, a5, a6, a7, a8, a9, a10, a11, a12, a13] st h = fk_ev d qX9_seek 123 [.ref x, a1, a2, a3, a4, a5, a6, a7, a8, a9, a10, a11, a12, a13] (.ref x :: st) h) ∧
  (∀ (d : Nat) (L st : List Value) (N : Nat) (y : Nat → Nat → Int32) (l : Nat → Nat → Int64), fk_ev d qX9_seek 123 L (.ref 240 :: st) (fk_E N y l) = fk_ev d qX9_seek 126 L (.ref 238 :: st) (fk_E N y l)) ∧
  (∀ (d : Nat) (a0 a1 a2 a3 a4 a5 a7 a8 a9 a10 a11 a12 a13 : Value) (x : Nat) (st : List Value) (h : fk_H), fk_ev d qX9_seek 126 [a0, a1, a2, a3, a4, a5, .ref x, a7, a8, a9, a10, a11, a12, a13] st h = fk_ev d qX9_seek 128 [a0, a1, a2, a3, a4, a5, .ref x, a7, a8, a9, a10, a11, a12, a13] (.ref x :: st) h) ∧
  (∀ (d : Nat) (L st : List Value) (N : Nat) (y : Nat → Nat → Int32) (l : Nat → Nat → Int64) (c : Nat), fk_at c 0 → fk_ev d qX9_seek 128 L (.ref c :: st) (fk_E N y l) = fk_ev d qX9_seek 131 L (.int (y c 1) :: st) (fk_E N y l)) ∧
  (∀ (d : Nat) (a0 a1 a2 a3 a4 a5 a6 a7 a8 a10 a11 a12 a13 : Value) (x : Int32) (st : List Value) (h : fk_H), fk_ev d qX9_seek 131 [a0, a1, a2, a3, a4, a5, a6, a7, a8, .int x, a10, a11, a12, a13] st h = fk_ev d qX9_seek 133 [a0, a1, a2, a3, a4, a5, a6, a7, a8, .int x, a10, a11, a12, a13] (.int x :: st) h) ∧
  (∀ (d : Nat) (L : List Value) (x0 : Int32) (x1 : Int32)  (N : Nat) (y : Nat → Nat → Int32) (l : Nat → Nat → Int64), fk_ev (d + 1) qX9_seek 133 L (.int x1 :: .int x0 :: .ref 238 :: []) (fk_E N y l) = (fk_ev d qX6_beginPlan 0 [.ref 238, .int x0, .int x1] [] (fk_E N y l)).bind fun o => fk_ev (d + 1) qX9_seek 136 L (o.1.toList ++ []) o.2) ∧
  (∀ (d : Nat) (a1 a2 a3 a4 a5 a6 a7 a8 a9 a10 a11 a12 a13 : Value) (x : Nat) (st : List Value) (h : fk_H), fk_ev d qX9_seek 136 [.ref x, a1, a2, a3, a4, a5, a6, a7, a8, a9, a10, a11, a12, a13] st h = fk_ev d qX9_seek 137 [.ref x, a1, a2, a3, a4, a5, a6, a7, a8, a9, a10, a11, a12, a13] (.ref x :: st) h) ∧
  (∀ (d : Nat) (a0 a1 a2 a3 a4 a5 a7 a8 a9 a10 a11 a12 a13 : Value) (x : Nat) (st : List Value) (h : fk_H), fk_ev d qX9_seek 137 [a0, a1, a2, a3, a4, a5, .ref x, a7, a8, a9, a10, a11, a12, a13] st h = fk_ev d qX9_seek 139 [a0, a1, a2, a3, a4, a5, .ref x, a7, a8, a9, a10, a11, a12, a13] (.ref x :: st) h) ∧
  (∀ (d : Nat) (L st : List Value) (N : Nat) (y : Nat → Nat → Int32) (l : Nat → Nat → Int64) (c : Nat), fk_at c 0 → fk_ev d qX9_seek 139 L (.ref c :: st) (fk_E N y l) = fk_ev d qX9_seek 142 L (.int (y c 1) :: st) (fk_E N y l)) ∧
  (∀ (d : Nat) (a0 a1 a2 a3 a4 a5 a6 a8 a9 a10 a11 a12 a13 : Value) (x : Int32) (st : List Value) (h : fk_H), fk_ev d qX9_seek 142 [a0, a1, a2, a3, a4, a5, a6, .int x, a8, a9, a10, a11, a12, a13] st h = fk_ev d qX9_seek 144 [a0, a1, a2, a3, a4, a5, a6, .int x, a8, a9, a10, a11, a12, a13] (.int x :: st) h) ∧
  (∀ (d : Nat) (a0 a1 a2 a3 a4 a5 a6 a7 a8 a9 a11 a12 a13 : Value) (x : Int32) (st : List Value) (h : fk_H), fk_ev d qX9_seek 144 [a0, a1, a2, a3, a4, a5, a6, a7, a8, a9, .int x, a11, a12, a13] st h = fk_ev d qX9_seek 146 [a0, a1, a2, a3, a4, a5, a6, a7, a8, a9, .int x, a11, a12, a13] (.int x :: st) h) ∧
  (∀ (d : Nat) (L : List Value) (x0 : Int32) (x1 : Int32) (x2 : Int32)  (N : Nat) (y : Nat → Nat → Int32) (l : Nat → Nat → Int64), fk_ev (d + 1) qX9_seek 146 L (.int x2 :: .int x1 :: .int x0 :: .ref 240 :: []) (fk_E N y l) = (fk_ev d qX9_attempt 0 [.ref 240, .int x0, .int x1, .int x2, .null, .null] [] (fk_E N y l)).bind fun o => fk_ev (d + 1) qX9_seek 149 L (o.1.toList ++ []) o.2) ∧
  (∀ (d : Nat) (a0 a1 a2 a3 a4 a5 a6 a7 a8 a9 a10 a11 a12 a13 : Value) (x : Int32) (st : List Value) (h : fk_H), fk_ev d qX9_seek 149 [a0, a1, a2, a3, a4, a5, a6, a7, a8, a9, a10, a11, a12, a13] (.int x :: st) h = fk_ev d qX9_seek 151 [a0, a1, a2, a3, a4, a5, a6, a7, a8, a9, a10, a11, .int x, a13] st h) ∧
  (∀ (d : Nat) (a0 a1 a2 a3 a4 a5 a6 a7 a8 a9 a10 a11 a13 : Value) (x : Int32) (st : List Value) (h : fk_H), fk_ev d qX9_seek 151 [a0, a1, a2, a3, a4, a5, a6, a7, a8, a9, a10, a11, .int x, a13] st h = fk_ev d qX9_seek 153 [a0, a1, a2, a3, a4, a5, a6, a7, a8, a9, a10, a11, .int x, a13] (.int x :: st) h) ∧
  (∀ (d : Nat) (L : List Value) (x : Int32) (st : List Value) (h : fk_H), fk_ev d qX9_seek 153 L (.int x :: st) h = if x ≤ nI 0 then fk_ev d qX9_seek 182 L st h else fk_ev d qX9_seek 156 L st h) ∧
  (∀ (d : Nat) (a1 a2 a3 a4 a5 a6 a7 a8 a9 a10 a11 a12 a13 : Value) (x : Nat) (st : List Value) (h : fk_H), fk_ev d qX9_seek 156 [.ref x, a1, a2, a3, a4, a5, a6, a7, a8, a9, a10, a11, a12, a13] st h = fk_ev d qX9_seek 157 [.ref x, a1, a2, a3, a4, a5, a6, a7, a8, a9, a10, a11, a12, a13] (.ref x :: st) h) ∧
  (∀ (d : Nat) (a0 a1 a2 a3 a4 a5 a6 a7 a8 a9 a10 a11 a13 : Value) (x : Int32) (st : List Value) (h : fk_H), fk_ev d qX9_seek 157 [a0, a1, a2, a3, a4, a5, a6, a7, a8, a9, a10, a11, .int x, a13] st h = fk_ev d qX9_seek 159 [a0, a1, a2, a3, a4, a5, a6, a7, a8, a9, a10, a11, .int x, a13] (.int x :: st) h) ∧
  (∀ (d : Nat) (L st : List Value) (N : Nat) (y : Nat → Nat → Int32) (l : Nat → Nat → Int64) (v : Int32), fk_ev d qX9_seek 159 L (.int v :: .ref 240 :: st) (fk_E N y l) = fk_ev d qX9_seek 162 L st (fk_E N (fk_u y 240 3 v) l)) ∧
  (∀ (d : Nat) (a1 a2 a3 a4 a5 a6 a7 a8 a9 a10 a11 a12 a13 : Value) (x : Nat) (st : List Value) (h : fk_H), fk_ev d qX9_seek 162 [.ref x, a1, a2, a3, a4, a5, a6, a7, a8, a9, a10, a11, a12, a13] st h = fk_ev d qX9_seek 163 [.ref x, a1, a2, a3, a4, a5, a6, a7, a8, a9, a10, a11, a12, a13] (.ref x :: st) h) ∧
  (∀ (d : Nat) (a0 a1 a2 a3 a4 a5 a6 a7 a8 a10 a11 a12 a13 : Value) (x : Int32) (st : List Value) (h : fk_H), fk_ev d qX9_seek 163 [a0, a1, a2, a3, a4, a5, a6, a7, a8, .int x, a10, a11, a12, a13] st h = fk_ev d qX9_seek 165 [a0, a1, a2, a3, a4, a5, a6, a7, a8, .int x, a10, a11, a12, a13] (.int x :: st) h) ∧
  (∀ (d : Nat) (L st : List Value) (N : Nat) (y : Nat → Nat → Int32) (l : Nat → Nat → Int64) (v : Int32), fk_ev d qX9_seek 165 L (.int v :: .ref 240 :: st) (fk_E N y l) = fk_ev d qX9_seek 168 L st (fk_E N (fk_u y 240 4 v) l)) ∧
  (∀ (d : Nat) (a1 a2 a3 a4 a5 a6 a7 a8 a9 a10 a11 a12 a13 : Value) (x : Nat) (st : List Value) (h : fk_H), fk_ev d qX9_seek 168 [.ref x, a1, a2, a3, a4, a5, a6, a7, a8, a9, a10, a11, a12, a13] st h = fk_ev d qX9_seek 169 [.ref x, a1, a2, a3, a4, a5, a6, a7, a8, a9, a10, a11, a12, a13] (.ref x :: st) h) ∧
  (∀ (d : Nat) (a1 a2 a3 a4 a5 a6 a7 a8 a9 a10 a11 a12 a13 : Value) (x : Nat) (st : List Value) (h : fk_H), fk_ev d qX9_seek 169 [.ref x, a1, a2, a3, a4, a5, a6, a7, a8, a9, a10, a11, a12, a13] st h = fk_ev d qX9_seek 170 [.ref x, a1, a2, a3, a4, a5, a6, a7, a8, a9, a10, a11, a12, a13] (.ref x :: st) h) ∧
  (∀ (d : Nat) (L st : List Value) (N : Nat) (y : Nat → Nat → Int32) (l : Nat → Nat → Int64), fk_ev d qX9_seek 170 L (.ref 240 :: st) (fk_E N y l) = fk_ev d qX9_seek 173 L (.int (y 240 6) :: st) (fk_E N y l)) ∧
  (∀ (d : Nat) (L st : List Value) (N : Nat) (y : Nat → Nat → Int32) (l : Nat → Nat → Int64) (v : Int32), fk_ev d qX9_seek 173 L (.int v :: .ref 240 :: st) (fk_E N y l) = fk_ev d qX9_seek 176 L st (fk_E N (fk_u y 240 5 v) l)) ∧
  (∀ (d : Nat) (a0 a1 a2 a3 a4 a5 a6 a7 a8 a9 a10 a11 a13 : Value) (x : Int32) (st : List Value) (h : fk_H), fk_ev d qX9_seek 176 [a0, a1, a2, a3, a4, a5, a6, a7, a8, a9, a10, a11, .int x, a13] st h = fk_ev d qX9_seek 178 [a0, a1, a2, a3, a4, a5, a6, a7, a8, a9, a10, a11, .int x, a13] (.int x :: st) h) ∧
  (∀ (d : Nat) (L st : List Value) (h : fk_H), fk_ev d qX9_seek 178 L st h = fk_ev d qX9_seek 179 L (.int (nI 1) :: st) h) ∧
  (∀ (d : Nat) (L : List Value) (x y : Int32) (st : List Value) (h : fk_H), fk_ev d qX9_seek 179 L (.int y :: .int x :: st) h = fk_ev d qX9_seek 180 L (.int (x - y) :: st) h) ∧
  (∀ (d : Nat) (a0 a1 a2 a3 a4 a5 a6 a7 a8 a9 a10 a11 a12 a13 : Value) (x : Int32) (st : List Value) (h : fk_H), fk_ev d qX9_seek 180 [a0, a1, a2, a3, a4, a5, a6, a7, a8, a9, a10, a11, a12, a13] (.int x :: st) h = fk_ev d qX9_seek 182 [a0, a1, a2, a3, a4, a5, a6, a7, a8, a9, .int x, a11, a12, a13] st h) ∧
  (∀ (d : Nat) (a1 a2 a3 a4 a5 a6 a7 a8 a9 a10 a11 a12 a13 : Value) (x : Nat) (st : List Value) (h : fk_H), fk_ev d qX9_seek 182 [.ref x, a1, a2, a3, a4, a5, a6, a7, a8, a9, a10, a11, a12, a13] st h = fk_ev d qX9_seek 183 [.ref x, a1, a2, a3, a4, a5, a6, a7, a8, a9, a10, a11, a12, a13] (.ref x :: st) h) ∧
  (∀ (d : Nat) (L st : List Value) (N : Nat) (y : Nat → Nat → Int32) (l : Nat → Nat → Int64), fk_ev d qX9_seek 183 L (.ref 240 :: st) (fk_E N y l) = fk_ev d qX9_seek 186 L (.ref 238 :: st) (fk_E N y l)) ∧
  (∀ (d : Nat) (L st : List Value) (N : Nat) (y : Nat → Nat → Int32) (l : Nat → Nat → Int64), fk_ev d qX9_seek 186 L (.ref 238 :: st) (fk_E N y l) = fk_ev d qX9_seek 189 L (.int (y 238 6) :: st) (fk_E N y l)) ∧
  (∀ (d : Nat) (a0 a1 a2 a3 a4 a5 a6 a7 a9 a10 a11 a12 a13 : Value) (x : Int32) (st : List Value) (h : fk_H), fk_ev d qX9_seek 189 [a0, a1, a2, a3, a4, a5, a6, a7, .int x, a9, a10, a11, a12, a13] st h = fk_ev d qX9_seek 191 [a0, a1, a2, a3, a4, a5, a6, a7, .int x, a9, a10, a11, a12, a13] (.int x :: st) h) ∧
  (∀ (d : Nat) (L : List Value) (x y : Int32) (st : List Value) (h : fk_H), fk_ev d qX9_seek 191 L (.int y :: .int x :: st) h = fk_ev d qX9_seek 192 L (.int (x &&& y) :: st) h) ∧
  (∀ (d : Nat) (a0 a1 a2 a3 a4 a5 a6 a7 a8 a9 a10 a11 a12 a13 : Value) (x : Int32) (st : List Value) (h : fk_H), fk_ev d qX9_seek 192 [a0, a1, a2, a3, a4, a5, a6, a7, a8, a9, a10, a11, a12, a13] (.int x :: st) h = fk_ev d qX9_seek 194 [a0, a1, a2, a3, a4, a5, a6, a7, a8, a9, a10, a11, a12, .int x] st h) ∧
  (∀ (d : Nat) (a0 a1 a2 a3 a4 a5 a6 a7 a8 a10 a11 a12 a13 : Value) (x : Int32) (st : List Value) (h : fk_H), fk_ev d qX9_seek 194 [a0, a1, a2, a3, a4, a5, a6, a7, a8, .int x, a10, a11, a12, a13] st h = fk_ev d qX9_seek 196 [a0, a1, a2, a3, a4, a5, a6, a7, a8, .int x, a10, a11, a12, a13] (.int x :: st) h) ∧
  (∀ (d : Nat) (a0 a1 a2 a3 a4 a5 a6 a7 a8 a9 a10 a11 a12 : Value) (x : Int32) (st : List Value) (h : fk_H), fk_ev d qX9_seek 196 [a0, a1, a2, a3, a4, a5, a6, a7, a8, a9, a10, a11, a12, .int x] st h = fk_ev d qX9_seek 198 [a0, a1, a2, a3, a4, a5, a6, a7, a8, a9, a10, a11, a12, .int x] (.int x :: st) h) ∧
  (∀ (d : Nat) (L : List Value) (x : Int32) (st : List Value) (h : fk_H), fk_ev d qX9_seek 198 L (.int x :: st) h = if ¬ x = nI 0 then fk_ev d qX9_seek 206 L st h else fk_ev d qX9_seek 201 L st h) ∧
  (∀ (d : Nat) (a0 a1 a2 a3 a4 a5 a6 a7 a9 a10 a11 a12 a13 : Value) (x : Int32) (st : List Value) (h : fk_H), fk_ev d qX9_seek 201 [a0, a1, a2, a3, a4, a5, a6, a7, .int x, a9, a10, a11, a12, a13] st h = fk_ev d qX9_seek 203 [a0, a1, a2, a3, a4, a5, a6, a7, .int x, a9, a10, a11, a12, a13] (.int x :: st) h) ∧
  (∀ (d : Nat) (L st : List Value) (h : fk_H), fk_ev d qX9_seek 203 L st h = fk_ev d qX9_seek 217 L st h) ∧
  (∀ (d : Nat) (a0 a1 a2 a3 a4 a5 a6 a7 a9 a10 a11 a12 a13 : Value) (x : Int32) (st : List Value) (h : fk_H), fk_ev d qX9_seek 206 [a0, a1, a2, a3, a4, a5, a6, a7, .int x, a9, a10, a11, a12, a13] st h = fk_ev d qX9_seek 208 [a0, a1, a2, a3, a4, a5, a6, a7, .int x, a9, a10, a11, a12, a13] (.int x :: st) h) ∧
  (∀ (d : Nat) (a0 a1 a2 a3 a4 a5 a6 a7 a8 a9 a10 a11 a12 : Value) (x : Int32) (st : List Value) (h : fk_H), fk_ev d qX9_seek 208 [a0, a1, a2, a3, a4, a5, a6, a7, a8, a9, a10, a11, a12, .int x] st h = fk_ev d qX9_seek 210 [a0, a1, a2, a3, a4, a5, a6, a7, a8, a9, a10, a11, a12, .int x] (.int x :: st) h) ∧
  (∀ (d : Nat) (a0 a1 a2 a3 a4 a5 a6 a7 a8 a9 a10 a11 a12 : Value) (x : Int32) (st : List Value) (h : fk_H), fk_ev d qX9_seek 210 [a0, a1, a2, a3, a4, a5, a6, a7, a8, a9, a10, a11, a12, .int x] st h = fk_ev d qX9_seek 212 [a0, a1, a2, a3, a4, a5, a6, a7, a8, a9, a10, a11, a12, .int x] (.int x :: st) h) ∧
  (∀ (d : Nat) (L : List Value) (x : Int32) (st : List Value) (h : fk_H), fk_ev d qX9_seek 212 L (.int x :: st) h = fk_ev d qX9_seek 213 L (.int (-x) :: st) h) ∧
  (∀ (d : Nat) (L : List Value) (x y : Int32) (st : List Value) (h : fk_H), fk_ev d qX9_seek 213 L (.int y :: .int x :: st) h = fk_ev d qX9_seek 214 L (.int (x &&& y) :: st) h) ∧
  (∀ (d : Nat) (L st : List Value) (h : fk_H), fk_ev d qX9_seek 214 L st h = fk_ev d qX9_seek 215 L (.int (nI 1) :: st) h) ∧
  (∀ (d : Nat) (L : List Value) (x y : Int32) (st : List Value) (h : fk_H), fk_ev d qX9_seek 215 L (.int y :: .int x :: st) h = fk_ev d qX9_seek 216 L (.int (x - y) :: st) h) ∧
  (∀ (d : Nat) (L : List Value) (x y : Int32) (st : List Value) (h : fk_H), fk_ev d qX9_seek 216 L (.int y :: .int x :: st) h = fk_ev d qX9_seek 217 L (.int (x &&& y) :: st) h) ∧
  (∀ (d : Nat) (L : List Value) (x y : Int32) (st : List Value) (h : fk_H), fk_ev d qX9_seek 217 L (.int y :: .int x :: st) h = fk_ev d qX9_seek 218 L (.int (x ||| y) :: st) h) ∧
  (∀ (d : Nat) (a0 a1 a2 a3 a4 a5 a6 a7 a8 a9 a10 a11 a12 a13 : Value) (x : Int32) (st : List Value) (h : fk_H), fk_ev d qX9_seek 218 [a0, a1, a2, a3, a4, a5, a6, a7, a8, a9, a10, a11, a12, a13] (.int x :: st) h = fk_ev d qX9_seek 220 [a0, a1, a2, a3, a4, a5, a6, a7, a8, .int x, a10, a11, a12, a13] st h) ∧
  (∀ (d : Nat) (a0 a1 a2 a3 a4 a5 a6 a7 a8 a10 a11 a12 a13 : Value) (x : Int32) (st : List Value) (h : fk_H), fk_ev d qX9_seek 220 [a0, a1, a2, a3, a4, a5, a6, a7, a8, .int x, a10, a11, a12, a13] st h = fk_ev d qX9_seek 222 [a0, a1, a2, a3, a4, a5, a6, a7, a8, .int x, a10, a11, a12, a13] (.int x :: st) h) ∧
  (∀ (d : Nat) (a0 a1 a2 a3 a4 a5 a6 a7 a9 a10 a11 a12 a13 : Value) (x : Int32) (st : List Value) (h : fk_H), fk_ev d qX9_seek 222 [a0, a1, a2, a3, a4, a5, a6, a7, .int x, a9, a10, a11, a12, a13] st h = fk_ev d qX9_seek 224 [a0, a1, a2, a3, a4, a5, a6, a7, .int x, a9, a10, a11, a12, a13] (.int x :: st) h) ∧
  (∀ (d : Nat) (L : List Value) (x y : Int32) (st : List Value) (h : fk_H), fk_ev d qX9_seek 224 L (.int y :: .int x :: st) h = fk_ev d qX9_seek 225 L (.int (x - y) :: st) h) ∧
  (∀ (d : Nat) (a0 a1 a2 a3 a4 a5 a6 a7 a9 a10 a11 a12 a13 : Value) (x : Int32) (st : List Value) (h : fk_H), fk_ev d qX9_seek 225 [a0, a1, a2, a3, a4, a5, a6, a7, .int x, a9, a10, a11, a12, a13] st h = fk_ev d qX9_seek 227 [a0, a1, a2, a3, a4, a5, a6, a7, .int x, a9, a10, a11, a12, a13] (.int x :: st) h) ∧
  (∀ (d : Nat) (L : List Value) (x y : Int32) (st : List Value) (h : fk_H), fk_ev d qX9_seek 227 L (.int y :: .int x :: st) h = fk_ev d qX9_seek 228 L (.int (x &&& y) :: st) h) ∧
  (∀ (d : Nat) (a0 a1 a2 a3 a4 a5 a6 a7 a8 a9 a10 a11 a12 a13 : Value) (x : Int32) (st : List Value) (h : fk_H), fk_ev d qX9_seek 228 [a0, a1, a2, a3, a4, a5, a6, a7, a8, a9, a10, a11, a12, a13] (.int x :: st) h = fk_ev d qX9_seek 230 [a0, a1, a2, a3, a4, a5, a6, a7, a8, .int x, a10, a11, a12, a13] st h) ∧
  (∀ (d : Nat) (a0 a1 a2 a3 a4 a5 a6 a7 a8 a10 a11 a12 a13 : Value) (x : Int32) (st : List Value) (h : fk_H), fk_ev d qX9_seek 230 [a0, a1, a2, a3, a4, a5, a6, a7, a8, .int x, a10, a11, a12, a13] st h = fk_ev d qX9_seek 232 [a0, a1, a2, a3, a4, a5, a6, a7, a8, .int x, a10, a11, a12, a13] (.int x :: st) h) ∧
  (∀ (d : Nat) (L : List Value) (x : Int32) (st : List Value) (h : fk_H), fk_ev d qX9_seek 232 L (.int x :: st) h = if ¬ x = nI 0 then fk_ev d qX9_seek 236 L st h else fk_ev d qX9_seek 235 L st h) ∧
  (∀ (d : Nat) (L : List Value) (h : fk_H), fk_ev d qX9_seek 235 L [] h = some (none, h)) ∧
  (∀ (d : Nat) (a0 a1 a2 a3 a4 a5 a6 a7 a8 a9 a10 a12 a13 : Value) (x : Int32) (st : List Value) (h : fk_H), fk_ev d qX9_seek 236 [a0, a1, a2, a3, a4, a5, a6, a7, a8, a9, a10, .int x, a12, a13] st h = fk_ev d qX9_seek 239 [a0, a1, a2, a3, a4, a5, a6, a7, a8, a9, a10, .int (x + nI 1), a12, a13] st h) ∧
  (∀ (d : Nat) (L st : List Value) (h : fk_H), fk_ev d qX9_seek 239 L st h = fk_ev d qX9_seek 89 L st h) ∧
  (∀ (d : Nat) (L : List Value) (h : fk_H), fk_ev d qX9_seek 242 L [] h = some (none, h)) := ⟨fun d a1 a2 a3 a4 a5 a6 a7 a8 a9 a10 a11 a12 a13 x st h => fk_w_aloadn 0 [.ref x, a1, a2, a3, a4, a5, a6, a7, a8, a9, a10, a11, a12, a13] dX9_seek_0 rfl,
  fun d L st h => fk_w_iconst dX9_seek_1 (by decide),
  fun d L st N y l v => fk_g_putI rfl lf_9_9 (by decide) dX9_seek_2 rfl fk_at_240,
  fun d a1 a2 a3 a4 a5 a6 a7 a8 a9 a10 a11 a12 a13 x st h => fk_w_aloadn 0 [.ref x, a1, a2, a3, a4, a5, a6, a7, a8, a9, a10, a11, a12, a13] dX9_seek_5 rfl,
  fun d L st h => fk_w_iconst dX9_seek_6 (by decide),
  fun d L st N y l v => fk_g_putI rfl lf_9_15 (by decide) dX9_seek_7 rfl fk_at_240,
  fun d a1 a2 a3 a4 a5 a6 a7 a8 a9 a10 a11 a12 a13 x st h => fk_w_aloadn 0 [.ref x, a1, a2, a3, a4, a5, a6, a7, a8, a9, a10, a11, a12, a13] dX9_seek_10 rfl,
  fun d L st h => fk_w_iconst dX9_seek_11 (by decide),
  fun d L st N y l v => fk_g_putI rfl lf_9_18 (by decide) dX9_seek_12 rfl fk_at_240,
  fun d a0 a2 a3 a4 a5 a6 a7 a8 a9 a10 a11 a12 a13 x st h => fk_w_aloadn 1 [a0, .ref x, a2, a3, a4, a5, a6, a7, a8, a9, a10, a11, a12, a13] dX9_seek_15 rfl,
  fun d L st N y l c hc => fk_g_getC rfl lf_9_36 (by decide) rfl dX9_seek_16 hc,
  fun d a0 a1 a2 a4 a5 a6 a7 a8 a9 a10 a11 a12 a13 x st h => fk_w_iloadn 3 [a0, a1, a2, .int x, a4, a5, a6, a7, a8, a9, a10, a11, a12, a13] dX9_seek_19 rfl,
  fun d L st N y l c i hc hi hl => fk_h_aald dX9_seek_20 hc hi hl,
  fun d a0 a1 a2 a3 a4 a5 a6 a7 a8 a9 a10 a11 a12 a13 x st h => fk_w_astore 6 14 [] [a0, a1, a2, a3, a4, a5, a6, a7, a8, a9, a10, a11, a12, a13] [a0, a1, a2, a3, a4, a5, .ref x, a7, a8, a9, a10, a11, a12, a13] dX9_seek_21 rfl rfl (by decide) rfl,
  fun d a0 a1 a2 a3 a5 a6 a7 a8 a9 a10 a11 a12 a13 x st h => fk_w_iload 4 [a0, a1, a2, a3, .int x, a5, a6, a7, a8, a9, a10, a11, a12, a13] dX9_seek_23 rfl,
  fun d L st h => fk_w_iconst dX9_seek_25 (by decide),
  fun d a0 a1 a2 a3 a4 a5 a7 a8 a9 a10 a11 a12 a13 x st h => fk_w_aload 6 [a0, a1, a2, a3, a4, a5, .ref x, a7, a8, a9, a10, a11, a12, a13] dX9_seek_26 rfl,
  fun d L st N y l c hc => fk_g_getI rfl lf_9_42 (by decide) dX9_seek_28 hc,
  fun d L x y st h => fk_r_ishl dX9_seek_31,
  fun d L st h => fk_w_iconst dX9_seek_32 (by decide),
  fun d L x y st h => fk_r_ixor dX9_seek_33,
  fun d L x y st h => fk_r_iand dX9_seek_34,
  fun d a0 a1 a2 a3 a4 a5 a6 a7 a8 a9 a10 a11 a12 a13 x st h => fk_w_istore 7 14 [] [a0, a1, a2, a3, a4, a5, a6, a7, a8, a9, a10, a11, a12, a13] [a0, a1, a2, a3, a4, a5, a6, .int x, a8, a9, a10, a11, a12, a13] dX9_seek_35 rfl rfl (by decide) rfl,
  fun d a0 a1 a2 a3 a4 a5 a6 a8 a9 a10 a11 a12 a13 x st h => fk_w_iload 7 [a0, a1, a2, a3, a4, a5, a6, .int x, a8, a9, a10, a11, a12, a13] dX9_seek_37 rfl,
  fun d L x st h => fk_r_if_ne dX9_seek_39 (by decide),
  fun d a1 a2 a3 a4 a5 a6 a7 a8 a9 a10 a11 a12 a13 x st h => fk_w_aloadn 0 [.ref x, a1, a2, a3, a4, a5, a6, a7, a8, a9, a10, a11, a12, a13] dX9_seek_42 rfl,
  fun d L st h => fk_w_iconst dX9_seek_43 (by decide),
  fun d L st N y l v => fk_g_putI rfl lf_9_9 (by decide) dX9_seek_44 rfl fk_at_240,
  fun d L h => fk_r_vret dX9_seek_47 rfl,
  fun d a0 a1 a2 a3 a4 a5 a6 a8 a9 a10 a11 a12 a13 x st h => fk_w_iload 7 [a0, a1, a2, a3, a4, a5, a6, .int x, a8, a9, a10, a11, a12, a13] dX9_seek_48 rfl,
  fun d a1 a2 a3 a4 a5 a6 a7 a8 a9 a10 a11 a12 a13 x st h => fk_w_aloadn 0 [.ref x, a1, a2, a3, a4, a5, a6, a7, a8, a9, a10, a11, a12, a13] dX9_seek_50 rfl,
  fun d L st N y l => fk_g_getC rfl lf_9_24 (by decide) rfl dX9_seek_51 fk_at_240,
  fun d a0 a1 a2 a3 a4 a5 a7 a8 a9 a10 a11 a12 a13 x st h => fk_w_aload 6 [a0, a1, a2, a3, a4, a5, .ref x, a7, a8, a9, a10, a11, a12, a13] dX9_seek_54 rfl,
  fun d L st N y l c hc => fk_g_getI rfl lf_9_42 (by decide) dX9_seek_56 hc,
  fun d L st h => fk_w_iconst dX9_seek_59 (by decide),
  fun d L x0 x1 w0 N y l  => fk_g_call [.int x0, .int x1] [w0] rfl lm_9_47 dX9_seek_60 rfl ⟨rfl, by decide⟩ (by simp) fk_at_18,
  fun d L st h => fk_w_iconst dX9_seek_63 (by decide),
  fun d L x y st h => fk_r_ixor dX9_seek_64,
  fun d L x y st h => fk_r_iand dX9_seek_65,
  fun d L x st h => fk_r_if_eq dX9_seek_66 (by decide),
  fun d L h => fk_r_vret dX9_seek_69 rfl,
  fun d a1 a2 a3 a4 a5 a6 a7 a8 a9 a10 a11 a12 a13 x st h => fk_w_aloadn 0 [.ref x, a1, a2, a3, a4, a5, a6, a7, a8, a9, a10, a11, a12, a13] dX9_seek_70 rfl,
  fun d L st N y l => fk_g_getC rfl lf_9_24 (by decide) rfl dX9_seek_71 fk_at_240,
  fun d L  N y l  => fk_g_call [] [] rfl lm_9_53 dX9_seek_74 rfl ⟨rfl, by decide⟩ (by simp) fk_at_18,
  fun d a0 a1 a2 a3 a4 a5 a6 a7 a8 a9 a10 a11 a12 a13 x st h => fk_w_istore 8 14 [] [a0, a1, a2, a3, a4, a5, a6, a7, a8, a9, a10, a11, a12, a13] [a0, a1, a2, a3, a4, a5, a6, a7, .int x, a9, a10, a11, a12, a13] dX9_seek_77 rfl rfl (by decide) rfl,
  fun d L st h => fk_w_iconst dX9_seek_79 (by decide),
  fun d a0 a1 a2 a3 a4 a5 a6 a7 a8 a9 a10 a11 a12 a13 x st h => fk_w_istore 9 14 [] [a0, a1, a2, a3, a4, a5, a6, a7, a8, a9, a10, a11, a12, a13] [a0, a1, a2, a3, a4, a5, a6, a7, a8, .int x, a10, a11, a12, a13] dX9_seek_80 rfl rfl (by decide) rfl,
  fun d a0 a1 a2 a3 a4 a6 a7 a8 a9 a10 a11 a12 a13 x st h => fk_w_iload 5 [a0, a1, a2, a3, a4, .int x, a6, a7, a8, a9, a10, a11, a12, a13] dX9_seek_82 rfl,
  fun d a0 a1 a2 a3 a4 a5 a6 a7 a8 a9 a10 a11 a12 a13 x st h => fk_w_istore 10 14 [] [a0, a1, a2, a3, a4, a5, a6, a7, a8, a9, a10, a11, a12, a13] [a0, a1, a2, a3, a4, a5, a6, a7, a8, a9, .int x, a11, a12, a13] dX9_seek_84 rfl rfl (by decide) rfl,
  fun d L st h => fk_w_iconst dX9_seek_86 (by decide),
  fun d a0 a1 a2 a3 a4 a5 a6 a7 a8 a9 a10 a11 a12 a13 x st h => fk_w_istore 11 14 [] [a0, a1, a2, a3, a4, a5, a6, a7, a8, a9, a10, a11, a12, a13] [a0, a1, a2, a3, a4, a5, a6, a7, a8, a9, a10, .int x, a12, a13] dX9_seek_87 rfl rfl (by decide) rfl,
  fun d L st h => fk_w_sipush dX9_seek_91 (by decide),
  fun d L x y st h => fk_r_icmp_ge dX9_seek_94 (by decide),
  fun d a0 a1 a2 a3 a4 a5 a6 a7 a8 a9 a11 a12 a13 x st h => fk_w_iload 10 [a0, a1, a2, a3, a4, a5, a6, a7, a8, a9, .int x, a11, a12, a13] dX9_seek_97 rfl,
  fun d L x st h => fk_r_if_le dX9_seek_99 (by decide),
  fun d a1 a2 a3 a4 a5 a6 a7 a8 a9 a10 a11 a12 a13 x st h => fk_w_aloadn 0 [.ref x, a1, a2, a3, a4, a5, a6, a7, a8, a9, a10, a11, a12, a13] dX9_seek_102 rfl,
  fun d L st N y l => fk_g_getC rfl lf_9_32 (by decide) rfl dX9_seek_103 fk_at_240,
  fun d a0 a2 a3 a4 a5 a6 a7 a8 a9 a10 a11 a12 a13 x st h => fk_w_aloadn 1 [a0, .ref x, a2, a3, a4, a5, a6, a7, a8, a9, a10, a11, a12, a13] dX9_seek_106 rfl,
  fun d L x0 N y l c hc => fk_g_call [.ref x0] [] rfl lm_9_57 dX9_seek_107 rfl ⟨rfl, by decide⟩ (by simp) hc,
  fun d a1 a2 a3 a4 a5 a6 a7 a8 a9 a10 a11 a12 a13 x st h => fk_w_aloadn 0 [.ref x, a1, a2, a3, a4, a5, a6, a7, a8, a9, a10, a11, a12, a13] dX9_seek_110 rfl,
  fun d L st N y l => fk_g_getC rfl lf_9_28 (by decide) rfl dX9_seek_111 fk_at_240,
  fun d a1 a2 a3 a4 a5 a6 a7 a8 a9 a10 a11 a12 a13 x st h => fk_w_aloadn 0 [.ref x, a1, a2, a3, a4, a5, a6, a7, a8, a9, a10, a11, a12, a13] dX9_seek_114 rfl,
  fun d L st N y l => fk_g_getC rfl lf_9_32 (by decide) rfl dX9_seek_115 fk_at_240,
  fun d a0 a1 a3 a4 a5 a6 a7 a8 a9 a10 a11 a12 a13 x st h => fk_w_aloadn 2 [a0, a1, .ref x, a3, a4, a5, a6, a7, a8, a9, a10, a11, a12, a13] dX9_seek_118 rfl,
  fun d L x0 x1 N y l  => fk_g_call [.ref x0, .ref x1] [] rfl lm_9_61 dX9_seek_119 rfl ⟨rfl, by decide⟩ (by simp) fk_at_238,
  fun d a1 a2 a3 a4 a5 a6 a7 a8 a9 a10 a11 a12 a13 x st h => fk_w_aloadn 0 [.ref x, a1, a2, a3, a4, a5, a6, a7, a8, a9, a10, a11, a12, a13] dX9_seek_122 rfl,
  fun d L st N y l => fk_g_getC rfl lf_9_28 (by decide) rfl dX9_seek_123 fk_at_240,
  fun d a0 a1 a2 a3 a4 a5 a7 a8 a9 a10 a11 a12 a13 x st h => fk_w_aload 6 [a0, a1, a2, a3, a4, a5, .ref x, a7, a8, a9, a10, a11, a12, a13] dX9_seek_126 rfl,
  fun d L st N y l c hc => fk_g_getI rfl lf_9_67 (by decide) dX9_seek_128 hc,
  fun d a0 a1 a2 a3 a4 a5 a6 a7 a8 a10 a11 a12 a13 x st h => fk_w_iload 9 [a0, a1, a2, a3, a4, a5, a6, a7, a8, .int x, a10, a11, a12, a13] dX9_seek_131 rfl,
  fun d L x0 x1 N y l  => fk_g_call [.int x0, .int x1] [] rfl lm_9_70 dX9_seek_133 rfl ⟨rfl, by decide⟩ (by simp) fk_at_238,
  fun d a1 a2 a3 a4 a5 a6 a7 a8 a9 a10 a11 a12 a13 x st h => fk_w_aloadn 0 [.ref x, a1, a2, a3, a4, a5, a6, a7, a8, a9, a10, a11, a12, a13] dX9_seek_136 rfl,
  fun d a0 a1 a2 a3 a4 a5 a7 a8 a9 a10 a11 a12 a13 x st h => fk_w_aload 6 [a0, a1, a2, a3, a4, a5, .ref x, a7, a8, a9, a10, a11, a12, a13] dX9_seek_137 rfl,
  fun d L st N y l c hc => fk_g_getI rfl lf_9_67 (by decide) dX9_seek_139 hc,
  fun d a0 a1 a2 a3 a4 a5 a6 a8 a9 a10 a11 a12 a13 x st h => fk_w_iload 7 [a0, a1, a2, a3, a4, a5, a6, .int x, a8, a9, a10, a11, a12, a13] dX9_seek_142 rfl,
  fun d a0 a1 a2 a3 a4 a5 a6 a7 a8 a9 a11 a12 a13 x st h => fk_w_iload 10 [a0, a1, a2, a3, a4, a5, a6, a7, a8, a9, .int x, a11, a12, a13] dX9_seek_144 rfl,
  fun d L x0 x1 x2 N y l  => fk_g_call [.int x0, .int x1, .int x2] [] rfl lm_9_74 dX9_seek_146 rfl ⟨rfl, by decide⟩ (by simp) fk_at_240,
  fun d a0 a1 a2 a3 a4 a5 a6 a7 a8 a9 a10 a11 a12 a13 x st h => fk_w_istore 12 14 [] [a0, a1, a2, a3, a4, a5, a6, a7, a8, a9, a10, a11, a12, a13] [a0, a1, a2, a3, a4, a5, a6, a7, a8, a9, a10, a11, .int x, a13] dX9_seek_149 rfl rfl (by decide) rfl,
  fun d a0 a1 a2 a3 a4 a5 a6 a7 a8 a9 a10 a11 a13 x st h => fk_w_iload 12 [a0, a1, a2, a3, a4, a5, a6, a7, a8, a9, a10, a11, .int x, a13] dX9_seek_151 rfl,
  fun d L x st h => fk_r_if_le dX9_seek_153 (by decide),
  fun d a1 a2 a3 a4 a5 a6 a7 a8 a9 a10 a11 a12 a13 x st h => fk_w_aloadn 0 [.ref x, a1, a2, a3, a4, a5, a6, a7, a8, a9, a10, a11, a12, a13] dX9_seek_156 rfl,
  fun d a0 a1 a2 a3 a4 a5 a6 a7 a8 a9 a10 a11 a13 x st h => fk_w_iload 12 [a0, a1, a2, a3, a4, a5, a6, a7, a8, a9, a10, a11, .int x, a13] dX9_seek_157 rfl,
  fun d L st N y l v => fk_g_putI rfl lf_9_9 (by decide) dX9_seek_159 rfl fk_at_240,
  fun d a1 a2 a3 a4 a5 a6 a7 a8 a9 a10 a11 a12 a13 x st h => fk_w_aloadn 0 [.ref x, a1, a2, a3, a4, a5, a6, a7, a8, a9, a10, a11, a12, a13] dX9_seek_162 rfl,
  fun d a0 a1 a2 a3 a4 a5 a6 a7 a8 a10 a11 a12 a13 x st h => fk_w_iload 9 [a0, a1, a2, a3, a4, a5, a6, a7, a8, .int x, a10, a11, a12, a13] dX9_seek_163 rfl,
  fun d L st N y l v => fk_g_putI rfl lf_9_15 (by decide) dX9_seek_165 rfl fk_at_240,
  fun d a1 a2 a3 a4 a5 a6 a7 a8 a9 a10 a11 a12 a13 x st h => fk_w_aloadn 0 [.ref x, a1, a2, a3, a4, a5, a6, a7, a8, a9, a10, a11, a12, a13] dX9_seek_168 rfl,
  fun d a1 a2 a3 a4 a5 a6 a7 a8 a9 a10 a11 a12 a13 x st h => fk_w_aloadn 0 [.ref x, a1, a2, a3, a4, a5, a6, a7, a8, a9, a10, a11, a12, a13] dX9_seek_169 rfl,
  fun d L st N y l => fk_g_getI rfl lf_9_21 (by decide) dX9_seek_170 fk_at_240,
  fun d L st N y l v => fk_g_putI rfl lf_9_18 (by decide) dX9_seek_173 rfl fk_at_240,
  fun d a0 a1 a2 a3 a4 a5 a6 a7 a8 a9 a10 a11 a13 x st h => fk_w_iload 12 [a0, a1, a2, a3, a4, a5, a6, a7, a8, a9, a10, a11, .int x, a13] dX9_seek_176 rfl,
  fun d L st h => fk_w_iconst dX9_seek_178 (by decide),
  fun d L x y st h => fk_r_isub dX9_seek_179,
  fun d a0 a1 a2 a3 a4 a5 a6 a7 a8 a9 a10 a11 a12 a13 x st h => fk_w_istore 10 14 [] [a0, a1, a2, a3, a4, a5, a6, a7, a8, a9, a10, a11, a12, a13] [a0, a1, a2, a3, a4, a5, a6, a7, a8, a9, .int x, a11, a12, a13] dX9_seek_180 rfl rfl (by decide) rfl,
  fun d a1 a2 a3 a4 a5 a6 a7 a8 a9 a10 a11 a12 a13 x st h => fk_w_aloadn 0 [.ref x, a1, a2, a3, a4, a5, a6, a7, a8, a9, a10, a11, a12, a13] dX9_seek_182 rfl,
  fun d L st N y l => fk_g_getC rfl lf_9_28 (by decide) rfl dX9_seek_183 fk_at_240,
  fun d L st N y l => fk_g_getI rfl lf_9_78 (by decide) dX9_seek_186 fk_at_238,
  fun d a0 a1 a2 a3 a4 a5 a6 a7 a9 a10 a11 a12 a13 x st h => fk_w_iload 8 [a0, a1, a2, a3, a4, a5, a6, a7, .int x, a9, a10, a11, a12, a13] dX9_seek_189 rfl,
  fun d L x y st h => fk_r_iand dX9_seek_191,
  fun d a0 a1 a2 a3 a4 a5 a6 a7 a8 a9 a10 a11 a12 a13 x st h => fk_w_istore 13 14 [] [a0, a1, a2, a3, a4, a5, a6, a7, a8, a9, a10, a11, a12, a13] [a0, a1, a2, a3, a4, a5, a6, a7, a8, a9, a10, a11, a12, .int x] dX9_seek_192 rfl rfl (by decide) rfl,
  fun d a0 a1 a2 a3 a4 a5 a6 a7 a8 a10 a11 a12 a13 x st h => fk_w_iload 9 [a0, a1, a2, a3, a4, a5, a6, a7, a8, .int x, a10, a11, a12, a13] dX9_seek_194 rfl,
  fun d a0 a1 a2 a3 a4 a5 a6 a7 a8 a9 a10 a11 a12 x st h => fk_w_iload 13 [a0, a1, a2, a3, a4, a5, a6, a7, a8, a9, a10, a11, a12, .int x] dX9_seek_196 rfl,
  fun d L x st h => fk_r_if_ne dX9_seek_198 (by decide),
  fun d a0 a1 a2 a3 a4 a5 a6 a7 a9 a10 a11 a12 a13 x st h => fk_w_iload 8 [a0, a1, a2, a3, a4, a5, a6, a7, .int x, a9, a10, a11, a12, a13] dX9_seek_201 rfl,
  fun d L st h => fk_r_goto dX9_seek_203 (by decide),
  fun d a0 a1 a2 a3 a4 a5 a6 a7 a9 a10 a11 a12 a13 x st h => fk_w_iload 8 [a0, a1, a2, a3, a4, a5, a6, a7, .int x, a9, a10, a11, a12, a13] dX9_seek_206 rfl,
  fun d a0 a1 a2 a3 a4 a5 a6 a7 a8 a9 a10 a11 a12 x st h => fk_w_iload 13 [a0, a1, a2, a3, a4, a5, a6, a7, a8, a9, a10, a11, a12, .int x] dX9_seek_208 rfl,
  fun d a0 a1 a2 a3 a4 a5 a6 a7 a8 a9 a10 a11 a12 x st h => fk_w_iload 13 [a0, a1, a2, a3, a4, a5, a6, a7, a8, a9, a10, a11, a12, .int x] dX9_seek_210 rfl,
  fun d L x st h => fk_r_ineg dX9_seek_212,
  fun d L x y st h => fk_r_iand dX9_seek_213,
  fun d L st h => fk_w_iconst dX9_seek_214 (by decide),
  fun d L x y st h => fk_r_isub dX9_seek_215,
  fun d L x y st h => fk_r_iand dX9_seek_216,
  fun d L x y st h => fk_r_ior dX9_seek_217,
  fun d a0 a1 a2 a3 a4 a5 a6 a7 a8 a9 a10 a11 a12 a13 x st h => fk_w_istore 9 14 [] [a0, a1, a2, a3, a4, a5, a6, a7, a8, a9, a10, a11, a12, a13] [a0, a1, a2, a3, a4, a5, a6, a7, a8, .int x, a10, a11, a12, a13] dX9_seek_218 rfl rfl (by decide) rfl,
  fun d a0 a1 a2 a3 a4 a5 a6 a7 a8 a10 a11 a12 a13 x st h => fk_w_iload 9 [a0, a1, a2, a3, a4, a5, a6, a7, a8, .int x, a10, a11, a12, a13] dX9_seek_220 rfl,
  fun d a0 a1 a2 a3 a4 a5 a6 a7 a9 a10 a11 a12 a13 x st h => fk_w_iload 8 [a0, a1, a2, a3, a4, a5, a6, a7, .int x, a9, a10, a11, a12, a13] dX9_seek_222 rfl,
  fun d L x y st h => fk_r_isub dX9_seek_224,
  fun d a0 a1 a2 a3 a4 a5 a6 a7 a9 a10 a11 a12 a13 x st h => fk_w_iload 8 [a0, a1, a2, a3, a4, a5, a6, a7, .int x, a9, a10, a11, a12, a13] dX9_seek_225 rfl,
  fun d L x y st h => fk_r_iand dX9_seek_227,
  fun d a0 a1 a2 a3 a4 a5 a6 a7 a8 a9 a10 a11 a12 a13 x st h => fk_w_istore 9 14 [] [a0, a1, a2, a3, a4, a5, a6, a7, a8, a9, a10, a11, a12, a13] [a0, a1, a2, a3, a4, a5, a6, a7, a8, .int x, a10, a11, a12, a13] dX9_seek_228 rfl rfl (by decide) rfl,
  fun d a0 a1 a2 a3 a4 a5 a6 a7 a8 a10 a11 a12 a13 x st h => fk_w_iload 9 [a0, a1, a2, a3, a4, a5, a6, a7, a8, .int x, a10, a11, a12, a13] dX9_seek_230 rfl,
  fun d L x st h => fk_r_if_ne dX9_seek_232 (by decide),
  fun d L h => fk_r_vret dX9_seek_235 rfl,
  fun d a0 a1 a2 a3 a4 a5 a6 a7 a8 a9 a10 a12 a13 x st h => fk_w_iinc 11 14 (1) [] [a0, a1, a2, a3, a4, a5, a6, a7, a8, a9, a10, .int x, a12, a13] [a0, a1, a2, a3, a4, a5, a6, a7, a8, a9, a10, .int (x + nI 1), a12, a13] dX9_seek_236 rfl rfl rfl (by decide) rfl,
  fun d L st h => fk_r_goto dX9_seek_239 (by decide),
  fun d L h => fk_r_vret dX9_seek_242 rfl⟩
theorem hX9_seek_89 : ∀ (d : Nat) (a0 a1 a2 a3 a4 a5 a6 a7 a8 a9 a10 a12 a13 : Value) (x : Int32) (st : List Value) (h : fk_H), fk_ev d qX9_seek 89 [a0, a1, a2, a3, a4, a5, a6, a7, a8, a9, a10, .int x, a12, a13] st h = fk_ev d qX9_seek 91 [a0, a1, a2, a3, a4, a5, a6, a7, a8, a9, a10, .int x, a12, a13] (.int x :: st) h := fun d a0 a1 a2 a3 a4 a5 a6 a7 a8 a9 a10 a12 a13 x st h => fk_w_iload 11 [a0, a1, a2, a3, a4, a5, a6, a7, a8, a9, a10, .int x, a12, a13] dX9_seek_89 rfl
theorem dX9_attempt_0 : decode cX9_attempt 0 = .ok (.aload_n 0, 1) := by decide +kernel
theorem dX9_attempt_1 : decode cX9_attempt 1 = .ok (.iconst 1, 1) := by decide +kernel
theorem dX9_attempt_2 : decode cX9_attempt 2 = .ok (.putfield 21, 3) := by decide +kernel
theorem dX9_attempt_5 : decode cX9_attempt 5 = .ok (.iconst 1, 1) := by decide +kernel
theorem dX9_attempt_6 : decode cX9_attempt 6 = .ok (.istore 4, 2) := by decide +kernel
theorem dX9_attempt_8 : decode cX9_attempt 8 = .ok (.iload 4, 2) := by decide +kernel
theorem dX9_attempt_10 : decode cX9_attempt 10 = .ok (.iload_n 3, 1) := by decide +kernel
theorem dX9_attempt_11 : decode cX9_attempt 11 = .ok (.if_icmp .gt 63, 3) := by decide +kernel
theorem dX9_attempt_14 : decode cX9_attempt 14 = .ok (.aload_n 0, 1) := by decide +kernel
theorem dX9_attempt_15 : decode cX9_attempt 15 = .ok (.getfield 28, 3) := by decide +kernel
theorem dX9_attempt_18 : decode cX9_attempt 18 = .ok (.invokevirtual 81, 3) := by decide +kernel
theorem dX9_attempt_21 : decode cX9_attempt 21 = .ok (.aload_n 0, 1) := by decide +kernel
theorem dX9_attempt_22 : decode cX9_attempt 22 = .ok (.getfield 32, 3) := by decide +kernel
theorem dX9_attempt_25 : decode cX9_attempt 25 = .ok (.getfield 84, 3) := by decide +kernel
theorem dX9_attempt_28 : decode cX9_attempt 28 = .ok (.iload_n 1, 1) := by decide +kernel
theorem dX9_attempt_29 : decode cX9_attempt 29 = .ok (.iaload, 1) := by decide +kernel
theorem dX9_attempt_30 : decode cX9_attempt 30 = .ok (.istore 5, 2) := by decide +kernel
theorem dX9_attempt_32 : decode cX9_attempt 32 = .ok (.aload_n 0, 1) := by decide +kernel
theorem dX9_attempt_33 : decode cX9_attempt 33 = .ok (.aload_n 0, 1) := by decide +kernel
theorem dX9_attempt_34 : decode cX9_attempt 34 = .ok (.getfield 21, 3) := by decide +kernel
theorem dX9_attempt_37 : decode cX9_attempt 37 = .ok (.iload 5, 2) := by decide +kernel
theorem dX9_attempt_39 : decode cX9_attempt 39 = .ok (.invokestatic 88, 3) := by decide +kernel
theorem dX9_attempt_42 : decode cX9_attempt 42 = .ok (.putfield 21, 3) := by decide +kernel
theorem dX9_attempt_45 : decode cX9_attempt 45 = .ok (.iload 5, 2) := by decide +kernel
theorem dX9_attempt_47 : decode cX9_attempt 47 = .ok (.iconst 1, 1) := by decide +kernel
theorem dX9_attempt_48 : decode cX9_attempt 48 = .ok (.if_icmp .ne 20, 3) := by decide +kernel
theorem dX9_attempt_51 : decode cX9_attempt 51 = .ok (.iload_n 2, 1) := by decide +kernel
theorem dX9_attempt_52 : decode cX9_attempt 52 = .ok (.aload_n 0, 1) := by decide +kernel
theorem dX9_attempt_53 : decode cX9_attempt 53 = .ok (.getfield 28, 3) := by decide +kernel
theorem dX9_attempt_56 : decode cX9_attempt 56 = .ok (.getfield 93, 3) := by decide +kernel
theorem dX9_attempt_59 : decode cX9_attempt 59 = .ok (.iconst (-1), 1) := by decide +kernel
theorem dX9_attempt_60 : decode cX9_attempt 60 = .ok (.ixor, 1) := by decide +kernel
theorem dX9_attempt_61 : decode cX9_attempt 61 = .ok (.iand, 1) := by decide +kernel
theorem dX9_attempt_62 : decode cX9_attempt 62 = .ok (.ifCond .ne 6, 3) := by decide +kernel
theorem dX9_attempt_65 : decode cX9_attempt 65 = .ok (.iload 4, 2) := by decide +kernel
theorem dX9_attempt_67 : decode cX9_attempt 67 = .ok (.ireturn, 1) := by decide +kernel
theorem dX9_attempt_68 : decode cX9_attempt 68 = .ok (.iinc 4 1, 3) := by decide +kernel
theorem dX9_attempt_71 : decode cX9_attempt 71 = .ok (.goto (-63), 3) := by decide +kernel
theorem dX9_attempt_74 : decode cX9_attempt 74 = .ok (.iconst (-1), 1) := by decide +kernel
theorem dX9_attempt_75 : decode cX9_attempt 75 = .ok (.ireturn, 1) := by decide +kernel
theorem rX9_attempt : (∀ (d : Nat) (a1 a2 a3 a4 a5 : Value) (x : Nat) (st : List Value) (h : fk_H), fk_ev d qX9_attempt 0 [.ref x, a1, a2, a3, a4, a5] st h = fk_ev d qX9_attempt 1 [.ref x, a1, a2, a3, a4, a5] (.ref x :: st) h) ∧
  (∀ (d : Nat) (L st : List Value) (h : fk_H), fk_ev d qX9_attempt 1 L st h = fk_ev d qX9_attempt 2 L (.int (nI 1) :: st) h) ∧
  (∀ (d : Nat) (L st : List Value) (N : Nat) (y : Nat → Nat → Int32) (l : Nat → Nat → Int64) (v : Int32), fk_ev d qX9_attempt 2 L (.int v :: .ref 240 :: st) (fk_E N y l) = fk_ev d qX9_attempt 5 L st (fk_E N (fk_u y 240 6 v) l)) ∧
  (∀ (d : Nat) (L st : List Value) (h : fk_H), fk_ev d qX9_attempt 5 L st h = fk_ev d qX9_attempt 6 L (.int (nI 1) :: st) h) ∧
  (∀ (d : Nat) (a0 a1 a2 a3 a4 a5 : Value) (x : Int32) (st : List Value) (h : fk_H), fk_ev d qX9_attempt 6 [a0, a1, a2, a3, a4, a5] (.int x :: st) h = fk_ev d qX9_attempt 8 [a0, a1, a2, a3, .int x, a5] st h) ∧
  (∀ (d : Nat) (a0 a1 a2 a4 a5 : Value) (x : Int32) (st : List Value) (h : fk_H), fk_ev d qX9_attempt 10 [a0, a1, a2, .int x, a4, a5] st h = fk_ev d qX9_attempt 11 [a0, a1, a2, .int x, a4, a5] (.int x :: st) h) ∧
  (∀ (d : Nat) (L : List Value) (x y : Int32) (st : List Value) (h : fk_H), fk_ev d qX9_attempt 11 L (.int y :: .int x :: st) h = if y < x then fk_ev d qX9_attempt 74 L st h else fk_ev d qX9_attempt 14 L st h) ∧
  (∀ (d : Nat) (a1 a2 a3 a4 a5 : Value) (x : Nat) (st : List Value) (h : fk_H), fk_ev d qX9_attempt 14 [.ref x, a1, a2, a3, a4, a5] st h = fk_ev d qX9_attempt 15 [.ref x, a1, a2, a3, a4, a5] (.ref x :: st) h) ∧
  (∀ (d : Nat) (L st : List Value) (N : Nat) (y : Nat → Nat → Int32) (l : Nat → Nat → Int64), fk_ev d qX9_attempt 15 L (.ref 240 :: st) (fk_E N y l) = fk_ev d qX9_attempt 18 L (.ref 238 :: st) (fk_E N y l)) ∧
  (∀ (d : Nat) (L : List Value)   (N : Nat) (y : Nat → Nat → Int32) (l : Nat → Nat → Int64), fk_ev (d + 1) qX9_attempt 18 L (.ref 238 :: []) (fk_E N y l) = (fk_ev d qX6_goBy 0 [.ref 238] [] (fk_E N y l)).bind fun o => fk_ev (d + 1) qX9_attempt 21 L (o.1.toList ++ []) o.2) ∧
  (∀ (d : Nat) (a1 a2 a3 a4 a5 : Value) (x : Nat) (st : List Value) (h : fk_H), fk_ev d qX9_attempt 21 [.ref x, a1, a2, a3, a4, a5] st h = fk_ev d qX9_attempt 22 [.ref x, a1, a2, a3, a4, a5] (.ref x :: st) h) ∧
  (∀ (d : Nat) (L st : List Value) (N : Nat) (y : Nat → Nat → Int32) (l : Nat → Nat → Int64), fk_ev d qX9_attempt 22 L (.ref 240 :: st) (fk_E N y l) = fk_ev d qX9_attempt 25 L (.ref 167 :: st) (fk_E N y l)) ∧
  (∀ (d : Nat) (L st : List Value) (N : Nat) (y : Nat → Nat → Int32) (l : Nat → Nat → Int64) (c : Nat), fk_at c 8 → fk_ev d qX9_attempt 25 L (.ref c :: st) (fk_E N y l) = fk_ev d qX9_attempt 28 L (.ref (fk_cr c 1) :: st) (fk_E N y l)) ∧
  (∀ (d : Nat) (a0 a2 a3 a4 a5 : Value) (x : Int32) (st : List Value) (h : fk_H), fk_ev d qX9_attempt 28 [a0, .int x, a2, a3, a4, a5] st h = fk_ev d qX9_attempt 29 [a0, .int x, a2, a3, a4, a5] (.int x :: st) h) ∧
  (∀ (d : Nat) (L st : List Value) (N : Nat) (y : Nat → Nat → Int32) (l : Nat → Nat → Int64) (i : Nat), i < 4 → fk_ev d qX9_attempt 29 L (.int (nI i) :: .ref 169 :: st) (fk_E N y l) = fk_ev d qX9_attempt 30 L (.int (y 169 i) :: st) (fk_E N y l)) ∧
  (∀ (d : Nat) (a0 a1 a2 a3 a4 a5 : Value) (x : Int32) (st : List Value) (h : fk_H), fk_ev d qX9_attempt 30 [a0, a1, a2, a3, a4, a5] (.int x :: st) h = fk_ev d qX9_attempt 32 [a0, a1, a2, a3, a4, .int x] st h) ∧
  (∀ (d : Nat) (a1 a2 a3 a4 a5 : Value) (x : Nat) (st : List Value) (h : fk_H), fk_ev d qX9_attempt 32 [.ref x, a1, a2, a3, a4, a5] st h = fk_ev d qX9_attempt 33 [.ref x, a1, a2, a3, a4, a5] (.ref x :: st) h) ∧
  (∀ (d : Nat) (a1 a2 a3 a4 a5 : Value) (x : Nat) (st : List Value) (h : fk_H), fk_ev d qX9_attempt 33 [.ref x, a1, a2, a3, a4, a5] st h = fk_ev d qX9_attempt 34 [.ref x, a1, a2, a3, a4, a5] (.ref x :: st) h) ∧
  (∀ (d : Nat) (L st : List Value) (N : Nat) (y : Nat → Nat → Int32) (l : Nat → Nat → Int64), fk_ev d qX9_attempt 34 L (.ref 240 :: st) (fk_E N y l) = fk_ev d qX9_attempt 37 L (.int (y 240 6) :: st) (fk_E N y l)) ∧
  (∀ (d : Nat) (a0 a1 a2 a3 a4 : Value) (x : Int32) (st : List Value) (h : fk_H), fk_ev d qX9_attempt 37 [a0, a1, a2, a3, a4, .int x] st h = fk_ev d qX9_attempt 39 [a0, a1, a2, a3, a4, .int x] (.int x :: st) h) ∧
  (∀ (d : Nat) (L : List Value) (x y : Int32) (w0 : Value) (h : fk_H), fk_ev d qX9_attempt 39 L (.int y :: .int x :: [w0]) h = fk_ev d qX9_attempt 42 L (.int (if x < y then y else x) :: [w0]) h) ∧
  (∀ (d : Nat) (L st : List Value) (N : Nat) (y : Nat → Nat → Int32) (l : Nat → Nat → Int64) (v : Int32), fk_ev d qX9_attempt 42 L (.int v :: .ref 240 :: st) (fk_E N y l) = fk_ev d qX9_attempt 45 L st (fk_E N (fk_u y 240 6 v) l)) ∧
  (∀ (d : Nat) (a0 a1 a2 a3 a4 : Value) (x : Int32) (st : List Value) (h : fk_H), fk_ev d qX9_attempt 45 [a0, a1, a2, a3, a4, .int x] st h = fk_ev d qX9_attempt 47 [a0, a1, a2, a3, a4, .int x] (.int x :: st) h) ∧
  (∀ (d : Nat) (L st : List Value) (h : fk_H), fk_ev d qX9_attempt 47 L st h = fk_ev d qX9_attempt 48 L (.int (nI 1) :: st) h) ∧
  (∀ (d : Nat) (L : List Value) (x y : Int32) (st : List Value) (h : fk_H), fk_ev d qX9_attempt 48 L (.int y :: .int x :: st) h = if ¬ x = y then fk_ev d qX9_attempt 68 L st h else fk_ev d qX9_attempt 51 L st h) ∧
  (∀ (d : Nat) (a0 a1 a3 a4 a5 : Value) (x : Int32) (st : List Value) (h : fk_H), fk_ev d qX9_attempt 51 [a0, a1, .int x, a3, a4, a5] st h = fk_ev d qX9_attempt 52 [a0, a1, .int x, a3, a4, a5] (.int x :: st) h) ∧
  (∀ (d : Nat) (a1 a2 a3 a4 a5 : Value) (x : Nat) (st : List Value) (h : fk_H), fk_ev d qX9_attempt 52 [.ref x, a1, a2, a3, a4, a5] st h = fk_ev d qX9_attempt 53 [.ref x, a1, a2, a3, a4, a5] (.ref x :: st) h) ∧
  (∀ (d : Nat) (L st : List Value) (N : Nat) (y : Nat → Nat → Int32) (l : Nat → Nat → Int64), fk_ev d qX9_attempt 53 L (.ref 240 :: st) (fk_E N y l) = fk_ev d qX9_attempt 56 L (.ref 238 :: st) (fk_E N y l)) ∧
  (∀ (d : Nat) (L st : List Value) (N : Nat) (y : Nat → Nat → Int32) (l : Nat → Nat → Int64), fk_ev d qX9_attempt 56 L (.ref 238 :: st) (fk_E N y l) = fk_ev d qX9_attempt 59 L (.int (y 238 7) :: st) (fk_E N y l)) ∧
  (∀ (d : Nat) (L st : List Value) (h : fk_H), fk_ev d qX9_attempt 59 L st h = fk_ev d qX9_attempt 60 L (.int ((-1 : Int32)) :: st) h) ∧
  (∀ (d : Nat) (L : List Value) (x y : Int32) (st : List Value) (h : fk_H), fk_ev d qX9_attempt 60 L (.int y :: .int x :: st) h = fk_ev d qX9_attempt 61 L (.int (x ^^^ y) :: st) h) ∧
  (∀ (d : Nat) (L : List Value) (x y : Int32) (st : List Value) (h : fk_H), fk_ev d qX9_attempt 61 L (.int y :: .int x :: st) h = fk_ev d qX9_attempt 62 L (.int (x &&& y) :: st) h) ∧
  (∀ (d : Nat) (L : List Value) (x : Int32) (st : List Value) (h : fk_H), fk_ev d qX9_attempt 62 L (.int x :: st) h = if ¬ x = nI 0 then fk_ev d qX9_attempt 68 L st h else fk_ev d qX9_attempt 65 L st h) ∧
  (∀ (d : Nat) (a0 a1 a2 a3 a5 : Value) (x : Int32) (st : List Value) (h : fk_H), fk_ev d qX9_attempt 65 [a0, a1, a2, a3, .int x, a5] st h = fk_ev d qX9_attempt 67 [a0, a1, a2, a3, .int x, a5] (.int x :: st) h) ∧
  (∀ (d : Nat) (L : List Value) (x : Int32) (h : fk_H), fk_ev d qX9_attempt 67 L [.int x] h = some (some (.int x), h)) ∧
  (∀ (d : Nat) (a0 a1 a2 a3 a5 : Value) (x : Int32) (st : List Value) (h : fk_H), fk_ev d qX9_attempt 68 [a0, a1, a2, a3, .int x, a5] st h = fk_ev d qX9_attempt 71 [a0, a1, a2, a3, .int (x + nI 1), a5] st h) ∧
  (∀ (d : Nat) (L st : List Value) (h : fk_H), fk_ev d qX9_attempt 71 L st h = fk_ev d qX9_attempt 8 L st h) ∧
  (∀ (d : Nat) (L st : List Value) (h : fk_H), fk_ev d qX9_attempt 74 L st h = fk_ev d qX9_attempt 75 L (.int ((-1 : Int32)) :: st) h) ∧
  (∀ (d : Nat) (L : List Value) (x : Int32) (h : fk_H), fk_ev d qX9_attempt 75 L [.int x] h = some (some (.int x), h)) := ⟨fun d a1 a2 a3 a4 a5 x st h => fk_w_aloadn 0 [.ref x, a1, a2, a3, a4, a5] dX9_attempt_0 rfl,
  fun d L st h => fk_w_iconst dX9_attempt_1 (by decide),
  fun d L st N y l v => fk_g_putI rfl lf_9_21 (by decide) dX9_attempt_2 rfl fk_at_240,
  fun d L st h => fk_w_iconst dX9_attempt_5 (by decide),
  fun d a0 a1 a2 a3 a4 a5 x st h => fk_w_istore 4 6 [] [a0, a1, a2, a3, a4, a5] [a0, a1, a2, a3, .int x, a5] dX9_attempt_6 rfl rfl (by decide) rfl,
  fun d a0 a1 a2 a4 a5 x st h => fk_w_iloadn 3 [a0, a1, a2, .int x, a4, a5] dX9_attempt_10 rfl,
  fun d L x y st h => fk_r_icmp_gt dX9_attempt_11 (by decide),
  fun d a1 a2 a3 a4 a5 x st h => fk_w_aloadn 0 [.ref x, a1, a2, a3, a4, a5] dX9_attempt_14 rfl,
  fun d L st N y l => fk_g_getC rfl lf_9_28 (by decide) rfl dX9_attempt_15 fk_at_240,
  fun d L  N y l  => fk_g_call [] [] rfl lm_9_81 dX9_attempt_18 rfl ⟨rfl, by decide⟩ (by simp) fk_at_238,
  fun d a1 a2 a3 a4 a5 x st h => fk_w_aloadn 0 [.ref x, a1, a2, a3, a4, a5] dX9_attempt_21 rfl,
  fun d L st N y l => fk_g_getC rfl lf_9_32 (by decide) rfl dX9_attempt_22 fk_at_240,
  fun d L st N y l c hc => fk_g_getC rfl lf_9_84 (by decide) rfl dX9_attempt_25 hc,
  fun d a0 a2 a3 a4 a5 x st h => fk_w_iloadn 1 [a0, .int x, a2, a3, a4, a5] dX9_attempt_28 rfl,
  fun d L st N y l i hi => fk_g_iald fk_at_169 fk_ln_169 (by decide) dX9_attempt_29 hi,
  fun d a0 a1 a2 a3 a4 a5 x st h => fk_w_istore 5 6 [] [a0, a1, a2, a3, a4, a5] [a0, a1, a2, a3, a4, .int x] dX9_attempt_30 rfl rfl (by decide) rfl,
  fun d a1 a2 a3 a4 a5 x st h => fk_w_aloadn 0 [.ref x, a1, a2, a3, a4, a5] dX9_attempt_32 rfl,
  fun d a1 a2 a3 a4 a5 x st h => fk_w_aloadn 0 [.ref x, a1, a2, a3, a4, a5] dX9_attempt_33 rfl,
  fun d L st N y l => fk_g_getI rfl lf_9_21 (by decide) dX9_attempt_34 fk_at_240,
  fun d a0 a1 a2 a3 a4 x st h => fk_w_iload 5 [a0, a1, a2, a3, a4, .int x] dX9_attempt_37 rfl,
  fun d L x y w0 h => fk_p_max dX9_attempt_39 ln_9_88 lp_9_88 (by simp),
  fun d L st N y l v => fk_g_putI rfl lf_9_21 (by decide) dX9_attempt_42 rfl fk_at_240,
  fun d a0 a1 a2 a3 a4 x st h => fk_w_iload 5 [a0, a1, a2, a3, a4, .int x] dX9_attempt_45 rfl,
  fun d L st h => fk_w_iconst dX9_attempt_47 (by decide),
  fun d L x y st h => fk_r_icmp_ne dX9_attempt_48 (by decide),
  fun d a0 a1 a3 a4 a5 x st h => fk_w_iloadn 2 [a0, a1, .int x, a3, a4, a5] dX9_attempt_51 rfl,
  fun d a1 a2 a3 a4 a5 x st h => fk_w_aloadn 0 [.ref x, a1, a2, a3, a4, a5] dX9_attempt_52 rfl,
  fun d L st N y l => fk_g_getC rfl lf_9_28 (by decide) rfl dX9_attempt_53 fk_at_240,
  fun d L st N y l => fk_g_getI rfl lf_9_93 (by decide) dX9_attempt_56 fk_at_238,
  fun d L st h => fk_w_iconst dX9_attempt_59 (by decide),
  fun d L x y st h => fk_r_ixor dX9_attempt_60,
  fun d L x y st h => fk_r_iand dX9_attempt_61,
  fun d L x st h => fk_r_if_ne dX9_attempt_62 (by decide),
  fun d a0 a1 a2 a3 a5 x st h => fk_w_iload 4 [a0, a1, a2, a3, .int x, a5] dX9_attempt_65 rfl,
  fun d L x h => fk_r_ret dX9_attempt_67 (Or.inl rfl),
  fun d a0 a1 a2 a3 a5 x st h => fk_w_iinc 4 6 (1) [] [a0, a1, a2, a3, .int x, a5] [a0, a1, a2, a3, .int (x + nI 1), a5] dX9_attempt_68 rfl rfl rfl (by decide) rfl,
  fun d L st h => fk_r_goto dX9_attempt_71 (by decide),
  fun d L st h => fk_w_iconst dX9_attempt_74 (by decide),
  fun d L x h => fk_r_ret dX9_attempt_75 (Or.inl rfl)⟩
theorem hX9_attempt_8 : ∀ (d : Nat) (a0 a1 a2 a3 a5 : Value) (x : Int32) (st : List Value) (h : fk_H), fk_ev d qX9_attempt 8 [a0, a1, a2, a3, .int x, a5] st h = fk_ev d qX9_attempt 10 [a0, a1, a2, a3, .int x, a5] (.int x :: st) h := fun d a0 a1 a2 a3 a5 x st h => fk_w_iload 4 [a0, a1, a2, a3, .int x, a5] dX9_attempt_8 rfl
theorem dX10_hasRoomFor_0 : decode cX10_hasRoomFor 0 = .ok (.aload_n 0, 1) := by decide +kernel
theorem dX10_hasRoomFor_1 : decode cX10_hasRoomFor 1 = .ok (.getfield 15, 3) := by decide +kernel
theorem dX10_hasRoomFor_4 : decode cX10_hasRoomFor 4 = .ok (.iload_n 1, 1) := by decide +kernel
theorem dX10_hasRoomFor_5 : decode cX10_hasRoomFor 5 = .ok (.iadd, 1) := by decide +kernel
theorem dX10_hasRoomFor_6 : decode cX10_hasRoomFor 6 = .ok (.aload_n 0, 1) := by decide +kernel
theorem dX10_hasRoomFor_7 : decode cX10_hasRoomFor 7 = .ok (.getfield 9, 3) := by decide +kernel
theorem dX10_hasRoomFor_10 : decode cX10_hasRoomFor 10 = .ok (.arraylength, 1) := by decide +kernel
theorem dX10_hasRoomFor_11 : decode cX10_hasRoomFor 11 = .ok (.if_icmp .gt 7, 3) := by decide +kernel
theorem dX10_hasRoomFor_14 : decode cX10_hasRoomFor 14 = .ok (.iconst 1, 1) := by decide +kernel
theorem dX10_hasRoomFor_15 : decode cX10_hasRoomFor 15 = .ok (.goto 4, 3) := by decide +kernel
theorem dX10_hasRoomFor_18 : decode cX10_hasRoomFor 18 = .ok (.iconst 0, 1) := by decide +kernel
theorem dX10_hasRoomFor_19 : decode cX10_hasRoomFor 19 = .ok (.ireturn, 1) := by decide +kernel
theorem rX10_hasRoomFor : (∀ (d : Nat) (a1 : Value) (x : Nat) (st : List Value) (h : fk_H), fk_ev d qX10_hasRoomFor 0 [.ref x, a1] st h = fk_ev d qX10_hasRoomFor 1 [.ref x, a1] (.ref x :: st) h) ∧
  (∀ (d : Nat) (L st : List Value) (N : Nat) (y : Nat → Nat → Int32) (l : Nat → Nat → Int64), fk_ev d qX10_hasRoomFor 1 L (.ref 26 :: st) (fk_E N y l) = fk_ev d qX10_hasRoomFor 4 L (.int (y 26 1) :: st) (fk_E N y l)) ∧
  (∀ (d : Nat) (a0 : Value) (x : Int32) (st : List Value) (h : fk_H), fk_ev d qX10_hasRoomFor 4 [a0, .int x] st h = fk_ev d qX10_hasRoomFor 5 [a0, .int x] (.int x :: st) h) ∧
  (∀ (d : Nat) (L : List Value) (x y : Int32) (st : List Value) (h : fk_H), fk_ev d qX10_hasRoomFor 5 L (.int y :: .int x :: st) h = fk_ev d qX10_hasRoomFor 6 L (.int (x + y) :: st) h) ∧
  (∀ (d : Nat) (a1 : Value) (x : Nat) (st : List Value) (h : fk_H), fk_ev d qX10_hasRoomFor 6 [.ref x, a1] st h = fk_ev d qX10_hasRoomFor 7 [.ref x, a1] (.ref x :: st) h) ∧
  (∀ (d : Nat) (L st : List Value) (N : Nat) (y : Nat → Nat → Int32) (l : Nat → Nat → Int64), fk_ev d qX10_hasRoomFor 7 L (.ref 26 :: st) (fk_E N y l) = fk_ev d qX10_hasRoomFor 10 L (.ref 27 :: st) (fk_E N y l)) ∧
  (∀ (d : Nat) (L st : List Value) (N : Nat) (y : Nat → Nat → Int32) (l : Nat → Nat → Int64), fk_ev d qX10_hasRoomFor 10 L (.ref 27 :: st) (fk_E N y l) = fk_ev d qX10_hasRoomFor 11 L (.int (nI 260) :: st) (fk_E N y l)) ∧
  (∀ (d : Nat) (L : List Value) (x y : Int32) (st : List Value) (h : fk_H), fk_ev d qX10_hasRoomFor 11 L (.int y :: .int x :: st) h = if y < x then fk_ev d qX10_hasRoomFor 18 L st h else fk_ev d qX10_hasRoomFor 14 L st h) ∧
  (∀ (d : Nat) (L st : List Value) (h : fk_H), fk_ev d qX10_hasRoomFor 14 L st h = fk_ev d qX10_hasRoomFor 15 L (.int (nI 1) :: st) h) ∧
  (∀ (d : Nat) (L st : List Value) (h : fk_H), fk_ev d qX10_hasRoomFor 15 L st h = fk_ev d qX10_hasRoomFor 19 L st h) ∧
  (∀ (d : Nat) (L st : List Value) (h : fk_H), fk_ev d qX10_hasRoomFor 18 L st h = fk_ev d qX10_hasRoomFor 19 L (.int (nI 0) :: st) h) ∧
  (∀ (d : Nat) (L : List Value) (h : fk_H), fk_ev d qX10_hasRoomFor 19 L [.int (nI 0)] h = some (some (.int (nI 0)), h)) ∧
  (∀ (d : Nat) (L : List Value) (h : fk_H), fk_ev d qX10_hasRoomFor 19 L [.int (nI 1)] h = some (some (.int (nI 1)), h)) ∧
  (∀ (d : Nat) (L : List Value) (p : Prop) [Decidable p] (h : fk_H), fk_ev d qX10_hasRoomFor 19 L [.int (fk_b p)] h = some (some (.int (fk_b p)), h)) ∧
  (∀ (d : Nat) (L : List Value) (x : Int32) (h : fk_H), (x = nI 0 ∨ x = nI 1) → fk_ev d qX10_hasRoomFor 19 L [.int x] h = some (some (.int x), h)) := ⟨fun d a1 x st h => fk_w_aloadn 0 [.ref x, a1] dX10_hasRoomFor_0 rfl,
  fun d L st N y l => fk_g_getI rfl lf_10_15 (by decide) dX10_hasRoomFor_1 fk_at_26,
  fun d a0 x st h => fk_w_iloadn 1 [a0, .int x] dX10_hasRoomFor_4 rfl,
  fun d L x y st h => fk_r_iadd dX10_hasRoomFor_5,
  fun d a1 x st h => fk_w_aloadn 0 [.ref x, a1] dX10_hasRoomFor_6 rfl,
  fun d L st N y l => fk_g_getC rfl lf_10_9 (by decide) rfl dX10_hasRoomFor_7 fk_at_26,
  fun d L st N y l => fk_g_alen fk_at_27 fk_ln_27 dX10_hasRoomFor_10,
  fun d L x y st h => fk_r_icmp_gt dX10_hasRoomFor_11 (by decide),
  fun d L st h => fk_w_iconst dX10_hasRoomFor_14 (by decide),
  fun d L st h => fk_r_goto dX10_hasRoomFor_15 (by decide),
  fun d L st h => fk_w_iconst dX10_hasRoomFor_18 (by decide),
  fun d L h => fk_r_ret dX10_hasRoomFor_19 (Or.inr (Or.inl ⟨rfl, by decide⟩)),
  fun d L h => fk_r_ret dX10_hasRoomFor_19 (Or.inr (Or.inl ⟨rfl, by decide⟩)),
  fun d L p _ h => fk_r_ret dX10_hasRoomFor_19 (Or.inr (Or.inl ⟨rfl, fk_b_01⟩)),
  fun d L x h hx => fk_r_ret dX10_hasRoomFor_19 (Or.inr (Or.inl ⟨rfl, hx⟩))⟩
theorem dX10_put_0 : decode cX10_put 0 = .ok (.bipush 24, 2) := by decide +kernel
theorem dX10_put_2 : decode cX10_put 2 = .ok (.istore_n 2, 1) := by decide +kernel
theorem dX10_put_3 : decode cX10_put 3 = .ok (.iload_n 2, 1) := by decide +kernel
theorem dX10_put_4 : decode cX10_put 4 = .ok (.ifCond .lt 43, 3) := by decide +kernel
theorem dX10_put_7 : decode cX10_put 7 = .ok (.aload_n 0, 1) := by decide +kernel
theorem dX10_put_8 : decode cX10_put 8 = .ok (.iconst 1, 1) := by decide +kernel
theorem dX10_put_9 : decode cX10_put 9 = .ok (.invokevirtual 19, 3) := by decide +kernel
theorem dX10_put_12 : decode cX10_put 12 = .ok (.ifCond .eq 35, 3) := by decide +kernel
theorem dX10_put_15 : decode cX10_put 15 = .ok (.aload_n 0, 1) := by decide +kernel
theorem dX10_put_16 : decode cX10_put 16 = .ok (.getfield 9, 3) := by decide +kernel
theorem dX10_put_19 : decode cX10_put 19 = .ok (.aload_n 0, 1) := by decide +kernel
theorem dX10_put_20 : decode cX10_put 20 = .ok (.getfield 15, 3) := by decide +kernel
theorem dX10_put_23 : decode cX10_put 23 = .ok (.iload_n 1, 1) := by decide +kernel
theorem dX10_put_24 : decode cX10_put 24 = .ok (.iload_n 2, 1) := by decide +kernel
theorem dX10_put_25 : decode cX10_put 25 = .ok (.ishr, 1) := by decide +kernel
theorem dX10_put_26 : decode cX10_put 26 = .ok (.sipush 255, 3) := by decide +kernel
theorem dX10_put_29 : decode cX10_put 29 = .ok (.iand, 1) := by decide +kernel
theorem dX10_put_30 : decode cX10_put 30 = .ok (.iastore, 1) := by decide +kernel
theorem dX10_put_31 : decode cX10_put 31 = .ok (.aload_n 0, 1) := by decide +kernel
theorem dX10_put_32 : decode cX10_put 32 = .ok (.dup, 1) := by decide +kernel
theorem dX10_put_33 : decode cX10_put 33 = .ok (.getfield 15, 3) := by decide +kernel
theorem dX10_put_36 : decode cX10_put 36 = .ok (.iconst 1, 1) := by decide +kernel
theorem dX10_put_37 : decode cX10_put 37 = .ok (.iadd, 1) := by decide +kernel
theorem dX10_put_38 : decode cX10_put 38 = .ok (.putfield 15, 3) := by decide +kernel
theorem dX10_put_41 : decode cX10_put 41 = .ok (.iinc 2 (-8), 3) := by decide +kernel
theorem dX10_put_44 : decode cX10_put 44 = .ok (.goto (-41), 3) := by decide +kernel
theorem dX10_put_47 : decode cX10_put 47 = .ok (.return_, 1) := by decide +kernel
theorem rX10_put : (∀ (d : Nat) (L st : List Value) (h : fk_H), fk_ev d qX10_put 0 L st h = fk_ev d qX10_put 2 L (.int (nI 24) :: st) h) ∧
  (∀ (d : Nat) (a0 a1 a2 : Value) (x : Int32) (st : List Value) (h : fk_H), fk_ev d qX10_put 2 [a0, a1, a2] (.int x :: st) h = fk_ev d qX10_put 3 [a0, a1, .int x] st h) ∧
  (∀ (d : Nat) (L : List Value) (x : Int32) (st : List Value) (h : fk_H), fk_ev d qX10_put 4 L (.int x :: st) h = if x < nI 0 then fk_ev d qX10_put 47 L st h else fk_ev d qX10_put 7 L st h) ∧
  (∀ (d : Nat) (a1 a2 : Value) (x : Nat) (st : List Value) (h : fk_H), fk_ev d qX10_put 7 [.ref x, a1, a2] st h = fk_ev d qX10_put 8 [.ref x, a1, a2] (.ref x :: st) h) ∧
  (∀ (d : Nat) (L st : List Value) (h : fk_H), fk_ev d qX10_put 8 L st h = fk_ev d qX10_put 9 L (.int (nI 1) :: st) h) ∧
  (∀ (d : Nat) (L : List Value) (x0 : Int32)  (N : Nat) (y : Nat → Nat → Int32) (l : Nat → Nat → Int64), fk_ev (d + 1) qX10_put 9 L (.int x0 :: .ref 26 :: []) (fk_E N y l) = (fk_ev d qX10_hasRoomFor 0 [.ref 26, .int x0] [] (fk_E N y l)).bind fun o => fk_ev (d + 1) qX10_put 12 L (o.1.toList ++ []) o.2) ∧
  (∀ (d : Nat) (L : List Value) (x : Int32) (st : List Value) (h : fk_H), fk_ev d qX10_put 12 L (.int x :: st) h = if x = nI 0 then fk_ev d qX10_put 47 L st h else fk_ev d qX10_put 15 L st h) ∧
  (∀ (d : Nat) (a1 a2 : Value) (x : Nat) (st : List Value) (h : fk_H), fk_ev d qX10_put 15 [.ref x, a1, a2] st h = fk_ev d qX10_put 16 [.ref x, a1, a2] (.ref x :: st) h) ∧
  (∀ (d : Nat) (L st : List Value) (N : Nat) (y : Nat → Nat → Int32) (l : Nat → Nat → Int64), fk_ev d qX10_put 16 L (.ref 26 :: st) (fk_E N y l) = fk_ev d qX10_put 19 L (.ref 27 :: st) (fk_E N y l)) ∧
  (∀ (d : Nat) (a1 a2 : Value) (x : Nat) (st : List Value) (h : fk_H), fk_ev d qX10_put 19 [.ref x, a1, a2] st h = fk_ev d qX10_put 20 [.ref x, a1, a2] (.ref x :: st) h) ∧
  (∀ (d : Nat) (L st : List Value) (N : Nat) (y : Nat → Nat → Int32) (l : Nat → Nat → Int64), fk_ev d qX10_put 20 L (.ref 26 :: st) (fk_E N y l) = fk_ev d qX10_put 23 L (.int (y 26 1) :: st) (fk_E N y l)) ∧
  (∀ (d : Nat) (a0 a2 : Value) (x : Int32) (st : List Value) (h : fk_H), fk_ev d qX10_put 23 [a0, .int x, a2] st h = fk_ev d qX10_put 24 [a0, .int x, a2] (.int x :: st) h) ∧
  (∀ (d : Nat) (a0 a1 : Value) (x : Int32) (st : List Value) (h : fk_H), fk_ev d qX10_put 24 [a0, a1, .int x] st h = fk_ev d qX10_put 25 [a0, a1, .int x] (.int x :: st) h) ∧
  (∀ (d : Nat) (L : List Value) (x y : Int32) (st : List Value) (h : fk_H), fk_ev d qX10_put 25 L (.int y :: .int x :: st) h = fk_ev d qX10_put 26 L (.int (x >>> (y &&& 31)) :: st) h) ∧
  (∀ (d : Nat) (L st : List Value) (h : fk_H), fk_ev d qX10_put 26 L st h = fk_ev d qX10_put 29 L (.int (nI 255) :: st) h) ∧
  (∀ (d : Nat) (L : List Value) (x y : Int32) (st : List Value) (h : fk_H), fk_ev d qX10_put 29 L (.int y :: .int x :: st) h = fk_ev d qX10_put 30 L (.int (x &&& y) :: st) h) ∧
  (∀ (d : Nat) (L st : List Value) (N : Nat) (y : Nat → Nat → Int32) (l : Nat → Nat → Int64) (i : Nat) (v : Int32), i < 260 → fk_ev d qX10_put 30 L (.int v :: .int (nI i) :: .ref 27 :: st) (fk_E N y l) = fk_ev d qX10_put 31 L st (fk_E N (fk_u y 27 i v) l)) ∧
  (∀ (d : Nat) (a1 a2 : Value) (x : Nat) (st : List Value) (h : fk_H), fk_ev d qX10_put 31 [.ref x, a1, a2] st h = fk_ev d qX10_put 32 [.ref x, a1, a2] (.ref x :: st) h) ∧
  (∀ (d : Nat) (L : List Value) (x : Nat) (st : List Value) (h : fk_H), fk_ev d qX10_put 32 L (.ref x :: st) h = fk_ev d qX10_put 33 L (.ref x :: .ref x :: st) h) ∧
  (∀ (d : Nat) (L st : List Value) (N : Nat) (y : Nat → Nat → Int32) (l : Nat → Nat → Int64), fk_ev d qX10_put 33 L (.ref 26 :: st) (fk_E N y l) = fk_ev d qX10_put 36 L (.int (y 26 1) :: st) (fk_E N y l)) ∧
  (∀ (d : Nat) (L st : List Value) (h : fk_H), fk_ev d qX10_put 36 L st h = fk_ev d qX10_put 37 L (.int (nI 1) :: st) h) ∧
  (∀ (d : Nat) (L : List Value) (x y : Int32) (st : List Value) (h : fk_H), fk_ev d qX10_put 37 L (.int y :: .int x :: st) h = fk_ev d qX10_put 38 L (.int (x + y) :: st) h) ∧
  (∀ (d : Nat) (L st : List Value) (N : Nat) (y : Nat → Nat → Int32) (l : Nat → Nat → Int64) (v : Int32), fk_ev d qX10_put 38 L (.int v :: .ref 26 :: st) (fk_E N y l) = fk_ev d qX10_put 41 L st (fk_E N (fk_u y 26 1 v) l)) ∧
  (∀ (d : Nat) (a0 a1 : Value) (x : Int32) (st : List Value) (h : fk_H), fk_ev d qX10_put 41 [a0, a1, .int x] st h = fk_ev d qX10_put 44 [a0, a1, .int (x + (-8 : Int32))] st h) ∧
  (∀ (d : Nat) (L st : List Value) (h : fk_H), fk_ev d qX10_put 44 L st h = fk_ev d qX10_put 3 L st h) ∧
  (∀ (d : Nat) (L : List Value) (h : fk_H), fk_ev d qX10_put 47 L [] h = some (none, h)) := ⟨fun d L st h => fk_w_bipush dX10_put_0 (by decide),
  fun d a0 a1 a2 x st h => fk_w_istoren 2 3 [] [a0, a1, a2] [a0, a1, .int x] dX10_put_2 rfl rfl (by decide) rfl,
  fun d L x st h => fk_r_if_lt dX10_put_4 (by decide),
  fun d a1 a2 x st h => fk_w_aloadn 0 [.ref x, a1, a2] dX10_put_7 rfl,
  fun d L st h => fk_w_iconst dX10_put_8 (by decide),
  fun d L x0 N y l  => fk_g_call [.int x0] [] rfl lm_10_19 dX10_put_9 rfl ⟨rfl, by decide⟩ (by simp) fk_at_26,
  fun d L x st h => fk_r_if_eq dX10_put_12 (by decide),
  fun d a1 a2 x st h => fk_w_aloadn 0 [.ref x, a1, a2] dX10_put_15 rfl,
  fun d L st N y l => fk_g_getC rfl lf_10_9 (by decide) rfl dX10_put_16 fk_at_26,
  fun d a1 a2 x st h => fk_w_aloadn 0 [.ref x, a1, a2] dX10_put_19 rfl,
  fun d L st N y l => fk_g_getI rfl lf_10_15 (by decide) dX10_put_20 fk_at_26,
  fun d a0 a2 x st h => fk_w_iloadn 1 [a0, .int x, a2] dX10_put_23 rfl,
  fun d a0 a1 x st h => fk_w_iloadn 2 [a0, a1, .int x] dX10_put_24 rfl,
  fun d L x y st h => fk_r_ishr dX10_put_25,
  fun d L st h => fk_w_sipush dX10_put_26 (by decide),
  fun d L x y st h => fk_r_iand dX10_put_29,
  fun d L st N y l i v hi => fk_g_iast fk_at_27 fk_ln_27 (by decide) dX10_put_30 hi,
  fun d a1 a2 x st h => fk_w_aloadn 0 [.ref x, a1, a2] dX10_put_31 rfl,
  fun d L x st h => fk_r_dup_ref dX10_put_32,
  fun d L st N y l => fk_g_getI rfl lf_10_15 (by decide) dX10_put_33 fk_at_26,
  fun d L st h => fk_w_iconst dX10_put_36 (by decide),
  fun d L x y st h => fk_r_iadd dX10_put_37,
  fun d L st N y l v => fk_g_putI rfl lf_10_15 (by decide) dX10_put_38 rfl fk_at_26,
  fun d a0 a1 x st h => fk_w_iinc 2 3 (-8) [] [a0, a1, .int x] [a0, a1, .int (x + (-8 : Int32))] dX10_put_41 rfl rfl rfl (by decide) rfl,
  fun d L st h => fk_r_goto dX10_put_44 (by decide),
  fun d L h => fk_r_vret dX10_put_47 rfl⟩
theorem hX10_put_3 : ∀ (d : Nat) (a0 a1 : Value) (x : Int32) (st : List Value) (h : fk_H), fk_ev d qX10_put 3 [a0, a1, .int x] st h = fk_ev d qX10_put 4 [a0, a1, .int x] (.int x :: st) h := fun d a0 a1 x st h => fk_w_iloadn 2 [a0, a1, .int x] dX10_put_3 rfl
theorem dX10_byteAt_0 : decode cX10_byteAt 0 = .ok (.iload_n 1, 1) := by decide +kernel
theorem dX10_byteAt_1 : decode cX10_byteAt 1 = .ok (.aload_n 0, 1) := by decide +kernel
theorem dX10_byteAt_2 : decode cX10_byteAt 2 = .ok (.getfield 15, 3) := by decide +kernel
theorem dX10_byteAt_5 : decode cX10_byteAt 5 = .ok (.invokestatic 23, 3) := by decide +kernel
theorem dX10_byteAt_8 : decode cX10_byteAt 8 = .ok (.ifCond .eq 12, 3) := by decide +kernel
theorem dX10_byteAt_11 : decode cX10_byteAt 11 = .ok (.aload_n 0, 1) := by decide +kernel
theorem dX10_byteAt_12 : decode cX10_byteAt 12 = .ok (.getfield 9, 3) := by decide +kernel
theorem dX10_byteAt_15 : decode cX10_byteAt 15 = .ok (.iload_n 1, 1) := by decide +kernel
theorem dX10_byteAt_16 : decode cX10_byteAt 16 = .ok (.iaload, 1) := by decide +kernel
theorem dX10_byteAt_17 : decode cX10_byteAt 17 = .ok (.goto 4, 3) := by decide +kernel
theorem dX10_byteAt_20 : decode cX10_byteAt 20 = .ok (.iconst (-1), 1) := by decide +kernel
theorem dX10_byteAt_21 : decode cX10_byteAt 21 = .ok (.ireturn, 1) := by decide +kernel
theorem rX10_byteAt : (∀ (d : Nat) (a0 : Value) (x : Int32) (st : List Value) (h : fk_H), fk_ev d qX10_byteAt 0 [a0, .int x] st h = fk_ev d qX10_byteAt 1 [a0, .int x] (.int x :: st) h) ∧
  (∀ (d : Nat) (a1 : Value) (x : Nat) (st : List Value) (h : fk_H), fk_ev d qX10_byteAt 1 [.ref x, a1] st h = fk_ev d qX10_byteAt 2 [.ref x, a1] (.ref x :: st) h) ∧
  (∀ (d : Nat) (L st : List Value) (N : Nat) (y : Nat → Nat → Int32) (l : Nat → Nat → Int64), fk_ev d qX10_byteAt 2 L (.ref 26 :: st) (fk_E N y l) = fk_ev d qX10_byteAt 5 L (.int (y 26 1) :: st) (fk_E N y l)) ∧
  (∀ (d : Nat) (L : List Value) (x0 : Int32) (x1 : Int32)  (h : fk_H), fk_ev (d + 1) qX10_byteAt 5 L (.int x1 :: .int x0 :: []) h = (fk_ev d qX11_within 0 [.int x0, .int x1] [] h).bind fun o => fk_ev (d + 1) qX10_byteAt 8 L (o.1.toList ++ []) o.2) ∧
  (∀ (d : Nat) (L : List Value) (x : Int32) (st : List Value) (h : fk_H), fk_ev d qX10_byteAt 8 L (.int x :: st) h = if x = nI 0 then fk_ev d qX10_byteAt 20 L st h else fk_ev d qX10_byteAt 11 L st h) ∧
  (∀ (d : Nat) (a1 : Value) (x : Nat) (st : List Value) (h : fk_H), fk_ev d qX10_byteAt 11 [.ref x, a1] st h = fk_ev d qX10_byteAt 12 [.ref x, a1] (.ref x :: st) h) ∧
  (∀ (d : Nat) (L st : List Value) (N : Nat) (y : Nat → Nat → Int32) (l : Nat → Nat → Int64), fk_ev d qX10_byteAt 12 L (.ref 26 :: st) (fk_E N y l) = fk_ev d qX10_byteAt 15 L (.ref 27 :: st) (fk_E N y l)) ∧
  (∀ (d : Nat) (a0 : Value) (x : Int32) (st : List Value) (h : fk_H), fk_ev d qX10_byteAt 15 [a0, .int x] st h = fk_ev d qX10_byteAt 16 [a0, .int x] (.int x :: st) h) ∧
  (∀ (d : Nat) (L st : List Value) (N : Nat) (y : Nat → Nat → Int32) (l : Nat → Nat → Int64) (i : Nat), i < 260 → fk_ev d qX10_byteAt 16 L (.int (nI i) :: .ref 27 :: st) (fk_E N y l) = fk_ev d qX10_byteAt 17 L (.int (y 27 i) :: st) (fk_E N y l)) ∧
  (∀ (d : Nat) (L st : List Value) (h : fk_H), fk_ev d qX10_byteAt 17 L st h = fk_ev d qX10_byteAt 21 L st h) ∧
  (∀ (d : Nat) (L st : List Value) (h : fk_H), fk_ev d qX10_byteAt 20 L st h = fk_ev d qX10_byteAt 21 L (.int ((-1 : Int32)) :: st) h) ∧
  (∀ (d : Nat) (L : List Value) (x : Int32) (h : fk_H), fk_ev d qX10_byteAt 21 L [.int x] h = some (some (.int x), h)) := ⟨fun d a0 x st h => fk_w_iloadn 1 [a0, .int x] dX10_byteAt_0 rfl,
  fun d a1 x st h => fk_w_aloadn 0 [.ref x, a1] dX10_byteAt_1 rfl,
  fun d L st N y l => fk_g_getI rfl lf_10_15 (by decide) dX10_byteAt_2 fk_at_26,
  fun d L x0 x1 h => fk_g_calls [.int x0, .int x1] [] rfl lm_10_23 dX10_byteAt_5 rfl ⟨rfl, by decide⟩ (by simp),
  fun d L x st h => fk_r_if_eq dX10_byteAt_8 (by decide),
  fun d a1 x st h => fk_w_aloadn 0 [.ref x, a1] dX10_byteAt_11 rfl,
  fun d L st N y l => fk_g_getC rfl lf_10_9 (by decide) rfl dX10_byteAt_12 fk_at_26,
  fun d a0 x st h => fk_w_iloadn 1 [a0, .int x] dX10_byteAt_15 rfl,
  fun d L st N y l i hi => fk_g_iald fk_at_27 fk_ln_27 (by decide) dX10_byteAt_16 hi,
  fun d L st h => fk_r_goto dX10_byteAt_17 (by decide),
  fun d L st h => fk_w_iconst dX10_byteAt_20 (by decide),
  fun d L x h => fk_r_ret dX10_byteAt_21 (Or.inl rfl)⟩
theorem dX10_numberAt_0 : decode cX10_numberAt 0 = .ok (.iconst 0, 1) := by decide +kernel
theorem dX10_numberAt_1 : decode cX10_numberAt 1 = .ok (.istore_n 2, 1) := by decide +kernel
theorem dX10_numberAt_2 : decode cX10_numberAt 2 = .ok (.iconst 0, 1) := by decide +kernel
theorem dX10_numberAt_3 : decode cX10_numberAt 3 = .ok (.istore_n 3, 1) := by decide +kernel
theorem dX10_numberAt_4 : decode cX10_numberAt 4 = .ok (.iload_n 3, 1) := by decide +kernel
theorem dX10_numberAt_5 : decode cX10_numberAt 5 = .ok (.iconst 4, 1) := by decide +kernel
theorem dX10_numberAt_6 : decode cX10_numberAt 6 = .ok (.if_icmp .ge 26, 3) := by decide +kernel
theorem dX10_numberAt_9 : decode cX10_numberAt 9 = .ok (.iload_n 2, 1) := by decide +kernel
theorem dX10_numberAt_10 : decode cX10_numberAt 10 = .ok (.bipush 8, 2) := by decide +kernel
theorem dX10_numberAt_12 : decode cX10_numberAt 12 = .ok (.ishl, 1) := by decide +kernel
theorem dX10_numberAt_13 : decode cX10_numberAt 13 = .ok (.aload_n 0, 1) := by decide +kernel
theorem dX10_numberAt_14 : decode cX10_numberAt 14 = .ok (.iload_n 1, 1) := by decide +kernel
theorem dX10_numberAt_15 : decode cX10_numberAt 15 = .ok (.iload_n 3, 1) := by decide +kernel
theorem dX10_numberAt_16 : decode cX10_numberAt 16 = .ok (.iadd, 1) := by decide +kernel
theorem dX10_numberAt_17 : decode cX10_numberAt 17 = .ok (.invokevirtual 27, 3) := by decide +kernel
theorem dX10_numberAt_20 : decode cX10_numberAt 20 = .ok (.sipush 255, 3) := by decide +kernel
theorem dX10_numberAt_23 : decode cX10_numberAt 23 = .ok (.iand, 1) := by decide +kernel
theorem dX10_numberAt_24 : decode cX10_numberAt 24 = .ok (.ior, 1) := by decide +kernel
theorem dX10_numberAt_25 : decode cX10_numberAt 25 = .ok (.istore_n 2, 1) := by decide +kernel
theorem dX10_numberAt_26 : decode cX10_numberAt 26 = .ok (.iinc 3 1, 3) := by decide +kernel
theorem dX10_numberAt_29 : decode cX10_numberAt 29 = .ok (.goto (-25), 3) := by decide +kernel
theorem dX10_numberAt_32 : decode cX10_numberAt 32 = .ok (.iload_n 2, 1) := by decide +kernel
theorem dX10_numberAt_33 : decode cX10_numberAt 33 = .ok (.ireturn, 1) := by decide +kernel
theorem rX10_numberAt : (∀ (d : Nat) (L st : List Value) (h : fk_H), fk_ev d qX10_numberAt 0 L st h = fk_ev d qX10_numberAt 1 L (.int (nI 0) :: st) h) ∧
  (∀ (d : Nat) (a0 a1 a2 a3 : Value) (x : Int32) (st : List Value) (h : fk_H), fk_ev d qX10_numberAt 1 [a0, a1, a2, a3] (.int x :: st) h = fk_ev d qX10_numberAt 2 [a0, a1, .int x, a3] st h) ∧
  (∀ (d : Nat) (L st : List Value) (h : fk_H), fk_ev d qX10_numberAt 2 L st h = fk_ev d qX10_numberAt 3 L (.int (nI 0) :: st) h) ∧
  (∀ (d : Nat) (a0 a1 a2 a3 : Value) (x : Int32) (st : List Value) (h : fk_H), fk_ev d qX10_numberAt 3 [a0, a1, a2, a3] (.int x :: st) h = fk_ev d qX10_numberAt 4 [a0, a1, a2, .int x] st h) ∧
  (∀ (d : Nat) (L st : List Value) (h : fk_H), fk_ev d qX10_numberAt 5 L st h = fk_ev d qX10_numberAt 6 L (.int (nI 4) :: st) h) ∧
  (∀ (d : Nat) (L : List Value) (x y : Int32) (st : List Value) (h : fk_H), fk_ev d qX10_numberAt 6 L (.int y :: .int x :: st) h = if y ≤ x then fk_ev d qX10_numberAt 32 L st h else fk_ev d qX10_numberAt 9 L st h) ∧
  (∀ (d : Nat) (a0 a1 a3 : Value) (x : Int32) (st : List Value) (h : fk_H), fk_ev d qX10_numberAt 9 [a0, a1, .int x, a3] st h = fk_ev d qX10_numberAt 10 [a0, a1, .int x, a3] (.int x :: st) h) ∧
  (∀ (d : Nat) (L st : List Value) (h : fk_H), fk_ev d qX10_numberAt 10 L st h = fk_ev d qX10_numberAt 12 L (.int (nI 8) :: st) h) ∧
  (∀ (d : Nat) (L : List Value) (x y : Int32) (st : List Value) (h : fk_H), fk_ev d qX10_numberAt 12 L (.int y :: .int x :: st) h = fk_ev d qX10_numberAt 13 L (.int (x <<< (y &&& 31)) :: st) h) ∧
  (∀ (d : Nat) (a1 a2 a3 : Value) (x : Nat) (st : List Value) (h : fk_H), fk_ev d qX10_numberAt 13 [.ref x, a1, a2, a3] st h = fk_ev d qX10_numberAt 14 [.ref x, a1, a2, a3] (.ref x :: st) h) ∧
  (∀ (d : Nat) (a0 a2 a3 : Value) (x : Int32) (st : List Value) (h : fk_H), fk_ev d qX10_numberAt 14 [a0, .int x, a2, a3] st h = fk_ev d qX10_numberAt 15 [a0, .int x, a2, a3] (.int x :: st) h) ∧
  (∀ (d : Nat) (a0 a1 a2 : Value) (x : Int32) (st : List Value) (h : fk_H), fk_ev d qX10_numberAt 15 [a0, a1, a2, .int x] st h = fk_ev d qX10_numberAt 16 [a0, a1, a2, .int x] (.int x :: st) h) ∧
  (∀ (d : Nat) (L : List Value) (x y : Int32) (st : List Value) (h : fk_H), fk_ev d qX10_numberAt 16 L (.int y :: .int x :: st) h = fk_ev d qX10_numberAt 17 L (.int (x + y) :: st) h) ∧
  (∀ (d : Nat) (L : List Value) (x0 : Int32) (w0 : Value) (N : Nat) (y : Nat → Nat → Int32) (l : Nat → Nat → Int64), fk_ev (d + 1) qX10_numberAt 17 L (.int x0 :: .ref 26 :: [w0]) (fk_E N y l) = (fk_ev d qX10_byteAt 0 [.ref 26, .int x0] [] (fk_E N y l)).bind fun o => fk_ev (d + 1) qX10_numberAt 20 L (o.1.toList ++ [w0]) o.2) ∧
  (∀ (d : Nat) (L st : List Value) (h : fk_H), fk_ev d qX10_numberAt 20 L st h = fk_ev d qX10_numberAt 23 L (.int (nI 255) :: st) h) ∧
  (∀ (d : Nat) (L : List Value) (x y : Int32) (st : List Value) (h : fk_H), fk_ev d qX10_numberAt 23 L (.int y :: .int x :: st) h = fk_ev d qX10_numberAt 24 L (.int (x &&& y) :: st) h) ∧
  (∀ (d : Nat) (L : List Value) (x y : Int32) (st : List Value) (h : fk_H), fk_ev d qX10_numberAt 24 L (.int y :: .int x :: st) h = fk_ev d qX10_numberAt 25 L (.int (x ||| y) :: st) h) ∧
  (∀ (d : Nat) (a0 a1 a2 a3 : Value) (x : Int32) (st : List Value) (h : fk_H), fk_ev d qX10_numberAt 25 [a0, a1, a2, a3] (.int x :: st) h = fk_ev d qX10_numberAt 26 [a0, a1, .int x, a3] st h) ∧
  (∀ (d : Nat) (a0 a1 a2 : Value) (x : Int32) (st : List Value) (h : fk_H), fk_ev d qX10_numberAt 26 [a0, a1, a2, .int x] st h = fk_ev d qX10_numberAt 29 [a0, a1, a2, .int (x + nI 1)] st h) ∧
  (∀ (d : Nat) (L st : List Value) (h : fk_H), fk_ev d qX10_numberAt 29 L st h = fk_ev d qX10_numberAt 4 L st h) ∧
  (∀ (d : Nat) (a0 a1 a3 : Value) (x : Int32) (st : List Value) (h : fk_H), fk_ev d qX10_numberAt 32 [a0, a1, .int x, a3] st h = fk_ev d qX10_numberAt 33 [a0, a1, .int x, a3] (.int x :: st) h) ∧
  (∀ (d : Nat) (L : List Value) (x : Int32) (h : fk_H), fk_ev d qX10_numberAt 33 L [.int x] h = some (some (.int x), h)) := ⟨fun d L st h => fk_w_iconst dX10_numberAt_0 (by decide),
  fun d a0 a1 a2 a3 x st h => fk_w_istoren 2 4 [] [a0, a1, a2, a3] [a0, a1, .int x, a3] dX10_numberAt_1 rfl rfl (by decide) rfl,
  fun d L st h => fk_w_iconst dX10_numberAt_2 (by decide),
  fun d a0 a1 a2 a3 x st h => fk_w_istoren 3 4 [] [a0, a1, a2, a3] [a0, a1, a2, .int x] dX10_numberAt_3 rfl rfl (by decide) rfl,
  fun d L st h => fk_w_iconst dX10_numberAt_5 (by decide),
  fun d L x y st h => fk_r_icmp_ge dX10_numberAt_6 (by decide),
  fun d a0 a1 a3 x st h => fk_w_iloadn 2 [a0, a1, .int x, a3] dX10_numberAt_9 rfl,
  fun d L st h => fk_w_bipush dX10_numberAt_10 (by decide),
  fun d L x y st h => fk_r_ishl dX10_numberAt_12,
  fun d a1 a2 a3 x st h => fk_w_aloadn 0 [.ref x, a1, a2, a3] dX10_numberAt_13 rfl,
  fun d a0 a2 a3 x st h => fk_w_iloadn 1 [a0, .int x, a2, a3] dX10_numberAt_14 rfl,
  fun d a0 a1 a2 x st h => fk_w_iloadn 3 [a0, a1, a2, .int x] dX10_numberAt_15 rfl,
  fun d L x y st h => fk_r_iadd dX10_numberAt_16,
  fun d L x0 w0 N y l  => fk_g_call [.int x0] [w0] rfl lm_10_27 dX10_numberAt_17 rfl ⟨rfl, by decide⟩ (by simp) fk_at_26,
  fun d L st h => fk_w_sipush dX10_numberAt_20 (by decide),
  fun d L x y st h => fk_r_iand dX10_numberAt_23,
  fun d L x y st h => fk_r_ior dX10_numberAt_24,
  fun d a0 a1 a2 a3 x st h => fk_w_istoren 2 4 [] [a0, a1, a2, a3] [a0, a1, .int x, a3] dX10_numberAt_25 rfl rfl (by decide) rfl,
  fun d a0 a1 a2 x st h => fk_w_iinc 3 4 (1) [] [a0, a1, a2, .int x] [a0, a1, a2, .int (x + nI 1)] dX10_numberAt_26 rfl rfl rfl (by decide) rfl,
  fun d L st h => fk_r_goto dX10_numberAt_29 (by decide),
  fun d a0 a1 a3 x st h => fk_w_iloadn 2 [a0, a1, .int x, a3] dX10_numberAt_32 rfl,
  fun d L x h => fk_r_ret dX10_numberAt_33 (Or.inl rfl)⟩
theorem hX10_numberAt_4 : ∀ (d : Nat) (a0 a1 a2 : Value) (x : Int32) (st : List Value) (h : fk_H), fk_ev d qX10_numberAt 4 [a0, a1, a2, .int x] st h = fk_ev d qX10_numberAt 5 [a0, a1, a2, .int x] (.int x :: st) h := fun d a0 a1 a2 x st h => fk_w_iloadn 3 [a0, a1, a2, .int x] dX10_numberAt_4 rfl
theorem dX10_clear_0 : decode cX10_clear 0 = .ok (.aload_n 0, 1) := by decide +kernel
theorem dX10_clear_1 : decode cX10_clear 1 = .ok (.iconst 0, 1) := by decide +kernel
theorem dX10_clear_2 : decode cX10_clear 2 = .ok (.putfield 15, 3) := by decide +kernel
theorem dX10_clear_5 : decode cX10_clear 5 = .ok (.return_, 1) := by decide +kernel
theorem rX10_clear : (∀ (d : Nat) (x : Nat) (st : List Value) (h : fk_H), fk_ev d qX10_clear 0 [.ref x] st h = fk_ev d qX10_clear 1 [.ref x] (.ref x :: st) h) ∧
  (∀ (d : Nat) (L st : List Value) (h : fk_H), fk_ev d qX10_clear 1 L st h = fk_ev d qX10_clear 2 L (.int (nI 0) :: st) h) ∧
  (∀ (d : Nat) (L st : List Value) (N : Nat) (y : Nat → Nat → Int32) (l : Nat → Nat → Int64) (v : Int32), fk_ev d qX10_clear 2 L (.int v :: .ref 26 :: st) (fk_E N y l) = fk_ev d qX10_clear 5 L st (fk_E N (fk_u y 26 1 v) l)) ∧
  (∀ (d : Nat) (L : List Value) (h : fk_H), fk_ev d qX10_clear 5 L [] h = some (none, h)) := ⟨fun d  x st h => fk_w_aloadn 0 [.ref x] dX10_clear_0 rfl,
  fun d L st h => fk_w_iconst dX10_clear_1 (by decide),
  fun d L st N y l v => fk_g_putI rfl lf_10_15 (by decide) dX10_clear_2 rfl fk_at_26,
  fun d L h => fk_r_vret dX10_clear_5 rfl⟩
theorem dX11_road_0 : decode cX11_road 0 = .ok (.iload_n 1, 1) := by decide +kernel
theorem dX11_road_1 : decode cX11_road 1 = .ok (.bipush 32, 2) := by decide +kernel
theorem dX11_road_3 : decode cX11_road 3 = .ok (.invokestatic 110, 3) := by decide +kernel
theorem dX11_road_6 : decode cX11_road 6 = .ok (.ifCond .eq 21, 3) := by decide +kernel
theorem dX11_road_9 : decode cX11_road 9 = .ok (.iload_n 2, 1) := by decide +kernel
theorem dX11_road_10 : decode cX11_road 10 = .ok (.bipush 16, 2) := by decide +kernel
theorem dX11_road_12 : decode cX11_road 12 = .ok (.invokestatic 110, 3) := by decide +kernel
theorem dX11_road_15 : decode cX11_road 15 = .ok (.ifCond .eq 12, 3) := by decide +kernel
theorem dX11_road_18 : decode cX11_road 18 = .ok (.iload_n 3, 1) := by decide +kernel
theorem dX11_road_19 : decode cX11_road 19 = .ok (.bipush 16, 2) := by decide +kernel
theorem dX11_road_21 : decode cX11_road 21 = .ok (.invokestatic 110, 3) := by decide +kernel
theorem dX11_road_24 : decode cX11_road 24 = .ok (.ifCond .ne 5, 3) := by decide +kernel
theorem dX11_road_27 : decode cX11_road 27 = .ok (.iconst 0, 1) := by decide +kernel
theorem dX11_road_28 : decode cX11_road 28 = .ok (.ireturn, 1) := by decide +kernel
theorem dX11_road_29 : decode cX11_road 29 = .ok (.iload_n 2, 1) := by decide +kernel
theorem dX11_road_30 : decode cX11_road 30 = .ok (.iload_n 3, 1) := by decide +kernel
theorem dX11_road_31 : decode cX11_road 31 = .ok (.if_icmp .eq 16, 3) := by decide +kernel
theorem dX11_road_34 : decode cX11_road 34 = .ok (.iload 4, 2) := by decide +kernel
theorem dX11_road_36 : decode cX11_road 36 = .ok (.iconst 1, 1) := by decide +kernel
theorem dX11_road_37 : decode cX11_road 37 = .ok (.if_icmp .lt 10, 3) := by decide +kernel
theorem dX11_road_40 : decode cX11_road 40 = .ok (.iload 4, 2) := by decide +kernel
theorem dX11_road_42 : decode cX11_road 42 = .ok (.bipush 9, 2) := by decide +kernel
theorem dX11_road_44 : decode cX11_road 44 = .ok (.if_icmp .le 5, 3) := by decide +kernel
theorem dX11_road_47 : decode cX11_road 47 = .ok (.iconst 0, 1) := by decide +kernel
theorem dX11_road_48 : decode cX11_road 48 = .ok (.ireturn, 1) := by decide +kernel
theorem dX11_road_49 : decode cX11_road 49 = .ok (.aload_n 0, 1) := by decide +kernel
theorem dX11_road_50 : decode cX11_road 50 = .ok (.getfield 26, 3) := by decide +kernel
theorem dX11_road_53 : decode cX11_road 53 = .ok (.iload_n 1, 1) := by decide +kernel
theorem dX11_road_54 : decode cX11_road 54 = .ok (.iload_n 2, 1) := by decide +kernel
theorem dX11_road_55 : decode cX11_road 55 = .ok (.iload_n 3, 1) := by decide +kernel
theorem dX11_road_56 : decode cX11_road 56 = .ok (.iload 4, 2) := by decide +kernel
theorem dX11_road_58 : decode cX11_road 58 = .ok (.invokevirtual 114, 3) := by decide +kernel
theorem dX11_road_61 : decode cX11_road 61 = .ok (.iconst 1, 1) := by decide +kernel
theorem dX11_road_62 : decode cX11_road 62 = .ok (.ireturn, 1) := by decide +kernel
theorem rX11_road : (∀ (d : Nat) (a0 a2 a3 a4 : Value) (x : Int32) (st : List Value) (h : fk_H), fk_ev d qX11_road 0 [a0, .int x, a2, a3, a4] st h = fk_ev d qX11_road 1 [a0, .int x, a2, a3, a4] (.int x :: st) h) ∧
  (∀ (d : Nat) (L st : List Value) (h : fk_H), fk_ev d qX11_road 1 L st h = fk_ev d qX11_road 3 L (.int (nI 32) :: st) h) ∧
  (∀ (d : Nat) (L : List Value) (x0 : Int32) (x1 : Int32)  (h : fk_H), fk_ev (d + 1) qX11_road 3 L (.int x1 :: .int x0 :: []) h = (fk_ev d qX11_within 0 [.int x0, .int x1] [] h).bind fun o => fk_ev (d + 1) qX11_road 6 L (o.1.toList ++ []) o.2) ∧
  (∀ (d : Nat) (L : List Value) (x : Int32) (st : List Value) (h : fk_H), fk_ev d qX11_road 6 L (.int x :: st) h = if x = nI 0 then fk_ev d qX11_road 27 L st h else fk_ev d qX11_road 9 L st h) ∧
  (∀ (d : Nat) (a0 a1 a3 a4 : Value) (x : Int32) (st : List Value) (h : fk_H), fk_ev d qX11_road 9 [a0, a1, .int x, a3, a4] st h = fk_ev d qX11_road 10 [a0, a1, .int x, a3, a4] (.int x :: st) h) ∧
  (∀ (d : Nat) (L st : List Value) (h : fk_H), fk_ev d qX11_road 10 L st h = fk_ev d qX11_road 12 L (.int (nI 16) :: st) h) ∧
  (∀ (d : Nat) (L : List Value) (x0 : Int32) (x1 : Int32)  (h : fk_H), fk_ev (d + 1) qX11_road 12 L (.int x1 :: .int x0 :: []) h = (fk_ev d qX11_within 0 [.int x0, .int x1] [] h).bind fun o => fk_ev (d + 1) qX11_road 15 L (o.1.toList ++ []) o.2) ∧
  (∀ (d : Nat) (L : List Value) (x : Int32) (st : List Value) (h : fk_H), fk_ev d qX11_road 15 L (.int x :: st) h = if x = nI 0 then fk_ev d qX11_road 27 L st h else fk_ev d qX11_road 18 L st h) ∧
  (∀ (d : Nat) (a0 a1 a2 a4 : Value) (x : Int32) (st : List Value) (h : fk_H), fk_ev d qX11_road 18 [a0, a1, a2, .int x, a4] st h = fk_ev d qX11_road 19 [a0, a1, a2, .int x, a4] (.int x :: st) h) ∧
  (∀ (d : Nat) (L st : List Value) (h : fk_H), fk_ev d qX11_road 19 L st h = fk_ev d qX11_road 21 L (.int (nI 16) :: st) h) ∧
  (∀ (d : Nat) (L : List Value) (x0 : Int32) (x1 : Int32)  (h : fk_H), fk_ev (d + 1) qX11_road 21 L (.int x1 :: .int x0 :: []) h = (fk_ev d qX11_within 0 [.int x0, .int x1] [] h).bind fun o => fk_ev (d + 1) qX11_road 24 L (o.1.toList ++ []) o.2) ∧
  (∀ (d : Nat) (L : List Value) (x : Int32) (st : List Value) (h : fk_H), fk_ev d qX11_road 24 L (.int x :: st) h = if ¬ x = nI 0 then fk_ev d qX11_road 29 L st h else fk_ev d qX11_road 27 L st h) ∧
  (∀ (d : Nat) (L st : List Value) (h : fk_H), fk_ev d qX11_road 27 L st h = fk_ev d qX11_road 28 L (.int (nI 0) :: st) h) ∧
  (∀ (d : Nat) (L : List Value) (h : fk_H), fk_ev d qX11_road 28 L [.int (nI 0)] h = some (some (.int (nI 0)), h)) ∧
  (∀ (d : Nat) (L : List Value) (h : fk_H), fk_ev d qX11_road 28 L [.int (nI 1)] h = some (some (.int (nI 1)), h)) ∧
  (∀ (d : Nat) (L : List Value) (p : Prop) [Decidable p] (h : fk_H), fk_ev d qX11_road 28 L [.int (fk_b p)] h = some (some (.int (fk_b p)), h)) ∧
  (∀ (d : Nat) (L : List Value) (x : Int32) (h : fk_H), (x = nI 0 ∨ x = nI 1) → fk_ev d qX11_road 28 L [.int x] h = some (some (.int x), h)) ∧
  (∀ (d : Nat) (a0 a1 a3 a4 : Value) (x : Int32) (st : List Value) (h : fk_H), fk_ev d qX11_road 29 [a0, a1, .int x, a3, a4] st h = fk_ev d qX11_road 30 [a0, a1, .int x, a3, a4] (.int x :: st) h) ∧
  (∀ (d : Nat) (a0 a1 a2 a4 : Value) (x : Int32) (st : List Value) (h : fk_H), fk_ev d qX11_road 30 [a0, a1, a2, .int x, a4] st h = fk_ev d qX11_road 31 [a0, a1, a2, .int x, a4] (.int x :: st) h) ∧
  (∀ (d : Nat) (L : List Value) (x y : Int32) (st : List Value) (h : fk_H), fk_ev d qX11_road 31 L (.int y :: .int x :: st) h = if x = y then fk_ev d qX11_road 47 L st h else fk_ev d qX11_road 34 L st h) ∧
  (∀ (d : Nat) (a0 a1 a2 a3 : Value) (x : Int32) (st : List Value) (h : fk_H), fk_ev d qX11_road 34 [a0, a1, a2, a3, .int x] st h = fk_ev d qX11_road 36 [a0, a1, a2, a3, .int x] (.int x :: st) h) ∧
  (∀ (d : Nat) (L st : List Value) (h : fk_H), fk_ev d qX11_road 36 L st h = fk_ev d qX11_road 37 L (.int (nI 1) :: st) h) ∧
  (∀ (d : Nat) (L : List Value) (x y : Int32) (st : List Value) (h : fk_H), fk_ev d qX11_road 37 L (.int y :: .int x :: st) h = if x < y then fk_ev d qX11_road 47 L st h else fk_ev d qX11_road 40 L st h) ∧
  (∀ (d : Nat) (a0 a1 a2 a3 : Value) (x : Int32) (st : List Value) (h : fk_H), fk_ev d qX11_road 40 [a0, a1, a2, a3, .int x] st h = fk_ev d qX11_road 42 [a0, a1, a2, a3, .int x] (.int x :: st) h) ∧
  (∀ (d : Nat) (L st : List Value) (h : fk_H), fk_ev d qX11_road 42 L st h = fk_ev d qX11_road 44 L (.int (nI 9) :: st) h) ∧
  (∀ (d : Nat) (L : List Value) (x y : Int32) (st : List Value) (h : fk_H), fk_ev d qX11_road 44 L (.int y :: .int x :: st) h = if x ≤ y then fk_ev d qX11_road 49 L st h else fk_ev d qX11_road 47 L st h) ∧
  (∀ (d : Nat) (L st : List Value) (h : fk_H), fk_ev d qX11_road 47 L st h = fk_ev d qX11_road 48 L (.int (nI 0) :: st) h) ∧
  (∀ (d : Nat) (L : List Value) (h : fk_H), fk_ev d qX11_road 48 L [.int (nI 0)] h = some (some (.int (nI 0)), h)) ∧
  (∀ (d : Nat) (L : List Value) (h : fk_H), fk_ev d qX11_road 48 L [.int (nI 1)] h = some (some (.int (nI 1)), h)) ∧
  (∀ (d : Nat) (L : List Value) (p : Prop) [Decidable p] (h : fk_H), fk_ev d qX11_road 48 L [.int (fk_b p)] h = some (some (.int (fk_b p)), h)) ∧
  (∀ (d : Nat) (L : List Value) (x : Int32) (h : fk_H), (x = nI 0 ∨ x = nI 1) → fk_ev d qX11_road 48 L [.int x] h = some (some (.int x), h)) ∧
  (∀ (d : Nat) (a1 a2 a3 a4 : Value) (x : Nat) (st : List Value) (h : fk_H), fk_ev d qX11_road 49 [.ref x, a1, a2, a3, a4] st h = fk_ev d qX11_road 50 [.ref x, a1, a2, a3, a4] (.ref x :: st) h) ∧
  (∀ (d : Nat) (L st : List Value) (N : Nat) (y : Nat → Nat → Int32) (l : Nat → Nat → Int64), fk_ev d qX11_road 50 L (.ref 1 :: st) (fk_E N y l) = fk_ev d qX11_road 53 L (.ref 18 :: st) (fk_E N y l)) ∧
  (∀ (d : Nat) (a0 a2 a3 a4 : Value) (x : Int32) (st : List Value) (h : fk_H), fk_ev d qX11_road 53 [a0, .int x, a2, a3, a4] st h = fk_ev d qX11_road 54 [a0, .int x, a2, a3, a4] (.int x :: st) h) ∧
  (∀ (d : Nat) (a0 a1 a3 a4 : Value) (x : Int32) (st : List Value) (h : fk_H), fk_ev d qX11_road 54 [a0, a1, .int x, a3, a4] st h = fk_ev d qX11_road 55 [a0, a1, .int x, a3, a4] (.int x :: st) h) ∧
  (∀ (d : Nat) (a0 a1 a2 a4 : Value) (x : Int32) (st : List Value) (h : fk_H), fk_ev d qX11_road 55 [a0, a1, a2, .int x, a4] st h = fk_ev d qX11_road 56 [a0, a1, a2, .int x, a4] (.int x :: st) h) ∧
  (∀ (d : Nat) (a0 a1 a2 a3 : Value) (x : Int32) (st : List Value) (h : fk_H), fk_ev d qX11_road 56 [a0, a1, a2, a3, .int x] st h = fk_ev d qX11_road 58 [a0, a1, a2, a3, .int x] (.int x :: st) h) ∧
  (∀ (d : Nat) (L : List Value) (x0 : Int32) (x1 : Int32) (x2 : Int32) (x3 : Int32)  (N : Nat) (y : Nat → Nat → Int32) (l : Nat → Nat → Int64), fk_ev (d + 1) qX11_road 58 L (.int x3 :: .int x2 :: .int x1 :: .int x0 :: .ref 18 :: []) (fk_E N y l) = (fk_ev d qX5_tellRoad 0 [.ref 18, .int x0, .int x1, .int x2, .int x3, .null] [] (fk_E N y l)).bind fun o => fk_ev (d + 1) qX11_road 61 L (o.1.toList ++ []) o.2) ∧
  (∀ (d : Nat) (L st : List Value) (h : fk_H), fk_ev d qX11_road 61 L st h = fk_ev d qX11_road 62 L (.int (nI 1) :: st) h) ∧
  (∀ (d : Nat) (L : List Value) (h : fk_H), fk_ev d qX11_road 62 L [.int (nI 0)] h = some (some (.int (nI 0)), h)) ∧
  (∀ (d : Nat) (L : List Value) (h : fk_H), fk_ev d qX11_road 62 L [.int (nI 1)] h = some (some (.int (nI 1)), h)) ∧
  (∀ (d : Nat) (L : List Value) (p : Prop) [Decidable p] (h : fk_H), fk_ev d qX11_road 62 L [.int (fk_b p)] h = some (some (.int (fk_b p)), h)) ∧
  (∀ (d : Nat) (L : List Value) (x : Int32) (h : fk_H), (x = nI 0 ∨ x = nI 1) → fk_ev d qX11_road 62 L [.int x] h = some (some (.int x), h)) := ⟨fun d a0 a2 a3 a4 x st h => fk_w_iloadn 1 [a0, .int x, a2, a3, a4] dX11_road_0 rfl,
  fun d L st h => fk_w_bipush dX11_road_1 (by decide),
  fun d L x0 x1 h => fk_g_calls [.int x0, .int x1] [] rfl lm_11_110 dX11_road_3 rfl ⟨rfl, by decide⟩ (by simp),
  fun d L x st h => fk_r_if_eq dX11_road_6 (by decide),
  fun d a0 a1 a3 a4 x st h => fk_w_iloadn 2 [a0, a1, .int x, a3, a4] dX11_road_9 rfl,
  fun d L st h => fk_w_bipush dX11_road_10 (by decide),
  fun d L x0 x1 h => fk_g_calls [.int x0, .int x1] [] rfl lm_11_110 dX11_road_12 rfl ⟨rfl, by decide⟩ (by simp),
  fun d L x st h => fk_r_if_eq dX11_road_15 (by decide),
  fun d a0 a1 a2 a4 x st h => fk_w_iloadn 3 [a0, a1, a2, .int x, a4] dX11_road_18 rfl,
  fun d L st h => fk_w_bipush dX11_road_19 (by decide),
  fun d L x0 x1 h => fk_g_calls [.int x0, .int x1] [] rfl lm_11_110 dX11_road_21 rfl ⟨rfl, by decide⟩ (by simp),
  fun d L x st h => fk_r_if_ne dX11_road_24 (by decide),
  fun d L st h => fk_w_iconst dX11_road_27 (by decide),
  fun d L h => fk_r_ret dX11_road_28 (Or.inr (Or.inl ⟨rfl, by decide⟩)),
  fun d L h => fk_r_ret dX11_road_28 (Or.inr (Or.inl ⟨rfl, by decide⟩)),
  fun d L p _ h => fk_r_ret dX11_road_28 (Or.inr (Or.inl ⟨rfl, fk_b_01⟩)),
  fun d L x h hx => fk_r_ret dX11_road_28 (Or.inr (Or.inl ⟨rfl, hx⟩)),
  fun d a0 a1 a3 a4 x st h => fk_w_iloadn 2 [a0, a1, .int x, a3, a4] dX11_road_29 rfl,
  fun d a0 a1 a2 a4 x st h => fk_w_iloadn 3 [a0, a1, a2, .int x, a4] dX11_road_30 rfl,
  fun d L x y st h => fk_r_icmp_eq dX11_road_31 (by decide),
  fun d a0 a1 a2 a3 x st h => fk_w_iload 4 [a0, a1, a2, a3, .int x] dX11_road_34 rfl,
  fun d L st h => fk_w_iconst dX11_road_36 (by decide),
  fun d L x y st h => fk_r_icmp_lt dX11_road_37 (by decide),
  fun d a0 a1 a2 a3 x st h => fk_w_iload 4 [a0, a1, a2, a3, .int x] dX11_road_40 rfl,
  fun d L st h => fk_w_bipush dX11_road_42 (by decide),
  fun d L x y st h => fk_r_icmp_le dX11_road_44 (by decide),
  fun d L st h => fk_w_iconst dX11_road_47 (by decide),
  fun d L h => fk_r_ret dX11_road_48 (Or.inr (Or.inl ⟨rfl, by decide⟩)),
  fun d L h => fk_r_ret dX11_road_48 (Or.inr (Or.inl ⟨rfl, by decide⟩)),
  fun d L p _ h => fk_r_ret dX11_road_48 (Or.inr (Or.inl ⟨rfl, fk_b_01⟩)),
  fun d L x h hx => fk_r_ret dX11_road_48 (Or.inr (Or.inl ⟨rfl, hx⟩)),
  fun d a1 a2 a3 a4 x st h => fk_w_aloadn 0 [.ref x, a1, a2, a3, a4] dX11_road_49 rfl,
  fun d L st N y l => fk_g_getC rfl lf_11_26 (by decide) rfl dX11_road_50 fk_at_1,
  fun d a0 a2 a3 a4 x st h => fk_w_iloadn 1 [a0, .int x, a2, a3, a4] dX11_road_53 rfl,
  fun d a0 a1 a3 a4 x st h => fk_w_iloadn 2 [a0, a1, .int x, a3, a4] dX11_road_54 rfl,
  fun d a0 a1 a2 a4 x st h => fk_w_iloadn 3 [a0, a1, a2, .int x, a4] dX11_road_55 rfl,
  fun d a0 a1 a2 a3 x st h => fk_w_iload 4 [a0, a1, a2, a3, .int x] dX11_road_56 rfl,
  fun d L x0 x1 x2 x3 N y l  => fk_g_call [.int x0, .int x1, .int x2, .int x3] [] rfl lm_11_114 dX11_road_58 rfl ⟨rfl, by decide⟩ (by simp) fk_at_18,
  fun d L st h => fk_w_iconst dX11_road_61 (by decide),
  fun d L h => fk_r_ret dX11_road_62 (Or.inr (Or.inl ⟨rfl, by decide⟩)),
  fun d L h => fk_r_ret dX11_road_62 (Or.inr (Or.inl ⟨rfl, by decide⟩)),
  fun d L p _ h => fk_r_ret dX11_road_62 (Or.inr (Or.inl ⟨rfl, fk_b_01⟩)),
  fun d L x h hx => fk_r_ret dX11_road_62 (Or.inr (Or.inl ⟨rfl, hx⟩))⟩
theorem dX11_notice_0 : decode cX11_notice 0 = .ok (.iload_n 1, 1) := by decide +kernel
theorem dX11_notice_1 : decode cX11_notice 1 = .ok (.bipush 16, 2) := by decide +kernel
theorem dX11_notice_3 : decode cX11_notice 3 = .ok (.invokestatic 110, 3) := by decide +kernel
theorem dX11_notice_6 : decode cX11_notice 6 = .ok (.ifCond .eq 14, 3) := by decide +kernel
theorem dX11_notice_9 : decode cX11_notice 9 = .ok (.iload_n 2, 1) := by decide +kernel
theorem dX11_notice_10 : decode cX11_notice 10 = .ok (.iconst (-1), 1) := by decide +kernel
theorem dX11_notice_11 : decode cX11_notice 11 = .ok (.if_icmp .lt 9, 3) := by decide +kernel
theorem dX11_notice_14 : decode cX11_notice 14 = .ok (.iload_n 2, 1) := by decide +kernel
theorem dX11_notice_15 : decode cX11_notice 15 = .ok (.bipush 16, 2) := by decide +kernel
theorem dX11_notice_17 : decode cX11_notice 17 = .ok (.if_icmp .lt 5, 3) := by decide +kernel
theorem dX11_notice_20 : decode cX11_notice 20 = .ok (.iconst 0, 1) := by decide +kernel
theorem dX11_notice_21 : decode cX11_notice 21 = .ok (.ireturn, 1) := by decide +kernel
theorem dX11_notice_22 : decode cX11_notice 22 = .ok (.aload_n 0, 1) := by decide +kernel
theorem dX11_notice_23 : decode cX11_notice 23 = .ok (.getfield 26, 3) := by decide +kernel
theorem dX11_notice_26 : decode cX11_notice 26 = .ok (.getfield 118, 3) := by decide +kernel
theorem dX11_notice_29 : decode cX11_notice 29 = .ok (.iload_n 1, 1) := by decide +kernel
theorem dX11_notice_30 : decode cX11_notice 30 = .ok (.iload_n 2, 1) := by decide +kernel
theorem dX11_notice_31 : decode cX11_notice 31 = .ok (.iastore, 1) := by decide +kernel
theorem dX11_notice_32 : decode cX11_notice 32 = .ok (.aload_n 0, 1) := by decide +kernel
theorem dX11_notice_33 : decode cX11_notice 33 = .ok (.getfield 26, 3) := by decide +kernel
theorem dX11_notice_36 : decode cX11_notice 36 = .ok (.getfield 121, 3) := by decide +kernel
theorem dX11_notice_39 : decode cX11_notice 39 = .ok (.iload_n 1, 1) := by decide +kernel
theorem dX11_notice_40 : decode cX11_notice 40 = .ok (.iload_n 3, 1) := by decide +kernel
theorem dX11_notice_41 : decode cX11_notice 41 = .ok (.ifCond .eq 7, 3) := by decide +kernel
theorem dX11_notice_44 : decode cX11_notice 44 = .ok (.iconst 1, 1) := by decide +kernel
theorem dX11_notice_45 : decode cX11_notice 45 = .ok (.goto 4, 3) := by decide +kernel
theorem dX11_notice_48 : decode cX11_notice 48 = .ok (.iconst 0, 1) := by decide +kernel
theorem dX11_notice_49 : decode cX11_notice 49 = .ok (.iastore, 1) := by decide +kernel
theorem dX11_notice_50 : decode cX11_notice 50 = .ok (.iconst 1, 1) := by decide +kernel
theorem dX11_notice_51 : decode cX11_notice 51 = .ok (.ireturn, 1) := by decide +kernel
theorem rX11_notice : (∀ (d : Nat) (a0 a2 a3 : Value) (x : Int32) (st : List Value) (h : fk_H), fk_ev d qX11_notice 0 [a0, .int x, a2, a3] st h = fk_ev d qX11_notice 1 [a0, .int x, a2, a3] (.int x :: st) h) ∧
  (∀ (d : Nat) (L st : List Value) (h : fk_H), fk_ev d qX11_notice 1 L st h = fk_ev d qX11_notice 3 L (.int (nI 16) :: st) h) ∧
  (∀ (d : Nat) (L : List Value) (x0 : Int32) (x1 : Int32)  (h : fk_H), fk_ev (d + 1) qX11_notice 3 L (.int x1 :: .int x0 :: []) h = (fk_ev d qX11_within 0 [.int x0, .int x1] [] h).bind fun o => fk_ev (d + 1) qX11_notice 6 L (o.1.toList ++ []) o.2) ∧
  (∀ (d : Nat) (L : List Value) (x : Int32) (st : List Value) (h : fk_H), fk_ev d qX11_notice 6 L (.int x :: st) h = if x = nI 0 then fk_ev d qX11_notice 20 L st h else fk_ev d qX11_notice 9 L st h) ∧
  (∀ (d : Nat) (a0 a1 a3 : Value) (x : Int32) (st : List Value) (h : fk_H), fk_ev d qX11_notice 9 [a0, a1, .int x, a3] st h = fk_ev d qX11_notice 10 [a0, a1, .int x, a3] (.int x :: st) h) ∧
  (∀ (d : Nat) (L st : List Value) (h : fk_H), fk_ev d qX11_notice 10 L st h = fk_ev d qX11_notice 11 L (.int ((-1 : Int32)) :: st) h) ∧
  (∀ (d : Nat) (L : List Value) (x y : Int32) (st : List Value) (h : fk_H), fk_ev d qX11_notice 11 L (.int y :: .int x :: st) h = if x < y then fk_ev d qX11_notice 20 L st h else fk_ev d qX11_notice 14 L st h) ∧
  (∀ (d : Nat) (a0 a1 a3 : Value) (x : Int32) (st : List Value) (h : fk_H), fk_ev d qX11_notice 14 [a0, a1, .int x, a3] st h = fk_ev d qX11_notice 15 [a0, a1, .int x, a3] (.int x :: st) h) ∧
  (∀ (d : Nat) (L st : List Value) (h : fk_H), fk_ev d qX11_notice 15 L st h = fk_ev d qX11_notice 17 L (.int (nI 16) :: st) h) ∧
  (∀ (d : Nat) (L : List Value) (x y : Int32) (st : List Value) (h : fk_H), fk_ev d qX11_notice 17 L (.int y :: .int x :: st) h = if x < y then fk_ev d qX11_notice 22 L st h else fk_ev d qX11_notice 20 L st h) ∧
  (∀ (d : Nat) (L st : List Value) (h : fk_H), fk_ev d qX11_notice 20 L st h = fk_ev d qX11_notice 21 L (.int (nI 0) :: st) h) ∧
  (∀ (d : Nat) (L : List Value) (h : fk_H), fk_ev d qX11_notice 21 L [.int (nI 0)] h = some (some (.int (nI 0)), h)) ∧
  (∀ (d : Nat) (L : List Value) (h : fk_H), fk_ev d qX11_notice 21 L [.int (nI 1)] h = some (some (.int (nI 1)), h)) ∧
  (∀ (d : Nat) (L : List Value) (p : Prop) [Decidable p] (h : fk_H), fk_ev d qX11_notice 21 L [.int (fk_b p)] h = some (some (.int (fk_b p)), h)) ∧
  (∀ (d : Nat) (L : List Value) (x : Int32) (h : fk_H), (x = nI 0 ∨ x = nI 1) → fk_ev d qX11_notice 21 L [.int x] h = some (some (.int x), h)) ∧
  (∀ (d : Nat) (a1 a2 a3 : Value) (x : Nat) (st : List Value) (h : fk_H), fk_ev d qX11_notice 22 [.ref x, a1, a2, a3] st h = fk_ev d qX11_notice 23 [.ref x, a1, a2, a3] (.ref x :: st) h) ∧
  (∀ (d : Nat) (L st : List Value) (N : Nat) (y : Nat → Nat → Int32) (l : Nat → Nat → Int64), fk_ev d qX11_notice 23 L (.ref 1 :: st) (fk_E N y l) = fk_ev d qX11_notice 26 L (.ref 18 :: st) (fk_E N y l)) ∧
  (∀ (d : Nat) (L st : List Value) (N : Nat) (y : Nat → Nat → Int32) (l : Nat → Nat → Int64), fk_ev d qX11_notice 26 L (.ref 18 :: st) (fk_E N y l) = fk_ev d qX11_notice 29 L (.ref 22 :: st) (fk_E N y l)) ∧
  (∀ (d : Nat) (a0 a2 a3 : Value) (x : Int32) (st : List Value) (h : fk_H), fk_ev d qX11_notice 29 [a0, .int x, a2, a3] st h = fk_ev d qX11_notice 30 [a0, .int x, a2, a3] (.int x :: st) h) ∧
  (∀ (d : Nat) (a0 a1 a3 : Value) (x : Int32) (st : List Value) (h : fk_H), fk_ev d qX11_notice 30 [a0, a1, .int x, a3] st h = fk_ev d qX11_notice 31 [a0, a1, .int x, a3] (.int x :: st) h) ∧
  (∀ (d : Nat) (L st : List Value) (N : Nat) (y : Nat → Nat → Int32) (l : Nat → Nat → Int64) (i : Nat) (v : Int32), i < 16 → fk_ev d qX11_notice 31 L (.int v :: .int (nI i) :: .ref 22 :: st) (fk_E N y l) = fk_ev d qX11_notice 32 L st (fk_E N (fk_u y 22 i v) l)) ∧
  (∀ (d : Nat) (a1 a2 a3 : Value) (x : Nat) (st : List Value) (h : fk_H), fk_ev d qX11_notice 32 [.ref x, a1, a2, a3] st h = fk_ev d qX11_notice 33 [.ref x, a1, a2, a3] (.ref x :: st) h) ∧
  (∀ (d : Nat) (L st : List Value) (N : Nat) (y : Nat → Nat → Int32) (l : Nat → Nat → Int64), fk_ev d qX11_notice 33 L (.ref 1 :: st) (fk_E N y l) = fk_ev d qX11_notice 36 L (.ref 18 :: st) (fk_E N y l)) ∧
  (∀ (d : Nat) (L st : List Value) (N : Nat) (y : Nat → Nat → Int32) (l : Nat → Nat → Int64), fk_ev d qX11_notice 36 L (.ref 18 :: st) (fk_E N y l) = fk_ev d qX11_notice 39 L (.ref 23 :: st) (fk_E N y l)) ∧
  (∀ (d : Nat) (a0 a2 a3 : Value) (x : Int32) (st : List Value) (h : fk_H), fk_ev d qX11_notice 39 [a0, .int x, a2, a3] st h = fk_ev d qX11_notice 40 [a0, .int x, a2, a3] (.int x :: st) h) ∧
  (∀ (d : Nat) (a0 a1 a2 : Value) (x : Int32) (st : List Value) (h : fk_H), fk_ev d qX11_notice 40 [a0, a1, a2, .int x] st h = fk_ev d qX11_notice 41 [a0, a1, a2, .int x] (.int x :: st) h) ∧
  (∀ (d : Nat) (L : List Value) (x : Int32) (st : List Value) (h : fk_H), fk_ev d qX11_notice 41 L (.int x :: st) h = if x = nI 0 then fk_ev d qX11_notice 48 L st h else fk_ev d qX11_notice 44 L st h) ∧
  (∀ (d : Nat) (L st : List Value) (h : fk_H), fk_ev d qX11_notice 44 L st h = fk_ev d qX11_notice 45 L (.int (nI 1) :: st) h) ∧
  (∀ (d : Nat) (L st : List Value) (h : fk_H), fk_ev d qX11_notice 45 L st h = fk_ev d qX11_notice 49 L st h) ∧
  (∀ (d : Nat) (L st : List Value) (h : fk_H), fk_ev d qX11_notice 48 L st h = fk_ev d qX11_notice 49 L (.int (nI 0) :: st) h) ∧
  (∀ (d : Nat) (L st : List Value) (N : Nat) (y : Nat → Nat → Int32) (l : Nat → Nat → Int64) (i : Nat) (v : Int32), i < 16 → fk_ev d qX11_notice 49 L (.int v :: .int (nI i) :: .ref 23 :: st) (fk_E N y l) = fk_ev d qX11_notice 50 L st (fk_E N (fk_u y 23 i v) l)) ∧
  (∀ (d : Nat) (L st : List Value) (h : fk_H), fk_ev d qX11_notice 50 L st h = fk_ev d qX11_notice 51 L (.int (nI 1) :: st) h) ∧
  (∀ (d : Nat) (L : List Value) (h : fk_H), fk_ev d qX11_notice 51 L [.int (nI 0)] h = some (some (.int (nI 0)), h)) ∧
  (∀ (d : Nat) (L : List Value) (h : fk_H), fk_ev d qX11_notice 51 L [.int (nI 1)] h = some (some (.int (nI 1)), h)) ∧
  (∀ (d : Nat) (L : List Value) (p : Prop) [Decidable p] (h : fk_H), fk_ev d qX11_notice 51 L [.int (fk_b p)] h = some (some (.int (fk_b p)), h)) ∧
  (∀ (d : Nat) (L : List Value) (x : Int32) (h : fk_H), (x = nI 0 ∨ x = nI 1) → fk_ev d qX11_notice 51 L [.int x] h = some (some (.int x), h)) := ⟨fun d a0 a2 a3 x st h => fk_w_iloadn 1 [a0, .int x, a2, a3] dX11_notice_0 rfl,
  fun d L st h => fk_w_bipush dX11_notice_1 (by decide),
  fun d L x0 x1 h => fk_g_calls [.int x0, .int x1] [] rfl lm_11_110 dX11_notice_3 rfl ⟨rfl, by decide⟩ (by simp),
  fun d L x st h => fk_r_if_eq dX11_notice_6 (by decide),
  fun d a0 a1 a3 x st h => fk_w_iloadn 2 [a0, a1, .int x, a3] dX11_notice_9 rfl,
  fun d L st h => fk_w_iconst dX11_notice_10 (by decide),
  fun d L x y st h => fk_r_icmp_lt dX11_notice_11 (by decide),
  fun d a0 a1 a3 x st h => fk_w_iloadn 2 [a0, a1, .int x, a3] dX11_notice_14 rfl,
  fun d L st h => fk_w_bipush dX11_notice_15 (by decide),
  fun d L x y st h => fk_r_icmp_lt dX11_notice_17 (by decide),
  fun d L st h => fk_w_iconst dX11_notice_20 (by decide),
  fun d L h => fk_r_ret dX11_notice_21 (Or.inr (Or.inl ⟨rfl, by decide⟩)),
  fun d L h => fk_r_ret dX11_notice_21 (Or.inr (Or.inl ⟨rfl, by decide⟩)),
  fun d L p _ h => fk_r_ret dX11_notice_21 (Or.inr (Or.inl ⟨rfl, fk_b_01⟩)),
  fun d L x h hx => fk_r_ret dX11_notice_21 (Or.inr (Or.inl ⟨rfl, hx⟩)),
  fun d a1 a2 a3 x st h => fk_w_aloadn 0 [.ref x, a1, a2, a3] dX11_notice_22 rfl,
  fun d L st N y l => fk_g_getC rfl lf_11_26 (by decide) rfl dX11_notice_23 fk_at_1,
  fun d L st N y l => fk_g_getC rfl lf_11_118 (by decide) rfl dX11_notice_26 fk_at_18,
  fun d a0 a2 a3 x st h => fk_w_iloadn 1 [a0, .int x, a2, a3] dX11_notice_29 rfl,
  fun d a0 a1 a3 x st h => fk_w_iloadn 2 [a0, a1, .int x, a3] dX11_notice_30 rfl,
  fun d L st N y l i v hi => fk_g_iast fk_at_22 fk_ln_22 (by decide) dX11_notice_31 hi,
  fun d a1 a2 a3 x st h => fk_w_aloadn 0 [.ref x, a1, a2, a3] dX11_notice_32 rfl,
  fun d L st N y l => fk_g_getC rfl lf_11_26 (by decide) rfl dX11_notice_33 fk_at_1,
  fun d L st N y l => fk_g_getC rfl lf_11_121 (by decide) rfl dX11_notice_36 fk_at_18,
  fun d a0 a2 a3 x st h => fk_w_iloadn 1 [a0, .int x, a2, a3] dX11_notice_39 rfl,
  fun d a0 a1 a2 x st h => fk_w_iloadn 3 [a0, a1, a2, .int x] dX11_notice_40 rfl,
  fun d L x st h => fk_r_if_eq dX11_notice_41 (by decide),
  fun d L st h => fk_w_iconst dX11_notice_44 (by decide),
  fun d L st h => fk_r_goto dX11_notice_45 (by decide),
  fun d L st h => fk_w_iconst dX11_notice_48 (by decide),
  fun d L st N y l i v hi => fk_g_iast fk_at_23 fk_ln_23 (by decide) dX11_notice_49 hi,
  fun d L st h => fk_w_iconst dX11_notice_50 (by decide),
  fun d L h => fk_r_ret dX11_notice_51 (Or.inr (Or.inl ⟨rfl, by decide⟩)),
  fun d L h => fk_r_ret dX11_notice_51 (Or.inr (Or.inl ⟨rfl, by decide⟩)),
  fun d L p _ h => fk_r_ret dX11_notice_51 (Or.inr (Or.inl ⟨rfl, fk_b_01⟩)),
  fun d L x h hx => fk_r_ret dX11_notice_51 (Or.inr (Or.inl ⟨rfl, hx⟩))⟩
theorem dX11_comes_0 : decode cX11_comes 0 = .ok (.iload_n 1, 1) := by decide +kernel
theorem dX11_comes_1 : decode cX11_comes 1 = .ok (.iconst 4, 1) := by decide +kernel
theorem dX11_comes_2 : decode cX11_comes 2 = .ok (.invokestatic 110, 3) := by decide +kernel
theorem dX11_comes_5 : decode cX11_comes 5 = .ok (.ifCond .eq 12, 3) := by decide +kernel
theorem dX11_comes_8 : decode cX11_comes 8 = .ok (.iload_n 2, 1) := by decide +kernel
theorem dX11_comes_9 : decode cX11_comes 9 = .ok (.bipush 16, 2) := by decide +kernel
theorem dX11_comes_11 : decode cX11_comes 11 = .ok (.invokestatic 110, 3) := by decide +kernel
theorem dX11_comes_14 : decode cX11_comes 14 = .ok (.ifCond .ne 5, 3) := by decide +kernel
theorem dX11_comes_17 : decode cX11_comes 17 = .ok (.iconst (-1), 1) := by decide +kernel
theorem dX11_comes_18 : decode cX11_comes 18 = .ok (.ireturn, 1) := by decide +kernel
theorem dX11_comes_19 : decode cX11_comes 19 = .ok (.aload_n 0, 1) := by decide +kernel
theorem dX11_comes_20 : decode cX11_comes 20 = .ok (.getfield 58, 3) := by decide +kernel
theorem dX11_comes_23 : decode cX11_comes 23 = .ok (.getfield 124, 3) := by decide +kernel
theorem dX11_comes_26 : decode cX11_comes 26 = .ok (.iload_n 1, 1) := by decide +kernel
theorem dX11_comes_27 : decode cX11_comes 27 = .ok (.iaload, 1) := by decide +kernel
theorem dX11_comes_28 : decode cX11_comes 28 = .ok (.ifCond .gt 15, 3) := by decide +kernel
theorem dX11_comes_31 : decode cX11_comes 31 = .ok (.aload_n 0, 1) := by decide +kernel
theorem dX11_comes_32 : decode cX11_comes 32 = .ok (.getfield 58, 3) := by decide +kernel
theorem dX11_comes_35 : decode cX11_comes 35 = .ok (.getfield 127, 3) := by decide +kernel
theorem dX11_comes_38 : decode cX11_comes 38 = .ok (.bipush 64, 2) := by decide +kernel
theorem dX11_comes_40 : decode cX11_comes 40 = .ok (.if_icmp .lt 5, 3) := by decide +kernel
theorem dX11_comes_43 : decode cX11_comes 43 = .ok (.iconst (-1), 1) := by decide +kernel
theorem dX11_comes_44 : decode cX11_comes 44 = .ok (.ireturn, 1) := by decide +kernel
theorem dX11_comes_45 : decode cX11_comes 45 = .ok (.aload_n 0, 1) := by decide +kernel
theorem dX11_comes_46 : decode cX11_comes 46 = .ok (.getfield 58, 3) := by decide +kernel
theorem dX11_comes_49 : decode cX11_comes 49 = .ok (.iload_n 1, 1) := by decide +kernel
theorem dX11_comes_50 : decode cX11_comes 50 = .ok (.iload_n 2, 1) := by decide +kernel
theorem dX11_comes_51 : decode cX11_comes 51 = .ok (.invokevirtual 131, 3) := by decide +kernel
theorem dX11_comes_54 : decode cX11_comes 54 = .ok (.ireturn, 1) := by decide +kernel
theorem rX11_comes : (∀ (d : Nat) (a0 a2 : Value) (x : Int32) (st : List Value) (h : fk_H), fk_ev d qX11_comes 0 [a0, .int x, a2] st h = fk_ev d qX11_comes 1 [a0, .int x, a2] (.int x :: st) h) ∧
  (∀ (d : Nat) (L st : List Value) (h : fk_H), fk_ev d qX11_comes 1 L st h = fk_ev d qX11_comes 2 L (.int (nI 4) :: st) h) ∧
  (∀ (d : Nat) (L : List Value) (x0 : Int32) (x1 : Int32)  (h : fk_H), fk_ev (d + 1) qX11_comes 2 L (.int x1 :: .int x0 :: []) h = (fk_ev d qX11_within 0 [.int x0, .int x1] [] h).bind fun o => fk_ev (d + 1) qX11_comes 5 L (o.1.toList ++ []) o.2) ∧
  (∀ (d : Nat) (L : List Value) (x : Int32) (st : List Value) (h : fk_H), fk_ev d qX11_comes 5 L (.int x :: st) h = if x = nI 0 then fk_ev d qX11_comes 17 L st h else fk_ev d qX11_comes 8 L st h) ∧
  (∀ (d : Nat) (a0 a1 : Value) (x : Int32) (st : List Value) (h : fk_H), fk_ev d qX11_comes 8 [a0, a1, .int x] st h = fk_ev d qX11_comes 9 [a0, a1, .int x] (.int x :: st) h) ∧
  (∀ (d : Nat) (L st : List Value) (h : fk_H), fk_ev d qX11_comes 9 L st h = fk_ev d qX11_comes 11 L (.int (nI 16) :: st) h) ∧
  (∀ (d : Nat) (L : List Value) (x0 : Int32) (x1 : Int32)  (h : fk_H), fk_ev (d + 1) qX11_comes 11 L (.int x1 :: .int x0 :: []) h = (fk_ev d qX11_within 0 [.int x0, .int x1] [] h).bind fun o => fk_ev (d + 1) qX11_comes 14 L (o.1.toList ++ []) o.2) ∧
  (∀ (d : Nat) (L : List Value) (x : Int32) (st : List Value) (h : fk_H), fk_ev d qX11_comes 14 L (.int x :: st) h = if ¬ x = nI 0 then fk_ev d qX11_comes 19 L st h else fk_ev d qX11_comes 17 L st h) ∧
  (∀ (d : Nat) (L st : List Value) (h : fk_H), fk_ev d qX11_comes 17 L st h = fk_ev d qX11_comes 18 L (.int ((-1 : Int32)) :: st) h) ∧
  (∀ (d : Nat) (L : List Value) (x : Int32) (h : fk_H), fk_ev d qX11_comes 18 L [.int x] h = some (some (.int x), h)) ∧
  (∀ (d : Nat) (a1 a2 : Value) (x : Nat) (st : List Value) (h : fk_H), fk_ev d qX11_comes 19 [.ref x, a1, a2] st h = fk_ev d qX11_comes 20 [.ref x, a1, a2] (.ref x :: st) h) ∧
  (∀ (d : Nat) (L st : List Value) (N : Nat) (y : Nat → Nat → Int32) (l : Nat → Nat → Int64), fk_ev d qX11_comes 20 L (.ref 1 :: st) (fk_E N y l) = fk_ev d qX11_comes 23 L (.ref 33 :: st) (fk_E N y l)) ∧
  (∀ (d : Nat) (L st : List Value) (N : Nat) (y : Nat → Nat → Int32) (l : Nat → Nat → Int64) (c : Nat), fk_at c 8 → fk_ev d qX11_comes 23 L (.ref c :: st) (fk_E N y l) = fk_ev d qX11_comes 26 L (.ref (fk_cr c 1) :: st) (fk_E N y l)) ∧
  (∀ (d : Nat) (a0 a2 : Value) (x : Int32) (st : List Value) (h : fk_H), fk_ev d qX11_comes 26 [a0, .int x, a2] st h = fk_ev d qX11_comes 27 [a0, .int x, a2] (.int x :: st) h) ∧
  (∀ (d : Nat) (L st : List Value) (N : Nat) (y : Nat → Nat → Int32) (l : Nat → Nat → Int64) (i : Nat), i < 4 → fk_ev d qX11_comes 27 L (.int (nI i) :: .ref 35 :: st) (fk_E N y l) = fk_ev d qX11_comes 28 L (.int (y 35 i) :: st) (fk_E N y l)) ∧
  (∀ (d : Nat) (L : List Value) (x : Int32) (st : List Value) (h : fk_H), fk_ev d qX11_comes 28 L (.int x :: st) h = if nI 0 < x then fk_ev d qX11_comes 43 L st h else fk_ev d qX11_comes 31 L st h) ∧
  (∀ (d : Nat) (a1 a2 : Value) (x : Nat) (st : List Value) (h : fk_H), fk_ev d qX11_comes 31 [.ref x, a1, a2] st h = fk_ev d qX11_comes 32 [.ref x, a1, a2] (.ref x :: st) h) ∧
  (∀ (d : Nat) (L st : List Value) (N : Nat) (y : Nat → Nat → Int32) (l : Nat → Nat → Int64), fk_ev d qX11_comes 32 L (.ref 1 :: st) (fk_E N y l) = fk_ev d qX11_comes 35 L (.ref 33 :: st) (fk_E N y l)) ∧
  (∀ (d : Nat) (L st : List Value) (N : Nat) (y : Nat → Nat → Int32) (l : Nat → Nat → Int64) (c : Nat), fk_at c 8 → fk_ev d qX11_comes 35 L (.ref c :: st) (fk_E N y l) = fk_ev d qX11_comes 38 L (.int (y c 2) :: st) (fk_E N y l)) ∧
  (∀ (d : Nat) (L st : List Value) (h : fk_H), fk_ev d qX11_comes 38 L st h = fk_ev d qX11_comes 40 L (.int (nI 64) :: st) h) ∧
  (∀ (d : Nat) (L : List Value) (x y : Int32) (st : List Value) (h : fk_H), fk_ev d qX11_comes 40 L (.int y :: .int x :: st) h = if x < y then fk_ev d qX11_comes 45 L st h else fk_ev d qX11_comes 43 L st h) ∧
  (∀ (d : Nat) (L st : List Value) (h : fk_H), fk_ev d qX11_comes 43 L st h = fk_ev d qX11_comes 44 L (.int ((-1 : Int32)) :: st) h) ∧
  (∀ (d : Nat) (L : List Value) (x : Int32) (h : fk_H), fk_ev d qX11_comes 44 L [.int x] h = some (some (.int x), h)) ∧
  (∀ (d : Nat) (a1 a2 : Value) (x : Nat) (st : List Value) (h : fk_H), fk_ev d qX11_comes 45 [.ref x, a1, a2] st h = fk_ev d qX11_comes 46 [.ref x, a1, a2] (.ref x :: st) h) ∧
  (∀ (d : Nat) (L st : List Value) (N : Nat) (y : Nat → Nat → Int32) (l : Nat → Nat → Int64), fk_ev d qX11_comes 46 L (.ref 1 :: st) (fk_E N y l) = fk_ev d qX11_comes 49 L (.ref 33 :: st) (fk_E N y l)) ∧
  (∀ (d : Nat) (a0 a2 : Value) (x : Int32) (st : List Value) (h : fk_H), fk_ev d qX11_comes 49 [a0, .int x, a2] st h = fk_ev d qX11_comes 50 [a0, .int x, a2] (.int x :: st) h) ∧
  (∀ (d : Nat) (a0 a1 : Value) (x : Int32) (st : List Value) (h : fk_H), fk_ev d qX11_comes 50 [a0, a1, .int x] st h = fk_ev d qX11_comes 51 [a0, a1, .int x] (.int x :: st) h) ∧
  (∀ (d : Nat) (L : List Value) (x0 : Int32) (x1 : Int32)  (N : Nat) (y : Nat → Nat → Int32) (l : Nat → Nat → Int64) (c : Nat), fk_at c 8 → fk_ev (d + 1) qX11_comes 51 L (.int x1 :: .int x0 :: .ref c :: []) (fk_E N y l) = (fk_ev d qX8_welcome 0 [.ref c, .int x0, .int x1, .null] [] (fk_E N y l)).bind fun o => fk_ev (d + 1) qX11_comes 54 L (o.1.toList ++ []) o.2) ∧
  (∀ (d : Nat) (L : List Value) (x : Int32) (h : fk_H), fk_ev d qX11_comes 54 L [.int x] h = some (some (.int x), h)) := ⟨fun d a0 a2 x st h => fk_w_iloadn 1 [a0, .int x, a2] dX11_comes_0 rfl,
  fun d L st h => fk_w_iconst dX11_comes_1 (by decide),
  fun d L x0 x1 h => fk_g_calls [.int x0, .int x1] [] rfl lm_11_110 dX11_comes_2 rfl ⟨rfl, by decide⟩ (by simp),
  fun d L x st h => fk_r_if_eq dX11_comes_5 (by decide),
  fun d a0 a1 x st h => fk_w_iloadn 2 [a0, a1, .int x] dX11_comes_8 rfl,
  fun d L st h => fk_w_bipush dX11_comes_9 (by decide),
  fun d L x0 x1 h => fk_g_calls [.int x0, .int x1] [] rfl lm_11_110 dX11_comes_11 rfl ⟨rfl, by decide⟩ (by simp),
  fun d L x st h => fk_r_if_ne dX11_comes_14 (by decide),
  fun d L st h => fk_w_iconst dX11_comes_17 (by decide),
  fun d L x h => fk_r_ret dX11_comes_18 (Or.inl rfl),
  fun d a1 a2 x st h => fk_w_aloadn 0 [.ref x, a1, a2] dX11_comes_19 rfl,
  fun d L st N y l => fk_g_getC rfl lf_11_58 (by decide) rfl dX11_comes_20 fk_at_1,
  fun d L st N y l c hc => fk_g_getC rfl lf_11_124 (by decide) rfl dX11_comes_23 hc,
  fun d a0 a2 x st h => fk_w_iloadn 1 [a0, .int x, a2] dX11_comes_26 rfl,
  fun d L st N y l i hi => fk_g_iald fk_at_35 fk_ln_35 (by decide) dX11_comes_27 hi,
  fun d L x st h => fk_r_if_gt dX11_comes_28 (by decide),
  fun d a1 a2 x st h => fk_w_aloadn 0 [.ref x, a1, a2] dX11_comes_31 rfl,
  fun d L st N y l => fk_g_getC rfl lf_11_58 (by decide) rfl dX11_comes_32 fk_at_1,
  fun d L st N y l c hc => fk_g_getI rfl lf_11_127 (by decide) dX11_comes_35 hc,
  fun d L st h => fk_w_bipush dX11_comes_38 (by decide),
  fun d L x y st h => fk_r_icmp_lt dX11_comes_40 (by decide),
  fun d L st h => fk_w_iconst dX11_comes_43 (by decide),
  fun d L x h => fk_r_ret dX11_comes_44 (Or.inl rfl),
  fun d a1 a2 x st h => fk_w_aloadn 0 [.ref x, a1, a2] dX11_comes_45 rfl,
  fun d L st N y l => fk_g_getC rfl lf_11_58 (by decide) rfl dX11_comes_46 fk_at_1,
  fun d a0 a2 x st h => fk_w_iloadn 1 [a0, .int x, a2] dX11_comes_49 rfl,
  fun d a0 a1 x st h => fk_w_iloadn 2 [a0, a1, .int x] dX11_comes_50 rfl,
  fun d L x0 x1 N y l c hc => fk_g_call [.int x0, .int x1] [] rfl lm_11_131 dX11_comes_51 rfl ⟨rfl, by decide⟩ (by simp) hc,
  fun d L x h => fk_r_ret dX11_comes_54 (Or.inl rfl)⟩
theorem dX11_learns_0 : decode cX11_learns 0 = .ok (.aload_n 0, 1) := by decide +kernel
theorem dX11_learns_1 : decode cX11_learns 1 = .ok (.getfield 58, 3) := by decide +kernel
theorem dX11_learns_4 : decode cX11_learns 4 = .ok (.iload_n 1, 1) := by decide +kernel
theorem dX11_learns_5 : decode cX11_learns 5 = .ok (.invokevirtual 135, 3) := by decide +kernel
theorem dX11_learns_8 : decode cX11_learns 8 = .ok (.ifCond .eq 12, 3) := by decide +kernel
theorem dX11_learns_11 : decode cX11_learns 11 = .ok (.iload_n 2, 1) := by decide +kernel
theorem dX11_learns_12 : decode cX11_learns 12 = .ok (.bipush 16, 2) := by decide +kernel
theorem dX11_learns_14 : decode cX11_learns 14 = .ok (.invokestatic 110, 3) := by decide +kernel
theorem dX11_learns_17 : decode cX11_learns 17 = .ok (.ifCond .ne 5, 3) := by decide +kernel
theorem dX11_learns_20 : decode cX11_learns 20 = .ok (.iconst 0, 1) := by decide +kernel
theorem dX11_learns_21 : decode cX11_learns 21 = .ok (.ireturn, 1) := by decide +kernel
theorem dX11_learns_22 : decode cX11_learns 22 = .ok (.aload_n 0, 1) := by decide +kernel
theorem dX11_learns_23 : decode cX11_learns 23 = .ok (.getfield 58, 3) := by decide +kernel
theorem dX11_learns_26 : decode cX11_learns 26 = .ok (.getfield 139, 3) := by decide +kernel
theorem dX11_learns_29 : decode cX11_learns 29 = .ok (.iload_n 1, 1) := by decide +kernel
theorem dX11_learns_30 : decode cX11_learns 30 = .ok (.aaload, 1) := by decide +kernel
theorem dX11_learns_31 : decode cX11_learns 31 = .ok (.iload_n 2, 1) := by decide +kernel
theorem dX11_learns_32 : decode cX11_learns 32 = .ok (.iload_n 3, 1) := by decide +kernel
theorem dX11_learns_33 : decode cX11_learns 33 = .ok (.invokevirtual 143, 3) := by decide +kernel
theorem dX11_learns_36 : decode cX11_learns 36 = .ok (.iconst 1, 1) := by decide +kernel
theorem dX11_learns_37 : decode cX11_learns 37 = .ok (.ireturn, 1) := by decide +kernel
theorem rX11_learns : (∀ (d : Nat) (a1 a2 a3 : Value) (x : Nat) (st : List Value) (h : fk_H), fk_ev d qX11_learns 0 [.ref x, a1, a2, a3] st h = fk_ev d qX11_learns 1 [.ref x, a1, a2, a3] (.ref x :: st) h) ∧
  (∀ (d : Nat) (L st : List Value) (N : Nat) (y : Nat → Nat → Int32) (l : Nat → Nat → Int64), fk_ev d qX11_learns 1 L (.ref 1 :: st) (fk_E N y l) = fk_ev d qX11_learns 4 L (.ref 33 :: st) (fk_E N y l)) ∧
  (∀ (d : Nat) (a0 a2 a3 : Value) (x : Int32) (st : List Value) (h : fk_H), fk_ev d qX11_learns 4 [a0, .int x, a2, a3] st h = fk_ev d qX11_learns 5 [a0, .int x, a2, a3] (.int x :: st) h) ∧
  (∀ (d : Nat) (L : List Value) (x0 : Int32)  (N : Nat) (y : Nat → Nat → Int32) (l : Nat → Nat → Int64) (c : Nat), fk_at c 8 → fk_ev (d + 1) qX11_learns 5 L (.int x0 :: .ref c :: []) (fk_E N y l) = (fk_ev d qX8_isLiving 0 [.ref c, .int x0] [] (fk_E N y l)).bind fun o => fk_ev (d + 1) qX11_learns 8 L (o.1.toList ++ []) o.2) ∧
  (∀ (d : Nat) (L : List Value) (x : Int32) (st : List Value) (h : fk_H), fk_ev d qX11_learns 8 L (.int x :: st) h = if x = nI 0 then fk_ev d qX11_learns 20 L st h else fk_ev d qX11_learns 11 L st h) ∧
  (∀ (d : Nat) (a0 a1 a3 : Value) (x : Int32) (st : List Value) (h : fk_H), fk_ev d qX11_learns 11 [a0, a1, .int x, a3] st h = fk_ev d qX11_learns 12 [a0, a1, .int x, a3] (.int x :: st) h) ∧
  (∀ (d : Nat) (L st : List Value) (h : fk_H), fk_ev d qX11_learns 12 L st h = fk_ev d qX11_learns 14 L (.int (nI 16) :: st) h) ∧
  (∀ (d : Nat) (L : List Value) (x0 : Int32) (x1 : Int32)  (h : fk_H), fk_ev (d + 1) qX11_learns 14 L (.int x1 :: .int x0 :: []) h = (fk_ev d qX11_within 0 [.int x0, .int x1] [] h).bind fun o => fk_ev (d + 1) qX11_learns 17 L (o.1.toList ++ []) o.2) ∧
  (∀ (d : Nat) (L : List Value) (x : Int32) (st : List Value) (h : fk_H), fk_ev d qX11_learns 17 L (.int x :: st) h = if ¬ x = nI 0 then fk_ev d qX11_learns 22 L st h else fk_ev d qX11_learns 20 L st h) ∧
  (∀ (d : Nat) (L st : List Value) (h : fk_H), fk_ev d qX11_learns 20 L st h = fk_ev d qX11_learns 21 L (.int (nI 0) :: st) h) ∧
  (∀ (d : Nat) (L : List Value) (h : fk_H), fk_ev d qX11_learns 21 L [.int (nI 0)] h = some (some (.int (nI 0)), h)) ∧
  (∀ (d : Nat) (L : List Value) (h : fk_H), fk_ev d qX11_learns 21 L [.int (nI 1)] h = some (some (.int (nI 1)), h)) ∧
  (∀ (d : Nat) (L : List Value) (p : Prop) [Decidable p] (h : fk_H), fk_ev d qX11_learns 21 L [.int (fk_b p)] h = some (some (.int (fk_b p)), h)) ∧
  (∀ (d : Nat) (L : List Value) (x : Int32) (h : fk_H), (x = nI 0 ∨ x = nI 1) → fk_ev d qX11_learns 21 L [.int x] h = some (some (.int x), h)) ∧
  (∀ (d : Nat) (a1 a2 a3 : Value) (x : Nat) (st : List Value) (h : fk_H), fk_ev d qX11_learns 22 [.ref x, a1, a2, a3] st h = fk_ev d qX11_learns 23 [.ref x, a1, a2, a3] (.ref x :: st) h) ∧
  (∀ (d : Nat) (L st : List Value) (N : Nat) (y : Nat → Nat → Int32) (l : Nat → Nat → Int64), fk_ev d qX11_learns 23 L (.ref 1 :: st) (fk_E N y l) = fk_ev d qX11_learns 26 L (.ref 33 :: st) (fk_E N y l)) ∧
  (∀ (d : Nat) (L st : List Value) (N : Nat) (y : Nat → Nat → Int32) (l : Nat → Nat → Int64) (c : Nat), fk_at c 8 → fk_ev d qX11_learns 26 L (.ref c :: st) (fk_E N y l) = fk_ev d qX11_learns 29 L (.ref (fk_cr c 0) :: st) (fk_E N y l)) ∧
  (∀ (d : Nat) (a0 a2 a3 : Value) (x : Int32) (st : List Value) (h : fk_H), fk_ev d qX11_learns 29 [a0, .int x, a2, a3] st h = fk_ev d qX11_learns 30 [a0, .int x, a2, a3] (.int x :: st) h) ∧
  (∀ (d : Nat) (L st : List Value) (N : Nat) (y : Nat → Nat → Int32) (l : Nat → Nat → Int64) (i : Nat), i < 64 → fk_ev d qX11_learns 30 L (.int (nI i) :: .ref 34 :: st) (fk_E N y l) = fk_ev d qX11_learns 31 L (.ref (34 + 2 + i) :: st) (fk_E N y l)) ∧
  (∀ (d : Nat) (a0 a1 a3 : Value) (x : Int32) (st : List Value) (h : fk_H), fk_ev d qX11_learns 31 [a0, a1, .int x, a3] st h = fk_ev d qX11_learns 32 [a0, a1, .int x, a3] (.int x :: st) h) ∧
  (∀ (d : Nat) (a0 a1 a2 : Value) (x : Int32) (st : List Value) (h : fk_H), fk_ev d qX11_learns 32 [a0, a1, a2, .int x] st h = fk_ev d qX11_learns 33 [a0, a1, a2, .int x] (.int x :: st) h) ∧
  (∀ (d : Nat) (L : List Value) (x0 : Int32) (x1 : Int32)  (N : Nat) (y : Nat → Nat → Int32) (l : Nat → Nat → Int64) (c : Nat), fk_at c 0 → fk_ev (d + 1) qX11_learns 33 L (.int x1 :: .int x0 :: .ref c :: []) (fk_E N y l) = (fk_ev d qX0_know 0 [.ref c, .int x0, .int x1, .null] [] (fk_E N y l)).bind fun o => fk_ev (d + 1) qX11_learns 36 L (o.1.toList ++ []) o.2) ∧
  (∀ (d : Nat) (L st : List Value) (h : fk_H), fk_ev d qX11_learns 36 L st h = fk_ev d qX11_learns 37 L (.int (nI 1) :: st) h) ∧
  (∀ (d : Nat) (L : List Value) (h : fk_H), fk_ev d qX11_learns 37 L [.int (nI 0)] h = some (some (.int (nI 0)), h)) ∧
  (∀ (d : Nat) (L : List Value) (h : fk_H), fk_ev d qX11_learns 37 L [.int (nI 1)] h = some (some (.int (nI 1)), h)) ∧
  (∀ (d : Nat) (L : List Value) (p : Prop) [Decidable p] (h : fk_H), fk_ev d qX11_learns 37 L [.int (fk_b p)] h = some (some (.int (fk_b p)), h)) ∧
  (∀ (d : Nat) (L : List Value) (x : Int32) (h : fk_H), (x = nI 0 ∨ x = nI 1) → fk_ev d qX11_learns 37 L [.int x] h = some (some (.int x), h)) := ⟨fun d a1 a2 a3 x st h => fk_w_aloadn 0 [.ref x, a1, a2, a3] dX11_learns_0 rfl,
  fun d L st N y l => fk_g_getC rfl lf_11_58 (by decide) rfl dX11_learns_1 fk_at_1,
  fun d a0 a2 a3 x st h => fk_w_iloadn 1 [a0, .int x, a2, a3] dX11_learns_4 rfl,
  fun d L x0 N y l c hc => fk_g_call [.int x0] [] rfl lm_11_135 dX11_learns_5 rfl ⟨rfl, by decide⟩ (by simp) hc,
  fun d L x st h => fk_r_if_eq dX11_learns_8 (by decide),
  fun d a0 a1 a3 x st h => fk_w_iloadn 2 [a0, a1, .int x, a3] dX11_learns_11 rfl,
  fun d L st h => fk_w_bipush dX11_learns_12 (by decide),
  fun d L x0 x1 h => fk_g_calls [.int x0, .int x1] [] rfl lm_11_110 dX11_learns_14 rfl ⟨rfl, by decide⟩ (by simp),
  fun d L x st h => fk_r_if_ne dX11_learns_17 (by decide),
  fun d L st h => fk_w_iconst dX11_learns_20 (by decide),
  fun d L h => fk_r_ret dX11_learns_21 (Or.inr (Or.inl ⟨rfl, by decide⟩)),
  fun d L h => fk_r_ret dX11_learns_21 (Or.inr (Or.inl ⟨rfl, by decide⟩)),
  fun d L p _ h => fk_r_ret dX11_learns_21 (Or.inr (Or.inl ⟨rfl, fk_b_01⟩)),
  fun d L x h hx => fk_r_ret dX11_learns_21 (Or.inr (Or.inl ⟨rfl, hx⟩)),
  fun d a1 a2 a3 x st h => fk_w_aloadn 0 [.ref x, a1, a2, a3] dX11_learns_22 rfl,
  fun d L st N y l => fk_g_getC rfl lf_11_58 (by decide) rfl dX11_learns_23 fk_at_1,
  fun d L st N y l c hc => fk_g_getC rfl lf_11_139 (by decide) rfl dX11_learns_26 hc,
  fun d a0 a2 a3 x st h => fk_w_iloadn 1 [a0, .int x, a2, a3] dX11_learns_29 rfl,
  fun d L st N y l i hi => fk_h_aald dX11_learns_30 fk_at_34 hi (by decide),
  fun d a0 a1 a3 x st h => fk_w_iloadn 2 [a0, a1, .int x, a3] dX11_learns_31 rfl,
  fun d a0 a1 a2 x st h => fk_w_iloadn 3 [a0, a1, a2, .int x] dX11_learns_32 rfl,
  fun d L x0 x1 N y l c hc => fk_g_call [.int x0, .int x1] [] rfl lm_11_143 dX11_learns_33 rfl ⟨rfl, by decide⟩ (by simp) hc,
  fun d L st h => fk_w_iconst dX11_learns_36 (by decide),
  fun d L h => fk_r_ret dX11_learns_37 (Or.inr (Or.inl ⟨rfl, by decide⟩)),
  fun d L h => fk_r_ret dX11_learns_37 (Or.inr (Or.inl ⟨rfl, by decide⟩)),
  fun d L p _ h => fk_r_ret dX11_learns_37 (Or.inr (Or.inl ⟨rfl, fk_b_01⟩)),
  fun d L x h hx => fk_r_ret dX11_learns_37 (Or.inr (Or.inl ⟨rfl, hx⟩))⟩
theorem dX11_owes_0 : decode cX11_owes 0 = .ok (.aload_n 0, 1) := by decide +kernel
theorem dX11_owes_1 : decode cX11_owes 1 = .ok (.getfield 58, 3) := by decide +kernel
theorem dX11_owes_4 : decode cX11_owes 4 = .ok (.iload_n 1, 1) := by decide +kernel
theorem dX11_owes_5 : decode cX11_owes 5 = .ok (.invokevirtual 135, 3) := by decide +kernel
theorem dX11_owes_8 : decode cX11_owes 8 = .ok (.ifCond .eq 13, 3) := by decide +kernel
theorem dX11_owes_11 : decode cX11_owes 11 = .ok (.iload_n 2, 1) := by decide +kernel
theorem dX11_owes_12 : decode cX11_owes 12 = .ok (.ifCond .lt 9, 3) := by decide +kernel
theorem dX11_owes_15 : decode cX11_owes 15 = .ok (.iload_n 2, 1) := by decide +kernel
theorem dX11_owes_16 : decode cX11_owes 16 = .ok (.ldc 149, 2) := by decide +kernel
theorem dX11_owes_18 : decode cX11_owes 18 = .ok (.if_icmp .le 5, 3) := by decide +kernel
theorem dX11_owes_21 : decode cX11_owes 21 = .ok (.iconst 0, 1) := by decide +kernel
theorem dX11_owes_22 : decode cX11_owes 22 = .ok (.ireturn, 1) := by decide +kernel
theorem dX11_owes_23 : decode cX11_owes 23 = .ok (.aload_n 0, 1) := by decide +kernel
theorem dX11_owes_24 : decode cX11_owes 24 = .ok (.getfield 58, 3) := by decide +kernel
theorem dX11_owes_27 : decode cX11_owes 27 = .ok (.getfield 139, 3) := by decide +kernel
theorem dX11_owes_30 : decode cX11_owes 30 = .ok (.iload_n 1, 1) := by decide +kernel
theorem dX11_owes_31 : decode cX11_owes 31 = .ok (.aaload, 1) := by decide +kernel
theorem dX11_owes_32 : decode cX11_owes 32 = .ok (.iload_n 2, 1) := by decide +kernel
theorem dX11_owes_33 : decode cX11_owes 33 = .ok (.putfield 150, 3) := by decide +kernel
theorem dX11_owes_36 : decode cX11_owes 36 = .ok (.iconst 1, 1) := by decide +kernel
theorem dX11_owes_37 : decode cX11_owes 37 = .ok (.ireturn, 1) := by decide +kernel
theorem rX11_owes : (∀ (d : Nat) (a1 a2 : Value) (x : Nat) (st : List Value) (h : fk_H), fk_ev d qX11_owes 0 [.ref x, a1, a2] st h = fk_ev d qX11_owes 1 [.ref x, a1, a2] (.ref x :: st) h) ∧
  (∀ (d : Nat) (L st : List Value) (N : Nat) (y : Nat → Nat → Int32) (l : Nat → Nat → Int64), fk_ev d qX11_owes 1 L (.ref 1 :: st) (fk_E N y l) = fk_ev d qX11_owes 4 L (.ref 33 :: st) (fk_E N y l)) ∧
  (∀ (d : Nat) (a0 a2 : Value) (x : Int32) (st : List Value) (h : fk_H), fk_ev d qX11_owes 4 [a0, .int x, a2] st h = fk_ev d qX11_owes 5 [a0, .int x, a2] (.int x :: st) h) ∧
  (∀ (d : Nat) (L : List Value) (x0 : Int32)  (N : Nat) (y : Nat → Nat → Int32) (l : Nat → Nat → Int64) (c : Nat), fk_at c 8 → fk_ev (d + 1) qX11_owes 5 L (.int x0 :: .ref c :: []) (fk_E N y l) = (fk_ev d qX8_isLiving 0 [.ref c, .int x0] [] (fk_E N y l)).bind fun o => fk_ev (d + 1) qX11_owes 8 L (o.1.toList ++ []) o.2) ∧
  (∀ (d : Nat) (L : List Value) (x : Int32) (st : List Value) (h : fk_H), fk_ev d qX11_owes 8 L (.int x :: st) h = if x = nI 0 then fk_ev d qX11_owes 21 L st h else fk_ev d qX11_owes 11 L st h) ∧
  (∀ (d : Nat) (a0 a1 : Value) (x : Int32) (st : List Value) (h : fk_H), fk_ev d qX11_owes 11 [a0, a1, .int x] st h = fk_ev d qX11_owes 12 [a0, a1, .int x] (.int x :: st) h) ∧
  (∀ (d : Nat) (L : List Value) (x : Int32) (st : List Value) (h : fk_H), fk_ev d qX11_owes 12 L (.int x :: st) h = if x < nI 0 then fk_ev d qX11_owes 21 L st h else fk_ev d qX11_owes 15 L st h) ∧
  (∀ (d : Nat) (a0 a1 : Value) (x : Int32) (st : List Value) (h : fk_H), fk_ev d qX11_owes 15 [a0, a1, .int x] st h = fk_ev d qX11_owes 16 [a0, a1, .int x] (.int x :: st) h) ∧
  (∀ (d : Nat) (L st : List Value) (h : fk_H), fk_ev d qX11_owes 16 L st h = fk_ev d qX11_owes 18 L (.int (nI 99999) :: st) h) ∧
  (∀ (d : Nat) (L : List Value) (x y : Int32) (st : List Value) (h : fk_H), fk_ev d qX11_owes 18 L (.int y :: .int x :: st) h = if x ≤ y then fk_ev d qX11_owes 23 L st h else fk_ev d qX11_owes 21 L st h) ∧
  (∀ (d : Nat) (L st : List Value) (h : fk_H), fk_ev d qX11_owes 21 L st h = fk_ev d qX11_owes 22 L (.int (nI 0) :: st) h) ∧
  (∀ (d : Nat) (L : List Value) (h : fk_H), fk_ev d qX11_owes 22 L [.int (nI 0)] h = some (some (.int (nI 0)), h)) ∧
  (∀ (d : Nat) (L : List Value) (h : fk_H), fk_ev d qX11_owes 22 L [.int (nI 1)] h = some (some (.int (nI 1)), h)) ∧
  (∀ (d : Nat) (L : List Value) (p : Prop) [Decidable p] (h : fk_H), fk_ev d qX11_owes 22 L [.int (fk_b p)] h = some (some (.int (fk_b p)), h)) ∧
  (∀ (d : Nat) (L : List Value) (x : Int32) (h : fk_H), (x = nI 0 ∨ x = nI 1) → fk_ev d qX11_owes 22 L [.int x] h = some (some (.int x), h)) ∧
  (∀ (d : Nat) (a1 a2 : Value) (x : Nat) (st : List Value) (h : fk_H), fk_ev d qX11_owes 23 [.ref x, a1, a2] st h = fk_ev d qX11_owes 24 [.ref x, a1, a2] (.ref x :: st) h) ∧
  (∀ (d : Nat) (L st : List Value) (N : Nat) (y : Nat → Nat → Int32) (l : Nat → Nat → Int64), fk_ev d qX11_owes 24 L (.ref 1 :: st) (fk_E N y l) = fk_ev d qX11_owes 27 L (.ref 33 :: st) (fk_E N y l)) ∧
  (∀ (d : Nat) (L st : List Value) (N : Nat) (y : Nat → Nat → Int32) (l : Nat → Nat → Int64) (c : Nat), fk_at c 8 → fk_ev d qX11_owes 27 L (.ref c :: st) (fk_E N y l) = fk_ev d qX11_owes 30 L (.ref (fk_cr c 0) :: st) (fk_E N y l)) ∧
  (∀ (d : Nat) (a0 a2 : Value) (x : Int32) (st : List Value) (h : fk_H), fk_ev d qX11_owes 30 [a0, .int x, a2] st h = fk_ev d qX11_owes 31 [a0, .int x, a2] (.int x :: st) h) ∧
  (∀ (d : Nat) (L st : List Value) (N : Nat) (y : Nat → Nat → Int32) (l : Nat → Nat → Int64) (i : Nat), i < 64 → fk_ev d qX11_owes 31 L (.int (nI i) :: .ref 34 :: st) (fk_E N y l) = fk_ev d qX11_owes 32 L (.ref (34 + 2 + i) :: st) (fk_E N y l)) ∧
  (∀ (d : Nat) (a0 a1 : Value) (x : Int32) (st : List Value) (h : fk_H), fk_ev d qX11_owes 32 [a0, a1, .int x] st h = fk_ev d qX11_owes 33 [a0, a1, .int x] (.int x :: st) h) ∧
  (∀ (d : Nat) (L st : List Value) (N : Nat) (y : Nat → Nat → Int32) (l : Nat → Nat → Int64) (c : Nat) (v : Int32), fk_at c 0 → fk_ev d qX11_owes 33 L (.int v :: .ref c :: st) (fk_E N y l) = fk_ev d qX11_owes 36 L st (fk_E N (fk_u y c 10 v) l)) ∧
  (∀ (d : Nat) (L st : List Value) (h : fk_H), fk_ev d qX11_owes 36 L st h = fk_ev d qX11_owes 37 L (.int (nI 1) :: st) h) ∧
  (∀ (d : Nat) (L : List Value) (h : fk_H), fk_ev d qX11_owes 37 L [.int (nI 0)] h = some (some (.int (nI 0)), h)) ∧
  (∀ (d : Nat) (L : List Value) (h : fk_H), fk_ev d qX11_owes 37 L [.int (nI 1)] h = some (some (.int (nI 1)), h)) ∧
  (∀ (d : Nat) (L : List Value) (p : Prop) [Decidable p] (h : fk_H), fk_ev d qX11_owes 37 L [.int (fk_b p)] h = some (some (.int (fk_b p)), h)) ∧
  (∀ (d : Nat) (L : List Value) (x : Int32) (h : fk_H), (x = nI 0 ∨ x = nI 1) → fk_ev d qX11_owes 37 L [.int x] h = some (some (.int x), h)) := ⟨fun d a1 a2 x st h => fk_w_aloadn 0 [.ref x, a1, a2] dX11_owes_0 rfl,
  fun d L st N y l => fk_g_getC rfl lf_11_58 (by decide) rfl dX11_owes_1 fk_at_1,
  fun d a0 a2 x st h => fk_w_iloadn 1 [a0, .int x, a2] dX11_owes_4 rfl,
  fun d L x0 N y l c hc => fk_g_call [.int x0] [] rfl lm_11_135 dX11_owes_5 rfl ⟨rfl, by decide⟩ (by simp) hc,
  fun d L x st h => fk_r_if_eq dX11_owes_8 (by decide),
  fun d a0 a1 x st h => fk_w_iloadn 2 [a0, a1, .int x] dX11_owes_11 rfl,
  fun d L x st h => fk_r_if_lt dX11_owes_12 (by decide),
  fun d a0 a1 x st h => fk_w_iloadn 2 [a0, a1, .int x] dX11_owes_15 rfl,
  fun d L st h => fk_g_ldc rfl lc_11_149 (by decide) dX11_owes_16,
  fun d L x y st h => fk_r_icmp_le dX11_owes_18 (by decide),
  fun d L st h => fk_w_iconst dX11_owes_21 (by decide),
  fun d L h => fk_r_ret dX11_owes_22 (Or.inr (Or.inl ⟨rfl, by decide⟩)),
  fun d L h => fk_r_ret dX11_owes_22 (Or.inr (Or.inl ⟨rfl, by decide⟩)),
  fun d L p _ h => fk_r_ret dX11_owes_22 (Or.inr (Or.inl ⟨rfl, fk_b_01⟩)),
  fun d L x h hx => fk_r_ret dX11_owes_22 (Or.inr (Or.inl ⟨rfl, hx⟩)),
  fun d a1 a2 x st h => fk_w_aloadn 0 [.ref x, a1, a2] dX11_owes_23 rfl,
  fun d L st N y l => fk_g_getC rfl lf_11_58 (by decide) rfl dX11_owes_24 fk_at_1,
  fun d L st N y l c hc => fk_g_getC rfl lf_11_139 (by decide) rfl dX11_owes_27 hc,
  fun d a0 a2 x st h => fk_w_iloadn 1 [a0, .int x, a2] dX11_owes_30 rfl,
  fun d L st N y l i hi => fk_h_aald dX11_owes_31 fk_at_34 hi (by decide),
  fun d a0 a1 x st h => fk_w_iloadn 2 [a0, a1, .int x] dX11_owes_32 rfl,
  fun d L st N y l c v hc => fk_g_putI rfl lf_11_150 (by decide) dX11_owes_33 rfl hc,
  fun d L st h => fk_w_iconst dX11_owes_36 (by decide),
  fun d L h => fk_r_ret dX11_owes_37 (Or.inr (Or.inl ⟨rfl, by decide⟩)),
  fun d L h => fk_r_ret dX11_owes_37 (Or.inr (Or.inl ⟨rfl, by decide⟩)),
  fun d L p _ h => fk_r_ret dX11_owes_37 (Or.inr (Or.inl ⟨rfl, fk_b_01⟩)),
  fun d L x h hx => fk_r_ret dX11_owes_37 (Or.inr (Or.inl ⟨rfl, hx⟩))⟩
theorem dX11_feed_0 : decode cX11_feed 0 = .ok (.aload_n 0, 1) := by decide +kernel
theorem dX11_feed_1 : decode cX11_feed 1 = .ok (.getfield 33, 3) := by decide +kernel
theorem dX11_feed_4 : decode cX11_feed 4 = .ok (.bipush 20, 2) := by decide +kernel
theorem dX11_feed_6 : decode cX11_feed 6 = .ok (.invokevirtual 153, 3) := by decide +kernel
theorem dX11_feed_9 : decode cX11_feed 9 = .ok (.ifCond .ne 5, 3) := by decide +kernel
theorem dX11_feed_12 : decode cX11_feed 12 = .ok (.iconst (-1), 1) := by decide +kernel
theorem dX11_feed_13 : decode cX11_feed 13 = .ok (.ireturn, 1) := by decide +kernel
theorem dX11_feed_14 : decode cX11_feed 14 = .ok (.aload_n 0, 1) := by decide +kernel
theorem dX11_feed_15 : decode cX11_feed 15 = .ok (.getfield 33, 3) := by decide +kernel
theorem dX11_feed_18 : decode cX11_feed 18 = .ok (.iload_n 1, 1) := by decide +kernel
theorem dX11_feed_19 : decode cX11_feed 19 = .ok (.invokevirtual 156, 3) := by decide +kernel
theorem dX11_feed_22 : decode cX11_feed 22 = .ok (.aload_n 0, 1) := by decide +kernel
theorem dX11_feed_23 : decode cX11_feed 23 = .ok (.getfield 33, 3) := by decide +kernel
theorem dX11_feed_26 : decode cX11_feed 26 = .ok (.iload_n 2, 1) := by decide +kernel
theorem dX11_feed_27 : decode cX11_feed 27 = .ok (.invokevirtual 156, 3) := by decide +kernel
theorem dX11_feed_30 : decode cX11_feed 30 = .ok (.aload_n 0, 1) := by decide +kernel
theorem dX11_feed_31 : decode cX11_feed 31 = .ok (.getfield 33, 3) := by decide +kernel
theorem dX11_feed_34 : decode cX11_feed 34 = .ok (.iload_n 3, 1) := by decide +kernel
theorem dX11_feed_35 : decode cX11_feed 35 = .ok (.invokevirtual 156, 3) := by decide +kernel
theorem dX11_feed_38 : decode cX11_feed 38 = .ok (.aload_n 0, 1) := by decide +kernel
theorem dX11_feed_39 : decode cX11_feed 39 = .ok (.getfield 33, 3) := by decide +kernel
theorem dX11_feed_42 : decode cX11_feed 42 = .ok (.iload 4, 2) := by decide +kernel
theorem dX11_feed_44 : decode cX11_feed 44 = .ok (.invokevirtual 156, 3) := by decide +kernel
theorem dX11_feed_47 : decode cX11_feed 47 = .ok (.aload_n 0, 1) := by decide +kernel
theorem dX11_feed_48 : decode cX11_feed 48 = .ok (.getfield 33, 3) := by decide +kernel
theorem dX11_feed_51 : decode cX11_feed 51 = .ok (.iload 5, 2) := by decide +kernel
theorem dX11_feed_53 : decode cX11_feed 53 = .ok (.invokevirtual 156, 3) := by decide +kernel
theorem dX11_feed_56 : decode cX11_feed 56 = .ok (.aload_n 0, 1) := by decide +kernel
theorem dX11_feed_57 : decode cX11_feed 57 = .ok (.getfield 33, 3) := by decide +kernel
theorem dX11_feed_60 : decode cX11_feed 60 = .ok (.getfield 160, 3) := by decide +kernel
theorem dX11_feed_63 : decode cX11_feed 63 = .ok (.ireturn, 1) := by decide +kernel
theorem rX11_feed : (∀ (d : Nat) (a1 a2 a3 a4 a5 : Value) (x : Nat) (st : List Value) (h : fk_H), fk_ev d qX11_feed 0 [.ref x, a1, a2, a3, a4, a5] st h = fk_ev d qX11_feed 1 [.ref x, a1, a2, a3, a4, a5] (.ref x :: st) h) ∧
  (∀ (d : Nat) (L st : List Value) (N : Nat) (y : Nat → Nat → Int32) (l : Nat → Nat → Int64), fk_ev d qX11_feed 1 L (.ref 1 :: st) (fk_E N y l) = fk_ev d qX11_feed 4 L (.ref 26 :: st) (fk_E N y l)) ∧
  (∀ (d : Nat) (L st : List Value) (h : fk_H), fk_ev d qX11_feed 4 L st h = fk_ev d qX11_feed 6 L (.int (nI 20) :: st) h) ∧
  (∀ (d : Nat) (L : List Value) (x0 : Int32)  (N : Nat) (y : Nat → Nat → Int32) (l : Nat → Nat → Int64), fk_ev (d + 1) qX11_feed 6 L (.int x0 :: .ref 26 :: []) (fk_E N y l) = (fk_ev d qX10_hasRoomFor 0 [.ref 26, .int x0] [] (fk_E N y l)).bind fun o => fk_ev (d + 1) qX11_feed 9 L (o.1.toList ++ []) o.2) ∧
  (∀ (d : Nat) (L : List Value) (x : Int32) (st : List Value) (h : fk_H), fk_ev d qX11_feed 9 L (.int x :: st) h = if ¬ x = nI 0 then fk_ev d qX11_feed 14 L st h else fk_ev d qX11_feed 12 L st h) ∧
  (∀ (d : Nat) (L st : List Value) (h : fk_H), fk_ev d qX11_feed 12 L st h = fk_ev d qX11_feed 13 L (.int ((-1 : Int32)) :: st) h) ∧
  (∀ (d : Nat) (L : List Value) (x : Int32) (h : fk_H), fk_ev d qX11_feed 13 L [.int x] h = some (some (.int x), h)) ∧
  (∀ (d : Nat) (a1 a2 a3 a4 a5 : Value) (x : Nat) (st : List Value) (h : fk_H), fk_ev d qX11_feed 14 [.ref x, a1, a2, a3, a4, a5] st h = fk_ev d qX11_feed 15 [.ref x, a1, a2, a3, a4, a5] (.ref x :: st) h) ∧
  (∀ (d : Nat) (L st : List Value) (N : Nat) (y : Nat → Nat → Int32) (l : Nat → Nat → Int64), fk_ev d qX11_feed 15 L (.ref 1 :: st) (fk_E N y l) = fk_ev d qX11_feed 18 L (.ref 26 :: st) (fk_E N y l)) ∧
  (∀ (d : Nat) (a0 a2 a3 a4 a5 : Value) (x : Int32) (st : List Value) (h : fk_H), fk_ev d qX11_feed 18 [a0, .int x, a2, a3, a4, a5] st h = fk_ev d qX11_feed 19 [a0, .int x, a2, a3, a4, a5] (.int x :: st) h) ∧
  (∀ (d : Nat) (L : List Value) (x0 : Int32)  (N : Nat) (y : Nat → Nat → Int32) (l : Nat → Nat → Int64), fk_ev (d + 1) qX11_feed 19 L (.int x0 :: .ref 26 :: []) (fk_E N y l) = (fk_ev d qX10_put 0 [.ref 26, .int x0, .null] [] (fk_E N y l)).bind fun o => fk_ev (d + 1) qX11_feed 22 L (o.1.toList ++ []) o.2) ∧
  (∀ (d : Nat) (a1 a2 a3 a4 a5 : Value) (x : Nat) (st : List Value) (h : fk_H), fk_ev d qX11_feed 22 [.ref x, a1, a2, a3, a4, a5] st h = fk_ev d qX11_feed 23 [.ref x, a1, a2, a3, a4, a5] (.ref x :: st) h) ∧
  (∀ (d : Nat) (L st : List Value) (N : Nat) (y : Nat → Nat → Int32) (l : Nat → Nat → Int64), fk_ev d qX11_feed 23 L (.ref 1 :: st) (fk_E N y l) = fk_ev d qX11_feed 26 L (.ref 26 :: st) (fk_E N y l)) ∧
  (∀ (d : Nat) (a0 a1 a3 a4 a5 : Value) (x : Int32) (st : List Value) (h : fk_H), fk_ev d qX11_feed 26 [a0, a1, .int x, a3, a4, a5] st h = fk_ev d qX11_feed 27 [a0, a1, .int x, a3, a4, a5] (.int x :: st) h) ∧
  (∀ (d : Nat) (L : List Value) (x0 : Int32)  (N : Nat) (y : Nat → Nat → Int32) (l : Nat → Nat → Int64), fk_ev (d + 1) qX11_feed 27 L (.int x0 :: .ref 26 :: []) (fk_E N y l) = (fk_ev d qX10_put 0 [.ref 26, .int x0, .null] [] (fk_E N y l)).bind fun o => fk_ev (d + 1) qX11_feed 30 L (o.1.toList ++ []) o.2) ∧
  (∀ (d : Nat) (a1 a2 a3 a4 a5 : Value) (x : Nat) (st : List Value) (h : fk_H), fk_ev d qX11_feed 30 [.ref x, a1, a2, a3, a4, a5] st h = fk_ev d qX11_feed 31 [.ref x, a1, a2, a3, a4, a5] (.ref x :: st) h) ∧
  (∀ (d : Nat) (L st : List Value) (N : Nat) (y : Nat → Nat → Int32) (l : Nat → Nat → Int64), fk_ev d qX11_feed 31 L (.ref 1 :: st) (fk_E N y l) = fk_ev d qX11_feed 34 L (.ref 26 :: st) (fk_E N y l)) ∧
  (∀ (d : Nat) (a0 a1 a2 a4 a5 : Value) (x : Int32) (st : List Value) (h : fk_H), fk_ev d qX11_feed 34 [a0, a1, a2, .int x, a4, a5] st h = fk_ev d qX11_feed 35 [a0, a1, a2, .int x, a4, a5] (.int x :: st) h) ∧
  (∀ (d : Nat) (L : List Value) (x0 : Int32)  (N : Nat) (y : Nat → Nat → Int32) (l : Nat → Nat → Int64), fk_ev (d + 1) qX11_feed 35 L (.int x0 :: .ref 26 :: []) (fk_E N y l) = (fk_ev d qX10_put 0 [.ref 26, .int x0, .null] [] (fk_E N y l)).bind fun o => fk_ev (d + 1) qX11_feed 38 L (o.1.toList ++ []) o.2) ∧
  (∀ (d : Nat) (a1 a2 a3 a4 a5 : Value) (x : Nat) (st : List Value) (h : fk_H), fk_ev d qX11_feed 38 [.ref x, a1, a2, a3, a4, a5] st h = fk_ev d qX11_feed 39 [.ref x, a1, a2, a3, a4, a5] (.ref x :: st) h) ∧
  (∀ (d : Nat) (L st : List Value) (N : Nat) (y : Nat → Nat → Int32) (l : Nat → Nat → Int64), fk_ev d qX11_feed 39 L (.ref 1 :: st) (fk_E N y l) = fk_ev d qX11_feed 42 L (.ref 26 :: st) (fk_E N y l)) ∧
  (∀ (d : Nat) (a0 a1 a2 a3 a5 : Value) (x : Int32) (st : List Value) (h : fk_H), fk_ev d qX11_feed 42 [a0, a1, a2, a3, .int x, a5] st h = fk_ev d qX11_feed 44 [a0, a1, a2, a3, .int x, a5] (.int x :: st) h) ∧
  (∀ (d : Nat) (L : List Value) (x0 : Int32)  (N : Nat) (y : Nat → Nat → Int32) (l : Nat → Nat → Int64), fk_ev (d + 1) qX11_feed 44 L (.int x0 :: .ref 26 :: []) (fk_E N y l) = (fk_ev d qX10_put 0 [.ref 26, .int x0, .null] [] (fk_E N y l)).bind fun o => fk_ev (d + 1) qX11_feed 47 L (o.1.toList ++ []) o.2) ∧
  (∀ (d : Nat) (a1 a2 a3 a4 a5 : Value) (x : Nat) (st : List Value) (h : fk_H), fk_ev d qX11_feed 47 [.ref x, a1, a2, a3, a4, a5] st h = fk_ev d qX11_feed 48 [.ref x, a1, a2, a3, a4, a5] (.ref x :: st) h) ∧
  (∀ (d : Nat) (L st : List Value) (N : Nat) (y : Nat → Nat → Int32) (l : Nat → Nat → Int64), fk_ev d qX11_feed 48 L (.ref 1 :: st) (fk_E N y l) = fk_ev d qX11_feed 51 L (.ref 26 :: st) (fk_E N y l)) ∧
  (∀ (d : Nat) (a0 a1 a2 a3 a4 : Value) (x : Int32) (st : List Value) (h : fk_H), fk_ev d qX11_feed 51 [a0, a1, a2, a3, a4, .int x] st h = fk_ev d qX11_feed 53 [a0, a1, a2, a3, a4, .int x] (.int x :: st) h) ∧
  (∀ (d : Nat) (L : List Value) (x0 : Int32)  (N : Nat) (y : Nat → Nat → Int32) (l : Nat → Nat → Int64), fk_ev (d + 1) qX11_feed 53 L (.int x0 :: .ref 26 :: []) (fk_E N y l) = (fk_ev d qX10_put 0 [.ref 26, .int x0, .null] [] (fk_E N y l)).bind fun o => fk_ev (d + 1) qX11_feed 56 L (o.1.toList ++ []) o.2) ∧
  (∀ (d : Nat) (a1 a2 a3 a4 a5 : Value) (x : Nat) (st : List Value) (h : fk_H), fk_ev d qX11_feed 56 [.ref x, a1, a2, a3, a4, a5] st h = fk_ev d qX11_feed 57 [.ref x, a1, a2, a3, a4, a5] (.ref x :: st) h) ∧
  (∀ (d : Nat) (L st : List Value) (N : Nat) (y : Nat → Nat → Int32) (l : Nat → Nat → Int64), fk_ev d qX11_feed 57 L (.ref 1 :: st) (fk_E N y l) = fk_ev d qX11_feed 60 L (.ref 26 :: st) (fk_E N y l)) ∧
  (∀ (d : Nat) (L st : List Value) (N : Nat) (y : Nat → Nat → Int32) (l : Nat → Nat → Int64), fk_ev d qX11_feed 60 L (.ref 26 :: st) (fk_E N y l) = fk_ev d qX11_feed 63 L (.int (y 26 1) :: st) (fk_E N y l)) ∧
  (∀ (d : Nat) (L : List Value) (x : Int32) (h : fk_H), fk_ev d qX11_feed 63 L [.int x] h = some (some (.int x), h)) := ⟨fun d a1 a2 a3 a4 a5 x st h => fk_w_aloadn 0 [.ref x, a1, a2, a3, a4, a5] dX11_feed_0 rfl,
  fun d L st N y l => fk_g_getC rfl lf_11_33 (by decide) rfl dX11_feed_1 fk_at_1,
  fun d L st h => fk_w_bipush dX11_feed_4 (by decide),
  fun d L x0 N y l  => fk_g_call [.int x0] [] rfl lm_11_153 dX11_feed_6 rfl ⟨rfl, by decide⟩ (by simp) fk_at_26,
  fun d L x st h => fk_r_if_ne dX11_feed_9 (by decide),
  fun d L st h => fk_w_iconst dX11_feed_12 (by decide),
  fun d L x h => fk_r_ret dX11_feed_13 (Or.inl rfl),
  fun d a1 a2 a3 a4 a5 x st h => fk_w_aloadn 0 [.ref x, a1, a2, a3, a4, a5] dX11_feed_14 rfl,
  fun d L st N y l => fk_g_getC rfl lf_11_33 (by decide) rfl dX11_feed_15 fk_at_1,
  fun d a0 a2 a3 a4 a5 x st h => fk_w_iloadn 1 [a0, .int x, a2, a3, a4, a5] dX11_feed_18 rfl,
  fun d L x0 N y l  => fk_g_call [.int x0] [] rfl lm_11_156 dX11_feed_19 rfl ⟨rfl, by decide⟩ (by simp) fk_at_26,
  fun d a1 a2 a3 a4 a5 x st h => fk_w_aloadn 0 [.ref x, a1, a2, a3, a4, a5] dX11_feed_22 rfl,
  fun d L st N y l => fk_g_getC rfl lf_11_33 (by decide) rfl dX11_feed_23 fk_at_1,
  fun d a0 a1 a3 a4 a5 x st h => fk_w_iloadn 2 [a0, a1, .int x, a3, a4, a5] dX11_feed_26 rfl,
  fun d L x0 N y l  => fk_g_call [.int x0] [] rfl lm_11_156 dX11_feed_27 rfl ⟨rfl, by decide⟩ (by simp) fk_at_26,
  fun d a1 a2 a3 a4 a5 x st h => fk_w_aloadn 0 [.ref x, a1, a2, a3, a4, a5] dX11_feed_30 rfl,
  fun d L st N y l => fk_g_getC rfl lf_11_33 (by decide) rfl dX11_feed_31 fk_at_1,
  fun d a0 a1 a2 a4 a5 x st h => fk_w_iloadn 3 [a0, a1, a2, .int x, a4, a5] dX11_feed_34 rfl,
  fun d L x0 N y l  => fk_g_call [.int x0] [] rfl lm_11_156 dX11_feed_35 rfl ⟨rfl, by decide⟩ (by simp) fk_at_26,
  fun d a1 a2 a3 a4 a5 x st h => fk_w_aloadn 0 [.ref x, a1, a2, a3, a4, a5] dX11_feed_38 rfl,
  fun d L st N y l => fk_g_getC rfl lf_11_33 (by decide) rfl dX11_feed_39 fk_at_1,
  fun d a0 a1 a2 a3 a5 x st h => fk_w_iload 4 [a0, a1, a2, a3, .int x, a5] dX11_feed_42 rfl,
  fun d L x0 N y l  => fk_g_call [.int x0] [] rfl lm_11_156 dX11_feed_44 rfl ⟨rfl, by decide⟩ (by simp) fk_at_26,
  fun d a1 a2 a3 a4 a5 x st h => fk_w_aloadn 0 [.ref x, a1, a2, a3, a4, a5] dX11_feed_47 rfl,
  fun d L st N y l => fk_g_getC rfl lf_11_33 (by decide) rfl dX11_feed_48 fk_at_1,
  fun d a0 a1 a2 a3 a4 x st h => fk_w_iload 5 [a0, a1, a2, a3, a4, .int x] dX11_feed_51 rfl,
  fun d L x0 N y l  => fk_g_call [.int x0] [] rfl lm_11_156 dX11_feed_53 rfl ⟨rfl, by decide⟩ (by simp) fk_at_26,
  fun d a1 a2 a3 a4 a5 x st h => fk_w_aloadn 0 [.ref x, a1, a2, a3, a4, a5] dX11_feed_56 rfl,
  fun d L st N y l => fk_g_getC rfl lf_11_33 (by decide) rfl dX11_feed_57 fk_at_1,
  fun d L st N y l => fk_g_getI rfl lf_11_160 (by decide) dX11_feed_60 fk_at_26,
  fun d L x h => fk_r_ret dX11_feed_63 (Or.inl rfl)⟩
theorem dX11_law_0 : decode cX11_law 0 = .ok (.iload_n 1, 1) := by decide +kernel
theorem dX11_law_1 : decode cX11_law 1 = .ok (.iconst 1, 1) := by decide +kernel
theorem dX11_law_2 : decode cX11_law 2 = .ok (.if_icmp .lt 21, 3) := by decide +kernel
theorem dX11_law_5 : decode cX11_law 5 = .ok (.iload_n 1, 1) := by decide +kernel
theorem dX11_law_6 : decode cX11_law 6 = .ok (.sipush 240, 3) := by decide +kernel
theorem dX11_law_9 : decode cX11_law 9 = .ok (.if_icmp .gt 14, 3) := by decide +kernel
theorem dX11_law_12 : decode cX11_law 12 = .ok (.iload_n 1, 1) := by decide +kernel
theorem dX11_law_13 : decode cX11_law 13 = .ok (.aload_n 0, 1) := by decide +kernel
theorem dX11_law_14 : decode cX11_law 14 = .ok (.getfield 33, 3) := by decide +kernel
theorem dX11_law_17 : decode cX11_law 17 = .ok (.getfield 160, 3) := by decide +kernel
theorem dX11_law_20 : decode cX11_law 20 = .ok (.if_icmp .le 5, 3) := by decide +kernel
theorem dX11_law_23 : decode cX11_law 23 = .ok (.iconst (-1), 1) := by decide +kernel
theorem dX11_law_24 : decode cX11_law 24 = .ok (.ireturn, 1) := by decide +kernel
theorem dX11_law_25 : decode cX11_law 25 = .ok (.aload_n 0, 1) := by decide +kernel
theorem dX11_law_26 : decode cX11_law 26 = .ok (.getfield 42, 3) := by decide +kernel
theorem dX11_law_29 : decode cX11_law 29 = .ok (.iload_n 1, 1) := by decide +kernel
theorem dX11_law_30 : decode cX11_law 30 = .ok (.aload_n 0, 1) := by decide +kernel
theorem dX11_law_31 : decode cX11_law 31 = .ok (.getfield 16, 3) := by decide +kernel
theorem dX11_law_34 : decode cX11_law 34 = .ok (.invokevirtual 163, 3) := by decide +kernel
theorem dX11_law_37 : decode cX11_law 37 = .ok (.istore_n 2, 1) := by decide +kernel
theorem dX11_law_38 : decode cX11_law 38 = .ok (.aload_n 0, 1) := by decide +kernel
theorem dX11_law_39 : decode cX11_law 39 = .ok (.getfield 33, 3) := by decide +kernel
theorem dX11_law_42 : decode cX11_law 42 = .ok (.invokevirtual 167, 3) := by decide +kernel
theorem dX11_law_45 : decode cX11_law 45 = .ok (.iload_n 2, 1) := by decide +kernel
theorem dX11_law_46 : decode cX11_law 46 = .ok (.ifCond .eq 5, 3) := by decide +kernel
theorem dX11_law_49 : decode cX11_law 49 = .ok (.iload_n 2, 1) := by decide +kernel
theorem dX11_law_50 : decode cX11_law 50 = .ok (.ireturn, 1) := by decide +kernel
theorem dX11_law_51 : decode cX11_law 51 = .ok (.aload_n 0, 1) := by decide +kernel
theorem dX11_law_52 : decode cX11_law 52 = .ok (.getfield 10, 3) := by decide +kernel
theorem dX11_law_55 : decode cX11_law 55 = .ok (.astore_n 3, 1) := by decide +kernel
theorem dX11_law_56 : decode cX11_law 56 = .ok (.aload_n 0, 1) := by decide +kernel
theorem dX11_law_57 : decode cX11_law 57 = .ok (.aload_n 0, 1) := by decide +kernel
theorem dX11_law_58 : decode cX11_law 58 = .ok (.getfield 16, 3) := by decide +kernel
theorem dX11_law_61 : decode cX11_law 61 = .ok (.putfield 10, 3) := by decide +kernel
theorem dX11_law_64 : decode cX11_law 64 = .ok (.aload_n 0, 1) := by decide +kernel
theorem dX11_law_65 : decode cX11_law 65 = .ok (.aload_n 3, 1) := by decide +kernel
theorem dX11_law_66 : decode cX11_law 66 = .ok (.putfield 16, 3) := by decide +kernel
theorem dX11_law_69 : decode cX11_law 69 = .ok (.aload_n 0, 1) := by decide +kernel
theorem dX11_law_70 : decode cX11_law 70 = .ok (.getfield 10, 3) := by decide +kernel
theorem dX11_law_73 : decode cX11_law 73 = .ok (.getfield 170, 3) := by decide +kernel
theorem dX11_law_76 : decode cX11_law 76 = .ok (.ireturn, 1) := by decide +kernel
theorem rX11_law : (∀ (d : Nat) (a0 a2 a3 : Value) (x : Int32) (st : List Value) (h : fk_H), fk_ev d qX11_law 0 [a0, .int x, a2, a3] st h = fk_ev d qX11_law 1 [a0, .int x, a2, a3] (.int x :: st) h) ∧
  (∀ (d : Nat) (L st : List Value) (h : fk_H), fk_ev d qX11_law 1 L st h = fk_ev d qX11_law 2 L (.int (nI 1) :: st) h) ∧
  (∀ (d : Nat) (L : List Value) (x y : Int32) (st : List Value) (h : fk_H), fk_ev d qX11_law 2 L (.int y :: .int x :: st) h = if x < y then fk_ev d qX11_law 23 L st h else fk_ev d qX11_law 5 L st h) ∧
  (∀ (d : Nat) (a0 a2 a3 : Value) (x : Int32) (st : List Value) (h : fk_H), fk_ev d qX11_law 5 [a0, .int x, a2, a3] st h = fk_ev d qX11_law 6 [a0, .int x, a2, a3] (.int x :: st) h) ∧
  (∀ (d : Nat) (L st : List Value) (h : fk_H), fk_ev d qX11_law 6 L st h = fk_ev d qX11_law 9 L (.int (nI 240) :: st) h) ∧
  (∀ (d : Nat) (L : List Value) (x y : Int32) (st : List Value) (h : fk_H), fk_ev d qX11_law 9 L (.int y :: .int x :: st) h = if y < x then fk_ev d qX11_law 23 L st h else fk_ev d qX11_law 12 L st h) ∧
  (∀ (d : Nat) (a0 a2 a3 : Value) (x : Int32) (st : List Value) (h : fk_H), fk_ev d qX11_law 12 [a0, .int x, a2, a3] st h = fk_ev d qX11_law 13 [a0, .int x, a2, a3] (.int x :: st) h) ∧
  (∀ (d : Nat) (a1 a2 a3 : Value) (x : Nat) (st : List Value) (h : fk_H), fk_ev d qX11_law 13 [.ref x, a1, a2, a3] st h = fk_ev d qX11_law 14 [.ref x, a1, a2, a3] (.ref x :: st) h) ∧
  (∀ (d : Nat) (L st : List Value) (N : Nat) (y : Nat → Nat → Int32) (l : Nat → Nat → Int64), fk_ev d qX11_law 14 L (.ref 1 :: st) (fk_E N y l) = fk_ev d qX11_law 17 L (.ref 26 :: st) (fk_E N y l)) ∧
  (∀ (d : Nat) (L st : List Value) (N : Nat) (y : Nat → Nat → Int32) (l : Nat → Nat → Int64), fk_ev d qX11_law 17 L (.ref 26 :: st) (fk_E N y l) = fk_ev d qX11_law 20 L (.int (y 26 1) :: st) (fk_E N y l)) ∧
  (∀ (d : Nat) (L : List Value) (x y : Int32) (st : List Value) (h : fk_H), fk_ev d qX11_law 20 L (.int y :: .int x :: st) h = if x ≤ y then fk_ev d qX11_law 25 L st h else fk_ev d qX11_law 23 L st h) ∧
  (∀ (d : Nat) (L st : List Value) (h : fk_H), fk_ev d qX11_law 23 L st h = fk_ev d qX11_law 24 L (.int ((-1 : Int32)) :: st) h) ∧
  (∀ (d : Nat) (L : List Value) (x : Int32) (h : fk_H), fk_ev d qX11_law 24 L [.int x] h = some (some (.int x), h)) ∧
  (∀ (d : Nat) (a1 a2 a3 : Value) (x : Nat) (st : List Value) (h : fk_H), fk_ev d qX11_law 25 [.ref x, a1, a2, a3] st h = fk_ev d qX11_law 26 [.ref x, a1, a2, a3] (.ref x :: st) h) ∧
  (∀ (d : Nat) (L st : List Value) (N : Nat) (y : Nat → Nat → Int32) (l : Nat → Nat → Int64), fk_ev d qX11_law 26 L (.ref 1 :: st) (fk_E N y l) = fk_ev d qX11_law 29 L (.ref 28 :: st) (fk_E N y l)) ∧
  (∀ (d : Nat) (a0 a2 a3 : Value) (x : Int32) (st : List Value) (h : fk_H), fk_ev d qX11_law 29 [a0, .int x, a2, a3] st h = fk_ev d qX11_law 30 [a0, .int x, a2, a3] (.int x :: st) h) ∧
  (∀ (d : Nat) (a1 a2 a3 : Value) (x : Nat) (st : List Value) (h : fk_H), fk_ev d qX11_law 30 [.ref x, a1, a2, a3] st h = fk_ev d qX11_law 31 [.ref x, a1, a2, a3] (.ref x :: st) h) ∧
  (∀ (d : Nat) (L st : List Value) (N : Nat) (y : Nat → Nat → Int32) (l : Nat → Nat → Int64), fk_ev d qX11_law 31 L (.ref 1 :: st) (fk_E N y l) = fk_ev d qX11_law 34 L (.ref (y 1 1).toNatClampNeg :: st) (fk_E N y l)) ∧
  (∀ (d : Nat) (L : List Value) (x0 : Int32) (x1 : Nat)  (N : Nat) (y : Nat → Nat → Int32) (l : Nat → Nat → Int64), fk_ev (d + 1) qX11_law 34 L (.ref x1 :: .int x0 :: .ref 28 :: []) (fk_E N y l) = (fk_ev d qX4_read 0 [.ref 28, .int x0, .ref x1, .null, .null] [] (fk_E N y l)).bind fun o => fk_ev (d + 1) qX11_law 37 L (o.1.toList ++ []) o.2) ∧
  (∀ (d : Nat) (a0 a1 a2 a3 : Value) (x : Int32) (st : List Value) (h : fk_H), fk_ev d qX11_law 37 [a0, a1, a2, a3] (.int x :: st) h = fk_ev d qX11_law 38 [a0, a1, .int x, a3] st h) ∧
  (∀ (d : Nat) (a1 a2 a3 : Value) (x : Nat) (st : List Value) (h : fk_H), fk_ev d qX11_law 38 [.ref x, a1, a2, a3] st h = fk_ev d qX11_law 39 [.ref x, a1, a2, a3] (.ref x :: st) h) ∧
  (∀ (d : Nat) (L st : List Value) (N : Nat) (y : Nat → Nat → Int32) (l : Nat → Nat → Int64), fk_ev d qX11_law 39 L (.ref 1 :: st) (fk_E N y l) = fk_ev d qX11_law 42 L (.ref 26 :: st) (fk_E N y l)) ∧
  (∀ (d : Nat) (L : List Value)   (N : Nat) (y : Nat → Nat → Int32) (l : Nat → Nat → Int64), fk_ev (d + 1) qX11_law 42 L (.ref 26 :: []) (fk_E N y l) = (fk_ev d qX10_clear 0 [.ref 26] [] (fk_E N y l)).bind fun o => fk_ev (d + 1) qX11_law 45 L (o.1.toList ++ []) o.2) ∧
  (∀ (d : Nat) (a0 a1 a3 : Value) (x : Int32) (st : List Value) (h : fk_H), fk_ev d qX11_law 45 [a0, a1, .int x, a3] st h = fk_ev d qX11_law 46 [a0, a1, .int x, a3] (.int x :: st) h) ∧
  (∀ (d : Nat) (L : List Value) (x : Int32) (st : List Value) (h : fk_H), fk_ev d qX11_law 46 L (.int x :: st) h = if x = nI 0 then fk_ev d qX11_law 51 L st h else fk_ev d qX11_law 49 L st h) ∧
  (∀ (d : Nat) (a0 a1 a3 : Value) (x : Int32) (st : List Value) (h : fk_H), fk_ev d qX11_law 49 [a0, a1, .int x, a3] st h = fk_ev d qX11_law 50 [a0, a1, .int x, a3] (.int x :: st) h) ∧
  (∀ (d : Nat) (L : List Value) (x : Int32) (h : fk_H), fk_ev d qX11_law 50 L [.int x] h = some (some (.int x), h)) ∧
  (∀ (d : Nat) (a1 a2 a3 : Value) (x : Nat) (st : List Value) (h : fk_H), fk_ev d qX11_law 51 [.ref x, a1, a2, a3] st h = fk_ev d qX11_law 52 [.ref x, a1, a2, a3] (.ref x :: st) h) ∧
  (∀ (d : Nat) (L st : List Value) (N : Nat) (y : Nat → Nat → Int32) (l : Nat → Nat → Int64), fk_ev d qX11_law 52 L (.ref 1 :: st) (fk_E N y l) = fk_ev d qX11_law 55 L (.ref (y 1 0).toNatClampNeg :: st) (fk_E N y l)) ∧
  (∀ (d : Nat) (a0 a1 a2 a3 : Value) (x : Nat) (st : List Value) (h : fk_H), fk_ev d qX11_law 55 [a0, a1, a2, a3] (.ref x :: st) h = fk_ev d qX11_law 56 [a0, a1, a2, .ref x] st h) ∧
  (∀ (d : Nat) (a1 a2 a3 : Value) (x : Nat) (st : List Value) (h : fk_H), fk_ev d qX11_law 56 [.ref x, a1, a2, a3] st h = fk_ev d qX11_law 57 [.ref x, a1, a2, a3] (.ref x :: st) h) ∧
  (∀ (d : Nat) (a1 a2 a3 : Value) (x : Nat) (st : List Value) (h : fk_H), fk_ev d qX11_law 57 [.ref x, a1, a2, a3] st h = fk_ev d qX11_law 58 [.ref x, a1, a2, a3] (.ref x :: st) h) ∧
  (∀ (d : Nat) (L st : List Value) (N : Nat) (y : Nat → Nat → Int32) (l : Nat → Nat → Int64), fk_ev d qX11_law 58 L (.ref 1 :: st) (fk_E N y l) = fk_ev d qX11_law 61 L (.ref (y 1 1).toNatClampNeg :: st) (fk_E N y l)) ∧
  (∀ (d : Nat) (L st : List Value) (N : Nat) (y : Nat → Nat → Int32) (l : Nat → Nat → Int64) (v : Nat), v < 2 ^ 31 → fk_ev d qX11_law 61 L (.ref v :: .ref 1 :: st) (fk_E N y l) = fk_ev d qX11_law 64 L st (fk_E N (fk_u y 1 0 (nI v)) l)) ∧
  (∀ (d : Nat) (a1 a2 a3 : Value) (x : Nat) (st : List Value) (h : fk_H), fk_ev d qX11_law 64 [.ref x, a1, a2, a3] st h = fk_ev d qX11_law 65 [.ref x, a1, a2, a3] (.ref x :: st) h) ∧
  (∀ (d : Nat) (a0 a1 a2 : Value) (x : Nat) (st : List Value) (h : fk_H), fk_ev d qX11_law 65 [a0, a1, a2, .ref x] st h = fk_ev d qX11_law 66 [a0, a1, a2, .ref x] (.ref x :: st) h) ∧
  (∀ (d : Nat) (L st : List Value) (N : Nat) (y : Nat → Nat → Int32) (l : Nat → Nat → Int64) (v : Nat), v < 2 ^ 31 → fk_ev d qX11_law 66 L (.ref v :: .ref 1 :: st) (fk_E N y l) = fk_ev d qX11_law 69 L st (fk_E N (fk_u y 1 1 (nI v)) l)) ∧
  (∀ (d : Nat) (a1 a2 a3 : Value) (x : Nat) (st : List Value) (h : fk_H), fk_ev d qX11_law 69 [.ref x, a1, a2, a3] st h = fk_ev d qX11_law 70 [.ref x, a1, a2, a3] (.ref x :: st) h) ∧
  (∀ (d : Nat) (L st : List Value) (N : Nat) (y : Nat → Nat → Int32) (l : Nat → Nat → Int64), fk_ev d qX11_law 70 L (.ref 1 :: st) (fk_E N y l) = fk_ev d qX11_law 73 L (.ref (y 1 0).toNatClampNeg :: st) (fk_E N y l)) ∧
  (∀ (d : Nat) (L st : List Value) (N : Nat) (y : Nat → Nat → Int32) (l : Nat → Nat → Int64) (c : Nat), fk_at c 3 → fk_ev d qX11_law 73 L (.ref c :: st) (fk_E N y l) = fk_ev d qX11_law 76 L (.int (y c 8) :: st) (fk_E N y l)) ∧
  (∀ (d : Nat) (L : List Value) (x : Int32) (h : fk_H), fk_ev d qX11_law 76 L [.int x] h = some (some (.int x), h)) := ⟨fun d a0 a2 a3 x st h => fk_w_iloadn 1 [a0, .int x, a2, a3] dX11_law_0 rfl,
  fun d L st h => fk_w_iconst dX11_law_1 (by decide),
  fun d L x y st h => fk_r_icmp_lt dX11_law_2 (by decide),
  fun d a0 a2 a3 x st h => fk_w_iloadn 1 [a0, .int x, a2, a3] dX11_law_5 rfl,
  fun d L st h => fk_w_sipush dX11_law_6 (by decide),
  fun d L x y st h => fk_r_icmp_gt dX11_law_9 (by decide),
  fun d a0 a2 a3 x st h => fk_w_iloadn 1 [a0, .int x, a2, a3] dX11_law_12 rfl,
  fun d a1 a2 a3 x st h => fk_w_aloadn 0 [.ref x, a1, a2, a3] dX11_law_13 rfl,
  fun d L st N y l => fk_g_getC rfl lf_11_33 (by decide) rfl dX11_law_14 fk_at_1,
  fun d L st N y l => fk_g_getI rfl lf_11_160 (by decide) dX11_law_17 fk_at_26,
  fun d L x y st h => fk_r_icmp_le dX11_law_20 (by decide),
  fun d L st h => fk_w_iconst dX11_law_23 (by decide),
  fun d L x h => fk_r_ret dX11_law_24 (Or.inl rfl),
  fun d a1 a2 a3 x st h => fk_w_aloadn 0 [.ref x, a1, a2, a3] dX11_law_25 rfl,
  fun d L st N y l => fk_g_getC rfl lf_11_42 (by decide) rfl dX11_law_26 fk_at_1,
  fun d a0 a2 a3 x st h => fk_w_iloadn 1 [a0, .int x, a2, a3] dX11_law_29 rfl,
  fun d a1 a2 a3 x st h => fk_w_aloadn 0 [.ref x, a1, a2, a3] dX11_law_30 rfl,
  fun d L st N y l => fk_g_getM rfl lf_11_16 (by decide) dX11_law_31 fk_at_1,
  fun d L x0 x1 N y l  => fk_g_call [.int x0, .ref x1] [] rfl lm_11_163 dX11_law_34 rfl ⟨rfl, by decide⟩ (by simp) fk_at_28,
  fun d a0 a1 a2 a3 x st h => fk_w_istoren 2 4 [] [a0, a1, a2, a3] [a0, a1, .int x, a3] dX11_law_37 rfl rfl (by decide) rfl,
  fun d a1 a2 a3 x st h => fk_w_aloadn 0 [.ref x, a1, a2, a3] dX11_law_38 rfl,
  fun d L st N y l => fk_g_getC rfl lf_11_33 (by decide) rfl dX11_law_39 fk_at_1,
  fun d L  N y l  => fk_g_call [] [] rfl lm_11_167 dX11_law_42 rfl ⟨rfl, by decide⟩ (by simp) fk_at_26,
  fun d a0 a1 a3 x st h => fk_w_iloadn 2 [a0, a1, .int x, a3] dX11_law_45 rfl,
  fun d L x st h => fk_r_if_eq dX11_law_46 (by decide),
  fun d a0 a1 a3 x st h => fk_w_iloadn 2 [a0, a1, .int x, a3] dX11_law_49 rfl,
  fun d L x h => fk_r_ret dX11_law_50 (Or.inl rfl),
  fun d a1 a2 a3 x st h => fk_w_aloadn 0 [.ref x, a1, a2, a3] dX11_law_51 rfl,
  fun d L st N y l => fk_g_getM rfl lf_11_10 (by decide) dX11_law_52 fk_at_1,
  fun d a0 a1 a2 a3 x st h => fk_w_astoren 3 4 [] [a0, a1, a2, a3] [a0, a1, a2, .ref x] dX11_law_55 rfl rfl (by decide) rfl,
  fun d a1 a2 a3 x st h => fk_w_aloadn 0 [.ref x, a1, a2, a3] dX11_law_56 rfl,
  fun d a1 a2 a3 x st h => fk_w_aloadn 0 [.ref x, a1, a2, a3] dX11_law_57 rfl,
  fun d L st N y l => fk_g_getM rfl lf_11_16 (by decide) dX11_law_58 fk_at_1,
  fun d L st N y l v hv => fk_g_putM rfl lf_11_10 (by decide) dX11_law_61 rfl hv fk_at_1,
  fun d a1 a2 a3 x st h => fk_w_aloadn 0 [.ref x, a1, a2, a3] dX11_law_64 rfl,
  fun d a0 a1 a2 x st h => fk_w_aloadn 3 [a0, a1, a2, .ref x] dX11_law_65 rfl,
  fun d L st N y l v hv => fk_g_putM rfl lf_11_16 (by decide) dX11_law_66 rfl hv fk_at_1,
  fun d a1 a2 a3 x st h => fk_w_aloadn 0 [.ref x, a1, a2, a3] dX11_law_69 rfl,
  fun d L st N y l => fk_g_getM rfl lf_11_10 (by decide) dX11_law_70 fk_at_1,
  fun d L st N y l c hc => fk_g_getI rfl lf_11_170 (by decide) dX11_law_73 hc,
  fun d L x h => fk_r_ret dX11_law_76 (Or.inl rfl)⟩
theorem dX11_hours_0 : decode cX11_hours 0 = .ok (.aload_n 0, 1) := by decide +kernel
theorem dX11_hours_1 : decode cX11_hours 1 = .ok (.iload_n 1, 1) := by decide +kernel
theorem dX11_hours_2 : decode cX11_hours 2 = .ok (.invokevirtual 173, 3) := by decide +kernel
theorem dX11_hours_5 : decode cX11_hours 5 = .ok (.ifCond .ne 5, 3) := by decide +kernel
theorem dX11_hours_8 : decode cX11_hours 8 = .ok (.iconst (-1), 1) := by decide +kernel
theorem dX11_hours_9 : decode cX11_hours 9 = .ok (.ireturn, 1) := by decide +kernel
theorem dX11_hours_10 : decode cX11_hours 10 = .ok (.aload_n 0, 1) := by decide +kernel
theorem dX11_hours_11 : decode cX11_hours 11 = .ok (.getfield 83, 3) := by decide +kernel
theorem dX11_hours_14 : decode cX11_hours 14 = .ok (.aload_n 0, 1) := by decide +kernel
theorem dX11_hours_15 : decode cX11_hours 15 = .ok (.getfield 58, 3) := by decide +kernel
theorem dX11_hours_18 : decode cX11_hours 18 = .ok (.aload_n 0, 1) := by decide +kernel
theorem dX11_hours_19 : decode cX11_hours 19 = .ok (.getfield 10, 3) := by decide +kernel
theorem dX11_hours_22 : decode cX11_hours 22 = .ok (.invokevirtual 176, 3) := by decide +kernel
theorem dX11_hours_25 : decode cX11_hours 25 = .ok (.iconst 0, 1) := by decide +kernel
theorem dX11_hours_26 : decode cX11_hours 26 = .ok (.istore_n 2, 1) := by decide +kernel
theorem dX11_hours_27 : decode cX11_hours 27 = .ok (.iload_n 2, 1) := by decide +kernel
theorem dX11_hours_28 : decode cX11_hours 28 = .ok (.iload_n 1, 1) := by decide +kernel
theorem dX11_hours_29 : decode cX11_hours 29 = .ok (.if_icmp .ge 27, 3) := by decide +kernel
theorem dX11_hours_32 : decode cX11_hours 32 = .ok (.aload_n 0, 1) := by decide +kernel
theorem dX11_hours_33 : decode cX11_hours 33 = .ok (.getfield 71, 3) := by decide +kernel
theorem dX11_hours_36 : decode cX11_hours 36 = .ok (.aload_n 0, 1) := by decide +kernel
theorem dX11_hours_37 : decode cX11_hours 37 = .ok (.getfield 58, 3) := by decide +kernel
theorem dX11_hours_40 : decode cX11_hours 40 = .ok (.invokevirtual 180, 3) := by decide +kernel
theorem dX11_hours_43 : decode cX11_hours 43 = .ok (.aload_n 0, 1) := by decide +kernel
theorem dX11_hours_44 : decode cX11_hours 44 = .ok (.getfield 83, 3) := by decide +kernel
theorem dX11_hours_47 : decode cX11_hours 47 = .ok (.invokevirtual 184, 3) := by decide +kernel
theorem dX11_hours_50 : decode cX11_hours 50 = .ok (.iinc 2 1, 3) := by decide +kernel
theorem dX11_hours_53 : decode cX11_hours 53 = .ok (.goto (-26), 3) := by decide +kernel
theorem dX11_hours_56 : decode cX11_hours 56 = .ok (.aload_n 0, 1) := by decide +kernel
theorem dX11_hours_57 : decode cX11_hours 57 = .ok (.getfield 58, 3) := by decide +kernel
theorem dX11_hours_60 : decode cX11_hours 60 = .ok (.invokevirtual 187, 3) := by decide +kernel
theorem dX11_hours_63 : decode cX11_hours 63 = .ok (.ireturn, 1) := by decide +kernel
theorem rX11_hours : (∀ (d : Nat) (a1 a2 : Value) (x : Nat) (st : List Value) (h : fk_H), fk_ev d qX11_hours 0 [.ref x, a1, a2] st h = fk_ev d qX11_hours 1 [.ref x, a1, a2] (.ref x :: st) h) ∧
  (∀ (d : Nat) (a0 a2 : Value) (x : Int32) (st : List Value) (h : fk_H), fk_ev d qX11_hours 1 [a0, .int x, a2] st h = fk_ev d qX11_hours 2 [a0, .int x, a2] (.int x :: st) h) ∧
  (∀ (d : Nat) (L : List Value) (x0 : Int32)  (N : Nat) (y : Nat → Nat → Int32) (l : Nat → Nat → Int64), fk_ev (d + 1) qX11_hours 2 L (.int x0 :: .ref 1 :: []) (fk_E N y l) = (fk_ev d qX11_canPass 0 [.ref 1, .int x0] [] (fk_E N y l)).bind fun o => fk_ev (d + 1) qX11_hours 5 L (o.1.toList ++ []) o.2) ∧
  (∀ (d : Nat) (L : List Value) (x : Int32) (st : List Value) (h : fk_H), fk_ev d qX11_hours 5 L (.int x :: st) h = if ¬ x = nI 0 then fk_ev d qX11_hours 10 L st h else fk_ev d qX11_hours 8 L st h) ∧
  (∀ (d : Nat) (L st : List Value) (h : fk_H), fk_ev d qX11_hours 8 L st h = fk_ev d qX11_hours 9 L (.int ((-1 : Int32)) :: st) h) ∧
  (∀ (d : Nat) (L : List Value) (x : Int32) (h : fk_H), fk_ev d qX11_hours 9 L [.int x] h = some (some (.int x), h)) ∧
  (∀ (d : Nat) (a1 a2 : Value) (x : Nat) (st : List Value) (h : fk_H), fk_ev d qX11_hours 10 [.ref x, a1, a2] st h = fk_ev d qX11_hours 11 [.ref x, a1, a2] (.ref x :: st) h) ∧
  (∀ (d : Nat) (L st : List Value) (N : Nat) (y : Nat → Nat → Int32) (l : Nat → Nat → Int64), fk_ev d qX11_hours 11 L (.ref 1 :: st) (fk_E N y l) = fk_ev d qX11_hours 14 L (.ref 238 :: st) (fk_E N y l)) ∧
  (∀ (d : Nat) (a1 a2 : Value) (x : Nat) (st : List Value) (h : fk_H), fk_ev d qX11_hours 14 [.ref x, a1, a2] st h = fk_ev d qX11_hours 15 [.ref x, a1, a2] (.ref x :: st) h) ∧
  (∀ (d : Nat) (L st : List Value) (N : Nat) (y : Nat → Nat → Int32) (l : Nat → Nat → Int64), fk_ev d qX11_hours 15 L (.ref 1 :: st) (fk_E N y l) = fk_ev d qX11_hours 18 L (.ref 33 :: st) (fk_E N y l)) ∧
  (∀ (d : Nat) (a1 a2 : Value) (x : Nat) (st : List Value) (h : fk_H), fk_ev d qX11_hours 18 [.ref x, a1, a2] st h = fk_ev d qX11_hours 19 [.ref x, a1, a2] (.ref x :: st) h) ∧
  (∀ (d : Nat) (L st : List Value) (N : Nat) (y : Nat → Nat → Int32) (l : Nat → Nat → Int64), fk_ev d qX11_hours 19 L (.ref 1 :: st) (fk_E N y l) = fk_ev d qX11_hours 22 L (.ref (y 1 0).toNatClampNeg :: st) (fk_E N y l)) ∧
  (∀ (d : Nat) (L : List Value) (x0 : Nat) (x1 : Nat)  (N : Nat) (y : Nat → Nat → Int32) (l : Nat → Nat → Int64), fk_ev (d + 1) qX11_hours 22 L (.ref x1 :: .ref x0 :: .ref 238 :: []) (fk_E N y l) = (fk_ev d qX6_begin 0 [.ref 238, .ref x0, .ref x1] [] (fk_E N y l)).bind fun o => fk_ev (d + 1) qX11_hours 25 L (o.1.toList ++ []) o.2) ∧
  (∀ (d : Nat) (L st : List Value) (h : fk_H), fk_ev d qX11_hours 25 L st h = fk_ev d qX11_hours 26 L (.int (nI 0) :: st) h) ∧
  (∀ (d : Nat) (a0 a1 a2 : Value) (x : Int32) (st : List Value) (h : fk_H), fk_ev d qX11_hours 26 [a0, a1, a2] (.int x :: st) h = fk_ev d qX11_hours 27 [a0, a1, .int x] st h) ∧
  (∀ (d : Nat) (a0 a2 : Value) (x : Int32) (st : List Value) (h : fk_H), fk_ev d qX11_hours 28 [a0, .int x, a2] st h = fk_ev d qX11_hours 29 [a0, .int x, a2] (.int x :: st) h) ∧
  (∀ (d : Nat) (L : List Value) (x y : Int32) (st : List Value) (h : fk_H), fk_ev d qX11_hours 29 L (.int y :: .int x :: st) h = if y ≤ x then fk_ev d qX11_hours 56 L st h else fk_ev d qX11_hours 32 L st h) ∧
  (∀ (d : Nat) (a1 a2 : Value) (x : Nat) (st : List Value) (h : fk_H), fk_ev d qX11_hours 32 [.ref x, a1, a2] st h = fk_ev d qX11_hours 33 [.ref x, a1, a2] (.ref x :: st) h) ∧
  (∀ (d : Nat) (L st : List Value) (N : Nat) (y : Nat → Nat → Int32) (l : Nat → Nat → Int64), fk_ev d qX11_hours 33 L (.ref 1 :: st) (fk_E N y l) = fk_ev d qX11_hours 36 L (.ref 234 :: st) (fk_E N y l)) ∧
  (∀ (d : Nat) (a1 a2 : Value) (x : Nat) (st : List Value) (h : fk_H), fk_ev d qX11_hours 36 [.ref x, a1, a2] st h = fk_ev d qX11_hours 37 [.ref x, a1, a2] (.ref x :: st) h) ∧
  (∀ (d : Nat) (L st : List Value) (N : Nat) (y : Nat → Nat → Int32) (l : Nat → Nat → Int64), fk_ev d qX11_hours 37 L (.ref 1 :: st) (fk_E N y l) = fk_ev d qX11_hours 40 L (.ref 33 :: st) (fk_E N y l)) ∧
  (∀ (d : Nat) (L : List Value) (x0 : Nat)  (N : Nat) (y : Nat → Nat → Int32) (l : Nat → Nat → Int64) (c : Nat), fk_at c 7 → fk_ev (d + 1) qX11_hours 40 L (.ref x0 :: .ref c :: []) (fk_E N y l) = (fk_ev d qX7_remember 0 [.ref c, .ref x0, .null, .null] [] (fk_E N y l)).bind fun o => fk_ev (d + 1) qX11_hours 43 L (o.1.toList ++ []) o.2) ∧
  (∀ (d : Nat) (a1 a2 : Value) (x : Nat) (st : List Value) (h : fk_H), fk_ev d qX11_hours 43 [.ref x, a1, a2] st h = fk_ev d qX11_hours 44 [.ref x, a1, a2] (.ref x :: st) h) ∧
  (∀ (d : Nat) (L st : List Value) (N : Nat) (y : Nat → Nat → Int32) (l : Nat → Nat → Int64), fk_ev d qX11_hours 44 L (.ref 1 :: st) (fk_E N y l) = fk_ev d qX11_hours 47 L (.ref 238 :: st) (fk_E N y l)) ∧
  (∀ (d : Nat) (L : List Value)   (N : Nat) (y : Nat → Nat → Int32) (l : Nat → Nat → Int64), fk_ev (d + 1) qX11_hours 47 L (.ref 238 :: []) (fk_E N y l) = (fk_ev d qX6_goBy 0 [.ref 238] [] (fk_E N y l)).bind fun o => fk_ev (d + 1) qX11_hours 50 L (o.1.toList ++ []) o.2) ∧
  (∀ (d : Nat) (a0 a1 : Value) (x : Int32) (st : List Value) (h : fk_H), fk_ev d qX11_hours 50 [a0, a1, .int x] st h = fk_ev d qX11_hours 53 [a0, a1, .int (x + nI 1)] st h) ∧
  (∀ (d : Nat) (L st : List Value) (h : fk_H), fk_ev d qX11_hours 53 L st h = fk_ev d qX11_hours 27 L st h) ∧
  (∀ (d : Nat) (a1 a2 : Value) (x : Nat) (st : List Value) (h : fk_H), fk_ev d qX11_hours 56 [.ref x, a1, a2] st h = fk_ev d qX11_hours 57 [.ref x, a1, a2] (.ref x :: st) h) ∧
  (∀ (d : Nat) (L st : List Value) (N : Nat) (y : Nat → Nat → Int32) (l : Nat → Nat → Int64), fk_ev d qX11_hours 57 L (.ref 1 :: st) (fk_E N y l) = fk_ev d qX11_hours 60 L (.ref 33 :: st) (fk_E N y l)) ∧
  (∀ (d : Nat) (L : List Value)   (N : Nat) (y : Nat → Nat → Int32) (l : Nat → Nat → Int64) (c : Nat), fk_at c 8 → fk_ev (d + 1) qX11_hours 60 L (.ref c :: []) (fk_E N y l) = (fk_ev d qX8_livingInAll 0 [.ref c] [] (fk_E N y l)).bind fun o => fk_ev (d + 1) qX11_hours 63 L (o.1.toList ++ []) o.2) ∧
  (∀ (d : Nat) (L : List Value) (x : Int32) (h : fk_H), fk_ev d qX11_hours 63 L [.int x] h = some (some (.int x), h)) := ⟨fun d a1 a2 x st h => fk_w_aloadn 0 [.ref x, a1, a2] dX11_hours_0 rfl,
  fun d a0 a2 x st h => fk_w_iloadn 1 [a0, .int x, a2] dX11_hours_1 rfl,
  fun d L x0 N y l  => fk_g_call [.int x0] [] rfl lm_11_173 dX11_hours_2 rfl ⟨rfl, by decide⟩ (by simp) fk_at_1,
  fun d L x st h => fk_r_if_ne dX11_hours_5 (by decide),
  fun d L st h => fk_w_iconst dX11_hours_8 (by decide),
  fun d L x h => fk_r_ret dX11_hours_9 (Or.inl rfl),
  fun d a1 a2 x st h => fk_w_aloadn 0 [.ref x, a1, a2] dX11_hours_10 rfl,
  fun d L st N y l => fk_g_getC rfl lf_11_83 (by decide) rfl dX11_hours_11 fk_at_1,
  fun d a1 a2 x st h => fk_w_aloadn 0 [.ref x, a1, a2] dX11_hours_14 rfl,
  fun d L st N y l => fk_g_getC rfl lf_11_58 (by decide) rfl dX11_hours_15 fk_at_1,
  fun d a1 a2 x st h => fk_w_aloadn 0 [.ref x, a1, a2] dX11_hours_18 rfl,
  fun d L st N y l => fk_g_getM rfl lf_11_10 (by decide) dX11_hours_19 fk_at_1,
  fun d L x0 x1 N y l  => fk_g_call [.ref x0, .ref x1] [] rfl lm_11_176 dX11_hours_22 rfl ⟨rfl, by decide⟩ (by simp) fk_at_238,
  fun d L st h => fk_w_iconst dX11_hours_25 (by decide),
  fun d a0 a1 a2 x st h => fk_w_istoren 2 3 [] [a0, a1, a2] [a0, a1, .int x] dX11_hours_26 rfl rfl (by decide) rfl,
  fun d a0 a2 x st h => fk_w_iloadn 1 [a0, .int x, a2] dX11_hours_28 rfl,
  fun d L x y st h => fk_r_icmp_ge dX11_hours_29 (by decide),
  fun d a1 a2 x st h => fk_w_aloadn 0 [.ref x, a1, a2] dX11_hours_32 rfl,
  fun d L st N y l => fk_g_getC rfl lf_11_71 (by decide) rfl dX11_hours_33 fk_at_1,
  fun d a1 a2 x st h => fk_w_aloadn 0 [.ref x, a1, a2] dX11_hours_36 rfl,
  fun d L st N y l => fk_g_getC rfl lf_11_58 (by decide) rfl dX11_hours_37 fk_at_1,
  fun d L x0 N y l c hc => fk_g_call [.ref x0] [] rfl lm_11_180 dX11_hours_40 rfl ⟨rfl, by decide⟩ (by simp) hc,
  fun d a1 a2 x st h => fk_w_aloadn 0 [.ref x, a1, a2] dX11_hours_43 rfl,
  fun d L st N y l => fk_g_getC rfl lf_11_83 (by decide) rfl dX11_hours_44 fk_at_1,
  fun d L  N y l  => fk_g_call [] [] rfl lm_11_184 dX11_hours_47 rfl ⟨rfl, by decide⟩ (by simp) fk_at_238,
  fun d a0 a1 x st h => fk_w_iinc 2 3 (1) [] [a0, a1, .int x] [a0, a1, .int (x + nI 1)] dX11_hours_50 rfl rfl rfl (by decide) rfl,
  fun d L st h => fk_r_goto dX11_hours_53 (by decide),
  fun d a1 a2 x st h => fk_w_aloadn 0 [.ref x, a1, a2] dX11_hours_56 rfl,
  fun d L st N y l => fk_g_getC rfl lf_11_58 (by decide) rfl dX11_hours_57 fk_at_1,
  fun d L  N y l c hc => fk_g_call [] [] rfl lm_11_187 dX11_hours_60 rfl ⟨rfl, by decide⟩ (by simp) hc,
  fun d L x h => fk_r_ret dX11_hours_63 (Or.inl rfl)⟩
theorem hX11_hours_27 : ∀ (d : Nat) (a0 a1 : Value) (x : Int32) (st : List Value) (h : fk_H), fk_ev d qX11_hours 27 [a0, a1, .int x] st h = fk_ev d qX11_hours 28 [a0, a1, .int x] (.int x :: st) h := fun d a0 a1 x st h => fk_w_iloadn 2 [a0, a1, .int x] dX11_hours_27 rfl
theorem dX11_tried_0 : decode cX11_tried 0 = .ok (.aload_n 0, 1) := by decide +kernel
theorem dX11_tried_1 : decode cX11_tried 1 = .ok (.iload_n 1, 1) := by decide +kernel
theorem dX11_tried_2 : decode cX11_tried 2 = .ok (.invokevirtual 173, 3) := by decide +kernel
theorem dX11_tried_5 : decode cX11_tried 5 = .ok (.ifCond .eq 10, 3) := by decide +kernel
theorem dX11_tried_8 : decode cX11_tried 8 = .ok (.iload_n 2, 1) := by decide +kernel
theorem dX11_tried_9 : decode cX11_tried 9 = .ok (.invokestatic 191, 3) := by decide +kernel
theorem dX11_tried_12 : decode cX11_tried 12 = .ok (.ifCond .ne 5, 3) := by decide +kernel
theorem dX11_tried_15 : decode cX11_tried 15 = .ok (.iconst (-1), 1) := by decide +kernel
theorem dX11_tried_16 : decode cX11_tried 16 = .ok (.ireturn, 1) := by decide +kernel
theorem dX11_tried_17 : decode cX11_tried 17 = .ok (.aload_n 0, 1) := by decide +kernel
theorem dX11_tried_18 : decode cX11_tried 18 = .ok (.getfield 65, 3) := by decide +kernel
theorem dX11_tried_21 : decode cX11_tried 21 = .ok (.aload_n 0, 1) := by decide +kernel
theorem dX11_tried_22 : decode cX11_tried 22 = .ok (.getfield 58, 3) := by decide +kernel
theorem dX11_tried_25 : decode cX11_tried 25 = .ok (.invokevirtual 194, 3) := by decide +kernel
theorem dX11_tried_28 : decode cX11_tried 28 = .ok (.aload_n 0, 1) := by decide +kernel
theorem dX11_tried_29 : decode cX11_tried 29 = .ok (.getfield 65, 3) := by decide +kernel
theorem dX11_tried_32 : decode cX11_tried 32 = .ok (.invokevirtual 197, 3) := by decide +kernel
theorem dX11_tried_35 : decode cX11_tried 35 = .ok (.aload_n 0, 1) := by decide +kernel
theorem dX11_tried_36 : decode cX11_tried 36 = .ok (.getfield 83, 3) := by decide +kernel
theorem dX11_tried_39 : decode cX11_tried 39 = .ok (.aload_n 0, 1) := by decide +kernel
theorem dX11_tried_40 : decode cX11_tried 40 = .ok (.getfield 65, 3) := by decide +kernel
theorem dX11_tried_43 : decode cX11_tried 43 = .ok (.aload_n 0, 1) := by decide +kernel
theorem dX11_tried_44 : decode cX11_tried 44 = .ok (.getfield 10, 3) := by decide +kernel
theorem dX11_tried_47 : decode cX11_tried 47 = .ok (.invokevirtual 176, 3) := by decide +kernel
theorem dX11_tried_50 : decode cX11_tried 50 = .ok (.iconst 0, 1) := by decide +kernel
theorem dX11_tried_51 : decode cX11_tried 51 = .ok (.istore_n 3, 1) := by decide +kernel
theorem dX11_tried_52 : decode cX11_tried 52 = .ok (.iload_n 3, 1) := by decide +kernel
theorem dX11_tried_53 : decode cX11_tried 53 = .ok (.iload_n 1, 1) := by decide +kernel
theorem dX11_tried_54 : decode cX11_tried 54 = .ok (.if_icmp .ge 16, 3) := by decide +kernel
theorem dX11_tried_57 : decode cX11_tried 57 = .ok (.aload_n 0, 1) := by decide +kernel
theorem dX11_tried_58 : decode cX11_tried 58 = .ok (.getfield 83, 3) := by decide +kernel
theorem dX11_tried_61 : decode cX11_tried 61 = .ok (.invokevirtual 184, 3) := by decide +kernel
theorem dX11_tried_64 : decode cX11_tried 64 = .ok (.iinc 3 1, 3) := by decide +kernel
theorem dX11_tried_67 : decode cX11_tried 67 = .ok (.goto (-15), 3) := by decide +kernel
theorem dX11_tried_70 : decode cX11_tried 70 = .ok (.iload_n 2, 1) := by decide +kernel
theorem dX11_tried_71 : decode cX11_tried 71 = .ok (.tableswitch 73 0 4 #[33, 41, 49, 57, 65], 33) := by decide +kernel
theorem dX11_tried_104 : decode cX11_tried 104 = .ok (.aload_n 0, 1) := by decide +kernel
theorem dX11_tried_105 : decode cX11_tried 105 = .ok (.getfield 65, 3) := by decide +kernel
theorem dX11_tried_108 : decode cX11_tried 108 = .ok (.invokevirtual 187, 3) := by decide +kernel
theorem dX11_tried_111 : decode cX11_tried 111 = .ok (.ireturn, 1) := by decide +kernel
theorem dX11_tried_112 : decode cX11_tried 112 = .ok (.aload_n 0, 1) := by decide +kernel
theorem dX11_tried_113 : decode cX11_tried 113 = .ok (.getfield 65, 3) := by decide +kernel
theorem dX11_tried_116 : decode cX11_tried 116 = .ok (.getfield 200, 3) := by decide +kernel
theorem dX11_tried_119 : decode cX11_tried 119 = .ok (.ireturn, 1) := by decide +kernel
theorem dX11_tried_120 : decode cX11_tried 120 = .ok (.aload_n 0, 1) := by decide +kernel
theorem dX11_tried_121 : decode cX11_tried 121 = .ok (.getfield 65, 3) := by decide +kernel
theorem dX11_tried_124 : decode cX11_tried 124 = .ok (.getfield 203, 3) := by decide +kernel
theorem dX11_tried_127 : decode cX11_tried 127 = .ok (.ireturn, 1) := by decide +kernel
theorem dX11_tried_128 : decode cX11_tried 128 = .ok (.aload_n 0, 1) := by decide +kernel
theorem dX11_tried_129 : decode cX11_tried 129 = .ok (.getfield 65, 3) := by decide +kernel
theorem dX11_tried_132 : decode cX11_tried 132 = .ok (.getfield 206, 3) := by decide +kernel
theorem dX11_tried_135 : decode cX11_tried 135 = .ok (.ireturn, 1) := by decide +kernel
theorem dX11_tried_136 : decode cX11_tried 136 = .ok (.aload_n 0, 1) := by decide +kernel
theorem dX11_tried_137 : decode cX11_tried 137 = .ok (.getfield 65, 3) := by decide +kernel
theorem dX11_tried_140 : decode cX11_tried 140 = .ok (.getfield 209, 3) := by decide +kernel
theorem dX11_tried_143 : decode cX11_tried 143 = .ok (.ireturn, 1) := by decide +kernel
theorem dX11_tried_144 : decode cX11_tried 144 = .ok (.aload_n 0, 1) := by decide +kernel
theorem dX11_tried_145 : decode cX11_tried 145 = .ok (.getfield 65, 3) := by decide +kernel
theorem dX11_tried_148 : decode cX11_tried 148 = .ok (.iload_n 2, 1) := by decide +kernel
theorem dX11_tried_149 : decode cX11_tried 149 = .ok (.bipush 10, 2) := by decide +kernel
theorem dX11_tried_151 : decode cX11_tried 151 = .ok (.irem, 1) := by decide +kernel
theorem dX11_tried_152 : decode cX11_tried 152 = .ok (.iload_n 2, 1) := by decide +kernel
theorem dX11_tried_153 : decode cX11_tried 153 = .ok (.bipush 10, 2) := by decide +kernel
theorem dX11_tried_155 : decode cX11_tried 155 = .ok (.idiv, 1) := by decide +kernel
theorem dX11_tried_156 : decode cX11_tried 156 = .ok (.invokevirtual 212, 3) := by decide +kernel
theorem dX11_tried_159 : decode cX11_tried 159 = .ok (.ireturn, 1) := by decide +kernel
theorem rX11_tried : (∀ (d : Nat) (a1 a2 a3 : Value) (x : Nat) (st : List Value) (h : fk_H), fk_ev d qX11_tried 0 [.ref x, a1, a2, a3] st h = fk_ev d qX11_tried 1 [.ref x, a1, a2, a3] (.ref x :: st) h) ∧
  (∀ (d : Nat) (a0 a2 a3 : Value) (x : Int32) (st : List Value) (h : fk_H), fk_ev d qX11_tried 1 [a0, .int x, a2, a3] st h = fk_ev d qX11_tried 2 [a0, .int x, a2, a3] (.int x :: st) h) ∧
  (∀ (d : Nat) (L : List Value) (x0 : Int32)  (N : Nat) (y : Nat → Nat → Int32) (l : Nat → Nat → Int64), fk_ev (d + 1) qX11_tried 2 L (.int x0 :: .ref 1 :: []) (fk_E N y l) = (fk_ev d qX11_canPass 0 [.ref 1, .int x0] [] (fk_E N y l)).bind fun o => fk_ev (d + 1) qX11_tried 5 L (o.1.toList ++ []) o.2) ∧
  (∀ (d : Nat) (L : List Value) (x : Int32) (st : List Value) (h : fk_H), fk_ev d qX11_tried 5 L (.int x :: st) h = if x = nI 0 then fk_ev d qX11_tried 15 L st h else fk_ev d qX11_tried 8 L st h) ∧
  (∀ (d : Nat) (a0 a1 a3 : Value) (x : Int32) (st : List Value) (h : fk_H), fk_ev d qX11_tried 8 [a0, a1, .int x, a3] st h = fk_ev d qX11_tried 9 [a0, a1, .int x, a3] (.int x :: st) h) ∧
  (∀ (d : Nat) (L : List Value) (x0 : Int32)  (h : fk_H), fk_ev (d + 1) qX11_tried 9 L (.int x0 :: []) h = (fk_ev d qX11_isTriable 0 [.int x0] [] h).bind fun o => fk_ev (d + 1) qX11_tried 12 L (o.1.toList ++ []) o.2) ∧
  (∀ (d : Nat) (L : List Value) (x : Int32) (st : List Value) (h : fk_H), fk_ev d qX11_tried 12 L (.int x :: st) h = if ¬ x = nI 0 then fk_ev d qX11_tried 17 L st h else fk_ev d qX11_tried 15 L st h) ∧
  (∀ (d : Nat) (L st : List Value) (h : fk_H), fk_ev d qX11_tried 15 L st h = fk_ev d qX11_tried 16 L (.int ((-1 : Int32)) :: st) h) ∧
  (∀ (d : Nat) (L : List Value) (x : Int32) (h : fk_H), fk_ev d qX11_tried 16 L [.int x] h = some (some (.int x), h)) ∧
  (∀ (d : Nat) (a1 a2 a3 : Value) (x : Nat) (st : List Value) (h : fk_H), fk_ev d qX11_tried 17 [.ref x, a1, a2, a3] st h = fk_ev d qX11_tried 18 [.ref x, a1, a2, a3] (.ref x :: st) h) ∧
  (∀ (d : Nat) (L st : List Value) (N : Nat) (y : Nat → Nat → Int32) (l : Nat → Nat → Int64), fk_ev d qX11_tried 18 L (.ref 1 :: st) (fk_E N y l) = fk_ev d qX11_tried 21 L (.ref 167 :: st) (fk_E N y l)) ∧
  (∀ (d : Nat) (a1 a2 a3 : Value) (x : Nat) (st : List Value) (h : fk_H), fk_ev d qX11_tried 21 [.ref x, a1, a2, a3] st h = fk_ev d qX11_tried 22 [.ref x, a1, a2, a3] (.ref x :: st) h) ∧
  (∀ (d : Nat) (L st : List Value) (N : Nat) (y : Nat → Nat → Int32) (l : Nat → Nat → Int64), fk_ev d qX11_tried 22 L (.ref 1 :: st) (fk_E N y l) = fk_ev d qX11_tried 25 L (.ref 33 :: st) (fk_E N y l)) ∧
  (∀ (d : Nat) (L : List Value) (x0 : Nat)  (N : Nat) (y : Nat → Nat → Int32) (l : Nat → Nat → Int64) (c : Nat), fk_at c 8 → fk_ev (d + 1) qX11_tried 25 L (.ref x0 :: .ref c :: []) (fk_E N y l) = (fk_ev d qX8_copyFrom 0 [.ref c, .ref x0, .null] [] (fk_E N y l)).bind fun o => fk_ev (d + 1) qX11_tried 28 L (o.1.toList ++ []) o.2) ∧
  (∀ (d : Nat) (a1 a2 a3 : Value) (x : Nat) (st : List Value) (h : fk_H), fk_ev d qX11_tried 28 [.ref x, a1, a2, a3] st h = fk_ev d qX11_tried 29 [.ref x, a1, a2, a3] (.ref x :: st) h) ∧
  (∀ (d : Nat) (L st : List Value) (N : Nat) (y : Nat → Nat → Int32) (l : Nat → Nat → Int64), fk_ev d qX11_tried 29 L (.ref 1 :: st) (fk_E N y l) = fk_ev d qX11_tried 32 L (.ref 167 :: st) (fk_E N y l)) ∧
  (∀ (d : Nat) (L : List Value)   (N : Nat) (y : Nat → Nat → Int32) (l : Nat → Nat → Int64) (c : Nat), fk_at c 8 → fk_ev (d + 1) qX11_tried 32 L (.ref c :: []) (fk_E N y l) = (fk_ev d qX8_clearTallies 0 [.ref c] [] (fk_E N y l)).bind fun o => fk_ev (d + 1) qX11_tried 35 L (o.1.toList ++ []) o.2) ∧
  (∀ (d : Nat) (a1 a2 a3 : Value) (x : Nat) (st : List Value) (h : fk_H), fk_ev d qX11_tried 35 [.ref x, a1, a2, a3] st h = fk_ev d qX11_tried 36 [.ref x, a1, a2, a3] (.ref x :: st) h) ∧
  (∀ (d : Nat) (L st : List Value) (N : Nat) (y : Nat → Nat → Int32) (l : Nat → Nat → Int64), fk_ev d qX11_tried 36 L (.ref 1 :: st) (fk_E N y l) = fk_ev d qX11_tried 39 L (.ref 238 :: st) (fk_E N y l)) ∧
  (∀ (d : Nat) (a1 a2 a3 : Value) (x : Nat) (st : List Value) (h : fk_H), fk_ev d qX11_tried 39 [.ref x, a1, a2, a3] st h = fk_ev d qX11_tried 40 [.ref x, a1, a2, a3] (.ref x :: st) h) ∧
  (∀ (d : Nat) (L st : List Value) (N : Nat) (y : Nat → Nat → Int32) (l : Nat → Nat → Int64), fk_ev d qX11_tried 40 L (.ref 1 :: st) (fk_E N y l) = fk_ev d qX11_tried 43 L (.ref 167 :: st) (fk_E N y l)) ∧
  (∀ (d : Nat) (a1 a2 a3 : Value) (x : Nat) (st : List Value) (h : fk_H), fk_ev d qX11_tried 43 [.ref x, a1, a2, a3] st h = fk_ev d qX11_tried 44 [.ref x, a1, a2, a3] (.ref x :: st) h) ∧
  (∀ (d : Nat) (L st : List Value) (N : Nat) (y : Nat → Nat → Int32) (l : Nat → Nat → Int64), fk_ev d qX11_tried 44 L (.ref 1 :: st) (fk_E N y l) = fk_ev d qX11_tried 47 L (.ref (y 1 0).toNatClampNeg :: st) (fk_E N y l)) ∧
  (∀ (d : Nat) (L : List Value) (x0 : Nat) (x1 : Nat)  (N : Nat) (y : Nat → Nat → Int32) (l : Nat → Nat → Int64), fk_ev (d + 1) qX11_tried 47 L (.ref x1 :: .ref x0 :: .ref 238 :: []) (fk_E N y l) = (fk_ev d qX6_begin 0 [.ref 238, .ref x0, .ref x1] [] (fk_E N y l)).bind fun o => fk_ev (d + 1) qX11_tried 50 L (o.1.toList ++ []) o.2) ∧
  (∀ (d : Nat) (L st : List Value) (h : fk_H), fk_ev d qX11_tried 50 L st h = fk_ev d qX11_tried 51 L (.int (nI 0) :: st) h) ∧
  (∀ (d : Nat) (a0 a1 a2 a3 : Value) (x : Int32) (st : List Value) (h : fk_H), fk_ev d qX11_tried 51 [a0, a1, a2, a3] (.int x :: st) h = fk_ev d qX11_tried 52 [a0, a1, a2, .int x] st h) ∧
  (∀ (d : Nat) (a0 a2 a3 : Value) (x : Int32) (st : List Value) (h : fk_H), fk_ev d qX11_tried 53 [a0, .int x, a2, a3] st h = fk_ev d qX11_tried 54 [a0, .int x, a2, a3] (.int x :: st) h) ∧
  (∀ (d : Nat) (L : List Value) (x y : Int32) (st : List Value) (h : fk_H), fk_ev d qX11_tried 54 L (.int y :: .int x :: st) h = if y ≤ x then fk_ev d qX11_tried 70 L st h else fk_ev d qX11_tried 57 L st h) ∧
  (∀ (d : Nat) (a1 a2 a3 : Value) (x : Nat) (st : List Value) (h : fk_H), fk_ev d qX11_tried 57 [.ref x, a1, a2, a3] st h = fk_ev d qX11_tried 58 [.ref x, a1, a2, a3] (.ref x :: st) h) ∧
  (∀ (d : Nat) (L st : List Value) (N : Nat) (y : Nat → Nat → Int32) (l : Nat → Nat → Int64), fk_ev d qX11_tried 58 L (.ref 1 :: st) (fk_E N y l) = fk_ev d qX11_tried 61 L (.ref 238 :: st) (fk_E N y l)) ∧
  (∀ (d : Nat) (L : List Value)   (N : Nat) (y : Nat → Nat → Int32) (l : Nat → Nat → Int64), fk_ev (d + 1) qX11_tried 61 L (.ref 238 :: []) (fk_E N y l) = (fk_ev d qX6_goBy 0 [.ref 238] [] (fk_E N y l)).bind fun o => fk_ev (d + 1) qX11_tried 64 L (o.1.toList ++ []) o.2) ∧
  (∀ (d : Nat) (a0 a1 a2 : Value) (x : Int32) (st : List Value) (h : fk_H), fk_ev d qX11_tried 64 [a0, a1, a2, .int x] st h = fk_ev d qX11_tried 67 [a0, a1, a2, .int (x + nI 1)] st h) ∧
  (∀ (d : Nat) (L st : List Value) (h : fk_H), fk_ev d qX11_tried 67 L st h = fk_ev d qX11_tried 52 L st h) ∧
  (∀ (d : Nat) (a0 a1 a3 : Value) (x : Int32) (st : List Value) (h : fk_H), fk_ev d qX11_tried 70 [a0, a1, .int x, a3] st h = fk_ev d qX11_tried 71 [a0, a1, .int x, a3] (.int x :: st) h) ∧
  (∀ (d : Nat) (L st : List Value) (h : fk_H), fk_ev d qX11_tried 71 L (.int (nI 0) :: st) h = fk_ev d qX11_tried 104 L st h) ∧
  (∀ (d : Nat) (L st : List Value) (h : fk_H), fk_ev d qX11_tried 71 L (.int (nI 1) :: st) h = fk_ev d qX11_tried 112 L st h) ∧
  (∀ (d : Nat) (L st : List Value) (h : fk_H), fk_ev d qX11_tried 71 L (.int (nI 2) :: st) h = fk_ev d qX11_tried 120 L st h) ∧
  (∀ (d : Nat) (L st : List Value) (h : fk_H), fk_ev d qX11_tried 71 L (.int (nI 3) :: st) h = fk_ev d qX11_tried 128 L st h) ∧
  (∀ (d : Nat) (L st : List Value) (h : fk_H), fk_ev d qX11_tried 71 L (.int (nI 4) :: st) h = fk_ev d qX11_tried 136 L st h) ∧
  (∀ (d : Nat) (L : List Value) (x : Int32) (st : List Value) (h : fk_H), (x.toInt < 0 ∨ 4 < x.toInt) → fk_ev d qX11_tried 71 L (.int x :: st) h = fk_ev d qX11_tried 144 L st h) ∧
  (∀ (d : Nat) (a1 a2 a3 : Value) (x : Nat) (st : List Value) (h : fk_H), fk_ev d qX11_tried 104 [.ref x, a1, a2, a3] st h = fk_ev d qX11_tried 105 [.ref x, a1, a2, a3] (.ref x :: st) h) ∧
  (∀ (d : Nat) (L st : List Value) (N : Nat) (y : Nat → Nat → Int32) (l : Nat → Nat → Int64), fk_ev d qX11_tried 105 L (.ref 1 :: st) (fk_E N y l) = fk_ev d qX11_tried 108 L (.ref 167 :: st) (fk_E N y l)) ∧
  (∀ (d : Nat) (L : List Value)   (N : Nat) (y : Nat → Nat → Int32) (l : Nat → Nat → Int64) (c : Nat), fk_at c 8 → fk_ev (d + 1) qX11_tried 108 L (.ref c :: []) (fk_E N y l) = (fk_ev d qX8_livingInAll 0 [.ref c] [] (fk_E N y l)).bind fun o => fk_ev (d + 1) qX11_tried 111 L (o.1.toList ++ []) o.2) ∧
  (∀ (d : Nat) (L : List Value) (x : Int32) (h : fk_H), fk_ev d qX11_tried 111 L [.int x] h = some (some (.int x), h)) ∧
  (∀ (d : Nat) (a1 a2 a3 : Value) (x : Nat) (st : List Value) (h : fk_H), fk_ev d qX11_tried 112 [.ref x, a1, a2, a3] st h = fk_ev d qX11_tried 113 [.ref x, a1, a2, a3] (.ref x :: st) h) ∧
  (∀ (d : Nat) (L st : List Value) (N : Nat) (y : Nat → Nat → Int32) (l : Nat → Nat → Int64), fk_ev d qX11_tried 113 L (.ref 1 :: st) (fk_E N y l) = fk_ev d qX11_tried 116 L (.ref 167 :: st) (fk_E N y l)) ∧
  (∀ (d : Nat) (L st : List Value) (N : Nat) (y : Nat → Nat → Int32) (l : Nat → Nat → Int64) (c : Nat), fk_at c 8 → fk_ev d qX11_tried 116 L (.ref c :: st) (fk_E N y l) = fk_ev d qX11_tried 119 L (.int (y c 5) :: st) (fk_E N y l)) ∧
  (∀ (d : Nat) (L : List Value) (x : Int32) (h : fk_H), fk_ev d qX11_tried 119 L [.int x] h = some (some (.int x), h)) ∧
  (∀ (d : Nat) (a1 a2 a3 : Value) (x : Nat) (st : List Value) (h : fk_H), fk_ev d qX11_tried 120 [.ref x, a1, a2, a3] st h = fk_ev d qX11_tried 121 [.ref x, a1, a2, a3] (.ref x :: st) h) ∧
  (∀ (d : Nat) (L st : List Value) (N : Nat) (y : Nat → Nat → Int32) (l : Nat → Nat → Int64), fk_ev d qX11_tried 121 L (.ref 1 :: st) (fk_E N y l) = fk_ev d qX11_tried 124 L (.ref 167 :: st) (fk_E N y l)) ∧
  (∀ (d : Nat) (L st : List Value) (N : Nat) (y : Nat → Nat → Int32) (l : Nat → Nat → Int64) (c : Nat), fk_at c 8 → fk_ev d qX11_tried 124 L (.ref c :: st) (fk_E N y l) = fk_ev d qX11_tried 127 L (.int (y c 6) :: st) (fk_E N y l)) ∧
  (∀ (d : Nat) (L : List Value) (x : Int32) (h : fk_H), fk_ev d qX11_tried 127 L [.int x] h = some (some (.int x), h)) ∧
  (∀ (d : Nat) (a1 a2 a3 : Value) (x : Nat) (st : List Value) (h : fk_H), fk_ev d qX11_tried 128 [.ref x, a1, a2, a3] st h = fk_ev d qX11_tried 129 [.ref x, a1, a2, a3] (.ref x :: st) h) ∧
  (∀ (d : Nat) (L st : List Value) (N : Nat) (y : Nat → Nat → Int32) (l : Nat → Nat → Int64), fk_ev d qX11_tried 129 L (.ref 1 :: st) (fk_E N y l) = fk_ev d qX11_tried 132 L (.ref 167 :: st) (fk_E N y l)) ∧
  (∀ (d : Nat) (L st : List Value) (N : Nat) (y : Nat → Nat → Int32) (l : Nat → Nat → Int64) (c : Nat), fk_at c 8 → fk_ev d qX11_tried 132 L (.ref c :: st) (fk_E N y l) = fk_ev d qX11_tried 135 L (.int (y c 7) :: st) (fk_E N y l)) ∧
  (∀ (d : Nat) (L : List Value) (x : Int32) (h : fk_H), fk_ev d qX11_tried 135 L [.int x] h = some (some (.int x), h)) ∧
  (∀ (d : Nat) (a1 a2 a3 : Value) (x : Nat) (st : List Value) (h : fk_H), fk_ev d qX11_tried 136 [.ref x, a1, a2, a3] st h = fk_ev d qX11_tried 137 [.ref x, a1, a2, a3] (.ref x :: st) h) ∧
  (∀ (d : Nat) (L st : List Value) (N : Nat) (y : Nat → Nat → Int32) (l : Nat → Nat → Int64), fk_ev d qX11_tried 137 L (.ref 1 :: st) (fk_E N y l) = fk_ev d qX11_tried 140 L (.ref 167 :: st) (fk_E N y l)) ∧
  (∀ (d : Nat) (L st : List Value) (N : Nat) (y : Nat → Nat → Int32) (l : Nat → Nat → Int64) (c : Nat), fk_at c 8 → fk_ev d qX11_tried 140 L (.ref c :: st) (fk_E N y l) = fk_ev d qX11_tried 143 L (.int (y c 8) :: st) (fk_E N y l)) ∧
  (∀ (d : Nat) (L : List Value) (x : Int32) (h : fk_H), fk_ev d qX11_tried 143 L [.int x] h = some (some (.int x), h)) ∧
  (∀ (d : Nat) (a1 a2 a3 : Value) (x : Nat) (st : List Value) (h : fk_H), fk_ev d qX11_tried 144 [.ref x, a1, a2, a3] st h = fk_ev d qX11_tried 145 [.ref x, a1, a2, a3] (.ref x :: st) h) ∧
  (∀ (d : Nat) (L st : List Value) (N : Nat) (y : Nat → Nat → Int32) (l : Nat → Nat → Int64), fk_ev d qX11_tried 145 L (.ref 1 :: st) (fk_E N y l) = fk_ev d qX11_tried 148 L (.ref 167 :: st) (fk_E N y l)) ∧
  (∀ (d : Nat) (a0 a1 a3 : Value) (x : Int32) (st : List Value) (h : fk_H), fk_ev d qX11_tried 148 [a0, a1, .int x, a3] st h = fk_ev d qX11_tried 149 [a0, a1, .int x, a3] (.int x :: st) h) ∧
  (∀ (d : Nat) (L st : List Value) (h : fk_H), fk_ev d qX11_tried 149 L st h = fk_ev d qX11_tried 151 L (.int (nI 10) :: st) h) ∧
  (∀ (d : Nat) (L : List Value) (x y : Int32) (st : List Value) (h : fk_H), fk_ev d qX11_tried 151 L (.int y :: .int x :: st) h = if y = 0 then none else fk_ev d qX11_tried 152 L (.int (x - x / y * y) :: st) h) ∧
  (∀ (d : Nat) (a0 a1 a3 : Value) (x : Int32) (st : List Value) (h : fk_H), fk_ev d qX11_tried 152 [a0, a1, .int x, a3] st h = fk_ev d qX11_tried 153 [a0, a1, .int x, a3] (.int x :: st) h) ∧
  (∀ (d : Nat) (L st : List Value) (h : fk_H), fk_ev d qX11_tried 153 L st h = fk_ev d qX11_tried 155 L (.int (nI 10) :: st) h) ∧
  (∀ (d : Nat) (L : List Value) (x y : Int32) (st : List Value) (h : fk_H), fk_ev d qX11_tried 155 L (.int y :: .int x :: st) h = if y = 0 then none else fk_ev d qX11_tried 156 L (.int (x / y) :: st) h) ∧
  (∀ (d : Nat) (L : List Value) (x0 : Int32) (x1 : Int32)  (N : Nat) (y : Nat → Nat → Int32) (l : Nat → Nat → Int64) (c : Nat), fk_at c 8 → fk_ev (d + 1) qX11_tried 156 L (.int x1 :: .int x0 :: .ref c :: []) (fk_E N y l) = (fk_ev d qX8_together 0 [.ref c, .int x0, .int x1, .null, .null, .null] [] (fk_E N y l)).bind fun o => fk_ev (d + 1) qX11_tried 159 L (o.1.toList ++ []) o.2) ∧
  (∀ (d : Nat) (L : List Value) (x : Int32) (h : fk_H), fk_ev d qX11_tried 159 L [.int x] h = some (some (.int x), h)) := ⟨fun d a1 a2 a3 x st h => fk_w_aloadn 0 [.ref x, a1, a2, a3] dX11_tried_0 rfl,
  fun d a0 a2 a3 x st h => fk_w_iloadn 1 [a0, .int x, a2, a3] dX11_tried_1 rfl,
  fun d L x0 N y l  => fk_g_call [.int x0] [] rfl lm_11_173 dX11_tried_2 rfl ⟨rfl, by decide⟩ (by simp) fk_at_1,
  fun d L x st h => fk_r_if_eq dX11_tried_5 (by decide),
  fun d a0 a1 a3 x st h => fk_w_iloadn 2 [a0, a1, .int x, a3] dX11_tried_8 rfl,
  fun d L x0 h => fk_g_calls [.int x0] [] rfl lm_11_191 dX11_tried_9 rfl ⟨rfl, by decide⟩ (by simp),
  fun d L x st h => fk_r_if_ne dX11_tried_12 (by decide),
  fun d L st h => fk_w_iconst dX11_tried_15 (by decide),
  fun d L x h => fk_r_ret dX11_tried_16 (Or.inl rfl),
  fun d a1 a2 a3 x st h => fk_w_aloadn 0 [.ref x, a1, a2, a3] dX11_tried_17 rfl,
  fun d L st N y l => fk_g_getC rfl lf_11_65 (by decide) rfl dX11_tried_18 fk_at_1,
  fun d a1 a2 a3 x st h => fk_w_aloadn 0 [.ref x, a1, a2, a3] dX11_tried_21 rfl,
  fun d L st N y l => fk_g_getC rfl lf_11_58 (by decide) rfl dX11_tried_22 fk_at_1,
  fun d L x0 N y l c hc => fk_g_call [.ref x0] [] rfl lm_11_194 dX11_tried_25 rfl ⟨rfl, by decide⟩ (by simp) hc,
  fun d a1 a2 a3 x st h => fk_w_aloadn 0 [.ref x, a1, a2, a3] dX11_tried_28 rfl,
  fun d L st N y l => fk_g_getC rfl lf_11_65 (by decide) rfl dX11_tried_29 fk_at_1,
  fun d L  N y l c hc => fk_g_call [] [] rfl lm_11_197 dX11_tried_32 rfl ⟨rfl, by decide⟩ (by simp) hc,
  fun d a1 a2 a3 x st h => fk_w_aloadn 0 [.ref x, a1, a2, a3] dX11_tried_35 rfl,
  fun d L st N y l => fk_g_getC rfl lf_11_83 (by decide) rfl dX11_tried_36 fk_at_1,
  fun d a1 a2 a3 x st h => fk_w_aloadn 0 [.ref x, a1, a2, a3] dX11_tried_39 rfl,
  fun d L st N y l => fk_g_getC rfl lf_11_65 (by decide) rfl dX11_tried_40 fk_at_1,
  fun d a1 a2 a3 x st h => fk_w_aloadn 0 [.ref x, a1, a2, a3] dX11_tried_43 rfl,
  fun d L st N y l => fk_g_getM rfl lf_11_10 (by decide) dX11_tried_44 fk_at_1,
  fun d L x0 x1 N y l  => fk_g_call [.ref x0, .ref x1] [] rfl lm_11_176 dX11_tried_47 rfl ⟨rfl, by decide⟩ (by simp) fk_at_238,
  fun d L st h => fk_w_iconst dX11_tried_50 (by decide),
  fun d a0 a1 a2 a3 x st h => fk_w_istoren 3 4 [] [a0, a1, a2, a3] [a0, a1, a2, .int x] dX11_tried_51 rfl rfl (by decide) rfl,
  fun d a0 a2 a3 x st h => fk_w_iloadn 1 [a0, .int x, a2, a3] dX11_tried_53 rfl,
  fun d L x y st h => fk_r_icmp_ge dX11_tried_54 (by decide),
  fun d a1 a2 a3 x st h => fk_w_aloadn 0 [.ref x, a1, a2, a3] dX11_tried_57 rfl,
  fun d L st N y l => fk_g_getC rfl lf_11_83 (by decide) rfl dX11_tried_58 fk_at_1,
  fun d L  N y l  => fk_g_call [] [] rfl lm_11_184 dX11_tried_61 rfl ⟨rfl, by decide⟩ (by simp) fk_at_238,
  fun d a0 a1 a2 x st h => fk_w_iinc 3 4 (1) [] [a0, a1, a2, .int x] [a0, a1, a2, .int (x + nI 1)] dX11_tried_64 rfl rfl rfl (by decide) rfl,
  fun d L st h => fk_r_goto dX11_tried_67 (by decide),
  fun d a0 a1 a3 x st h => fk_w_iloadn 2 [a0, a1, .int x, a3] dX11_tried_70 rfl,
  fun d L st h => fk_w_tab (0) (off := 33) dX11_tried_71 (by decide) (by decide) (by decide) (by decide),
  fun d L st h => fk_w_tab (1) (off := 41) dX11_tried_71 (by decide) (by decide) (by decide) (by decide),
  fun d L st h => fk_w_tab (2) (off := 49) dX11_tried_71 (by decide) (by decide) (by decide) (by decide),
  fun d L st h => fk_w_tab (3) (off := 57) dX11_tried_71 (by decide) (by decide) (by decide) (by decide),
  fun d L st h => fk_w_tab (4) (off := 65) dX11_tried_71 (by decide) (by decide) (by decide) (by decide),
  fun d L x st h hx => fk_w_tabo dX11_tried_71 hx (by decide),
  fun d a1 a2 a3 x st h => fk_w_aloadn 0 [.ref x, a1, a2, a3] dX11_tried_104 rfl,
  fun d L st N y l => fk_g_getC rfl lf_11_65 (by decide) rfl dX11_tried_105 fk_at_1,
  fun d L  N y l c hc => fk_g_call [] [] rfl lm_11_187 dX11_tried_108 rfl ⟨rfl, by decide⟩ (by simp) hc,
  fun d L x h => fk_r_ret dX11_tried_111 (Or.inl rfl),
  fun d a1 a2 a3 x st h => fk_w_aloadn 0 [.ref x, a1, a2, a3] dX11_tried_112 rfl,
  fun d L st N y l => fk_g_getC rfl lf_11_65 (by decide) rfl dX11_tried_113 fk_at_1,
  fun d L st N y l c hc => fk_g_getI rfl lf_11_200 (by decide) dX11_tried_116 hc,
  fun d L x h => fk_r_ret dX11_tried_119 (Or.inl rfl),
  fun d a1 a2 a3 x st h => fk_w_aloadn 0 [.ref x, a1, a2, a3] dX11_tried_120 rfl,
  fun d L st N y l => fk_g_getC rfl lf_11_65 (by decide) rfl dX11_tried_121 fk_at_1,
  fun d L st N y l c hc => fk_g_getI rfl lf_11_203 (by decide) dX11_tried_124 hc,
  fun d L x h => fk_r_ret dX11_tried_127 (Or.inl rfl),
  fun d a1 a2 a3 x st h => fk_w_aloadn 0 [.ref x, a1, a2, a3] dX11_tried_128 rfl,
  fun d L st N y l => fk_g_getC rfl lf_11_65 (by decide) rfl dX11_tried_129 fk_at_1,
  fun d L st N y l c hc => fk_g_getI rfl lf_11_206 (by decide) dX11_tried_132 hc,
  fun d L x h => fk_r_ret dX11_tried_135 (Or.inl rfl),
  fun d a1 a2 a3 x st h => fk_w_aloadn 0 [.ref x, a1, a2, a3] dX11_tried_136 rfl,
  fun d L st N y l => fk_g_getC rfl lf_11_65 (by decide) rfl dX11_tried_137 fk_at_1,
  fun d L st N y l c hc => fk_g_getI rfl lf_11_209 (by decide) dX11_tried_140 hc,
  fun d L x h => fk_r_ret dX11_tried_143 (Or.inl rfl),
  fun d a1 a2 a3 x st h => fk_w_aloadn 0 [.ref x, a1, a2, a3] dX11_tried_144 rfl,
  fun d L st N y l => fk_g_getC rfl lf_11_65 (by decide) rfl dX11_tried_145 fk_at_1,
  fun d a0 a1 a3 x st h => fk_w_iloadn 2 [a0, a1, .int x, a3] dX11_tried_148 rfl,
  fun d L st h => fk_w_bipush dX11_tried_149 (by decide),
  fun d L x y st h => fk_r_irem dX11_tried_151,
  fun d a0 a1 a3 x st h => fk_w_iloadn 2 [a0, a1, .int x, a3] dX11_tried_152 rfl,
  fun d L st h => fk_w_bipush dX11_tried_153 (by decide),
  fun d L x y st h => fk_r_idiv dX11_tried_155,
  fun d L x0 x1 N y l c hc => fk_g_call [.int x0, .int x1] [] rfl lm_11_212 dX11_tried_156 rfl ⟨rfl, by decide⟩ (by simp) hc,
  fun d L x h => fk_r_ret dX11_tried_159 (Or.inl rfl)⟩
theorem hX11_tried_52 : ∀ (d : Nat) (a0 a1 a2 : Value) (x : Int32) (st : List Value) (h : fk_H), fk_ev d qX11_tried 52 [a0, a1, a2, .int x] st h = fk_ev d qX11_tried 53 [a0, a1, a2, .int x] (.int x :: st) h := fun d a0 a1 a2 x st h => fk_w_iloadn 3 [a0, a1, a2, .int x] dX11_tried_52 rfl
theorem dX11_half_0 : decode cX11_half 0 = .ok (.aload_n 0, 1) := by decide +kernel
theorem dX11_half_1 : decode cX11_half 1 = .ok (.getfield 58, 3) := by decide +kernel
theorem dX11_half_4 : decode cX11_half 4 = .ok (.iload_n 1, 1) := by decide +kernel
theorem dX11_half_5 : decode cX11_half 5 = .ok (.invokevirtual 215, 3) := by decide +kernel
theorem dX11_half_8 : decode cX11_half 8 = .ok (.ifCond .ne 5, 3) := by decide +kernel
theorem dX11_half_11 : decode cX11_half 11 = .ok (.iconst (-1), 1) := by decide +kernel
theorem dX11_half_12 : decode cX11_half 12 = .ok (.ireturn, 1) := by decide +kernel
theorem dX11_half_13 : decode cX11_half 13 = .ok (.aload_n 0, 1) := by decide +kernel
theorem dX11_half_14 : decode cX11_half 14 = .ok (.getfield 58, 3) := by decide +kernel
theorem dX11_half_17 : decode cX11_half 17 = .ok (.getfield 139, 3) := by decide +kernel
theorem dX11_half_20 : decode cX11_half 20 = .ok (.iload_n 1, 1) := by decide +kernel
theorem dX11_half_21 : decode cX11_half 21 = .ok (.aaload, 1) := by decide +kernel
theorem dX11_half_22 : decode cX11_half 22 = .ok (.astore_n 3, 1) := by decide +kernel
theorem dX11_half_23 : decode cX11_half 23 = .ok (.iload_n 2, 1) := by decide +kernel
theorem dX11_half_24 : decode cX11_half 24 = .ok (.tableswitch 123 0 10 #[60, 65, 70, 75, 88, 93, 98, 103, 108, 113, 118], 60) := by decide +kernel
theorem dX11_half_84 : decode cX11_half 84 = .ok (.aload_n 3, 1) := by decide +kernel
theorem dX11_half_85 : decode cX11_half 85 = .ok (.getfield 218, 3) := by decide +kernel
theorem dX11_half_88 : decode cX11_half 88 = .ok (.ireturn, 1) := by decide +kernel
theorem dX11_half_89 : decode cX11_half 89 = .ok (.aload_n 3, 1) := by decide +kernel
theorem dX11_half_90 : decode cX11_half 90 = .ok (.getfield 221, 3) := by decide +kernel
theorem dX11_half_93 : decode cX11_half 93 = .ok (.ireturn, 1) := by decide +kernel
theorem dX11_half_94 : decode cX11_half 94 = .ok (.aload_n 3, 1) := by decide +kernel
theorem dX11_half_95 : decode cX11_half 95 = .ok (.getfield 224, 3) := by decide +kernel
theorem dX11_half_98 : decode cX11_half 98 = .ok (.ireturn, 1) := by decide +kernel
theorem dX11_half_99 : decode cX11_half 99 = .ok (.aload_n 3, 1) := by decide +kernel
theorem dX11_half_100 : decode cX11_half 100 = .ok (.getfield 227, 3) := by decide +kernel
theorem dX11_half_103 : decode cX11_half 103 = .ok (.ifCond .eq 7, 3) := by decide +kernel
theorem dX11_half_106 : decode cX11_half 106 = .ok (.iconst 1, 1) := by decide +kernel
theorem dX11_half_107 : decode cX11_half 107 = .ok (.goto 4, 3) := by decide +kernel
theorem dX11_half_110 : decode cX11_half 110 = .ok (.iconst 0, 1) := by decide +kernel
theorem dX11_half_111 : decode cX11_half 111 = .ok (.ireturn, 1) := by decide +kernel
theorem dX11_half_112 : decode cX11_half 112 = .ok (.aload_n 3, 1) := by decide +kernel
theorem dX11_half_113 : decode cX11_half 113 = .ok (.getfield 230, 3) := by decide +kernel
theorem dX11_half_116 : decode cX11_half 116 = .ok (.ireturn, 1) := by decide +kernel
theorem dX11_half_117 : decode cX11_half 117 = .ok (.aload_n 3, 1) := by decide +kernel
theorem dX11_half_118 : decode cX11_half 118 = .ok (.getfield 233, 3) := by decide +kernel
theorem dX11_half_121 : decode cX11_half 121 = .ok (.ireturn, 1) := by decide +kernel
theorem dX11_half_122 : decode cX11_half 122 = .ok (.aload_n 3, 1) := by decide +kernel
theorem dX11_half_123 : decode cX11_half 123 = .ok (.getfield 236, 3) := by decide +kernel
theorem dX11_half_126 : decode cX11_half 126 = .ok (.ireturn, 1) := by decide +kernel
theorem dX11_half_127 : decode cX11_half 127 = .ok (.aload_n 3, 1) := by decide +kernel
theorem dX11_half_128 : decode cX11_half 128 = .ok (.getfield 239, 3) := by decide +kernel
theorem dX11_half_131 : decode cX11_half 131 = .ok (.ireturn, 1) := by decide +kernel
theorem dX11_half_132 : decode cX11_half 132 = .ok (.aload_n 3, 1) := by decide +kernel
theorem dX11_half_133 : decode cX11_half 133 = .ok (.getfield 242, 3) := by decide +kernel
theorem dX11_half_136 : decode cX11_half 136 = .ok (.ireturn, 1) := by decide +kernel
theorem dX11_half_137 : decode cX11_half 137 = .ok (.aload_n 3, 1) := by decide +kernel
theorem dX11_half_138 : decode cX11_half 138 = .ok (.getfield 150, 3) := by decide +kernel
theorem dX11_half_141 : decode cX11_half 141 = .ok (.ireturn, 1) := by decide +kernel
theorem dX11_half_142 : decode cX11_half 142 = .ok (.aload_n 3, 1) := by decide +kernel
theorem dX11_half_143 : decode cX11_half 143 = .ok (.getfield 245, 3) := by decide +kernel
theorem dX11_half_146 : decode cX11_half 146 = .ok (.ireturn, 1) := by decide +kernel
theorem dX11_half_147 : decode cX11_half 147 = .ok (.iload_n 2, 1) := by decide +kernel
theorem dX11_half_148 : decode cX11_half 148 = .ok (.bipush 20, 2) := by decide +kernel
theorem dX11_half_150 : decode cX11_half 150 = .ok (.if_icmp .lt 20, 3) := by decide +kernel
theorem dX11_half_153 : decode cX11_half 153 = .ok (.iload_n 2, 1) := by decide +kernel
theorem dX11_half_154 : decode cX11_half 154 = .ok (.bipush 36, 2) := by decide +kernel
theorem dX11_half_156 : decode cX11_half 156 = .ok (.if_icmp .ge 14, 3) := by decide +kernel
theorem dX11_half_159 : decode cX11_half 159 = .ok (.aload_n 3, 1) := by decide +kernel
theorem dX11_half_160 : decode cX11_half 160 = .ok (.iload_n 2, 1) := by decide +kernel
theorem dX11_half_161 : decode cX11_half 161 = .ok (.bipush 20, 2) := by decide +kernel
theorem dX11_half_163 : decode cX11_half 163 = .ok (.isub, 1) := by decide +kernel
theorem dX11_half_164 : decode cX11_half 164 = .ok (.invokevirtual 248, 3) := by decide +kernel
theorem dX11_half_167 : decode cX11_half 167 = .ok (.goto 4, 3) := by decide +kernel
theorem dX11_half_170 : decode cX11_half 170 = .ok (.iconst (-1), 1) := by decide +kernel
theorem dX11_half_171 : decode cX11_half 171 = .ok (.ireturn, 1) := by decide +kernel
theorem rX11_half : (∀ (d : Nat) (a1 a2 a3 : Value) (x : Nat) (st : List Value) (h : fk_H), fk_ev d qX11_half 0 [.ref x, a1, a2, a3] st h = fk_ev d qX11_half 1 [.ref x, a1, a2, a3] (.ref x :: st) h) ∧
  (∀ (d : Nat) (L st : List Value) (N : Nat) (y : Nat → Nat → Int32) (l : Nat → Nat → Int64), fk_ev d qX11_half 1 L (.ref 1 :: st) (fk_E N y l) = fk_ev d qX11_half 4 L (.ref 33 :: st) (fk_E N y l)) ∧
  (∀ (d : Nat) (a0 a2 a3 : Value) (x : Int32) (st : List Value) (h : fk_H), fk_ev d qX11_half 4 [a0, .int x, a2, a3] st h = fk_ev d qX11_half 5 [a0, .int x, a2, a3] (.int x :: st) h) ∧
  (∀ (d : Nat) (L : List Value) (x0 : Int32)  (N : Nat) (y : Nat → Nat → Int32) (l : Nat → Nat → Int64) (c : Nat), fk_at c 8 → fk_ev (d + 1) qX11_half 5 L (.int x0 :: .ref c :: []) (fk_E N y l) = (fk_ev d qX8_hasBeen 0 [.ref c, .int x0] [] (fk_E N y l)).bind fun o => fk_ev (d + 1) qX11_half 8 L (o.1.toList ++ []) o.2) ∧
  (∀ (d : Nat) (L : List Value) (x : Int32) (st : List Value) (h : fk_H), fk_ev d qX11_half 8 L (.int x :: st) h = if ¬ x = nI 0 then fk_ev d qX11_half 13 L st h else fk_ev d qX11_half 11 L st h) ∧
  (∀ (d : Nat) (L st : List Value) (h : fk_H), fk_ev d qX11_half 11 L st h = fk_ev d qX11_half 12 L (.int ((-1 : Int32)) :: st) h) ∧
  (∀ (d : Nat) (L : List Value) (x : Int32) (h : fk_H), fk_ev d qX11_half 12 L [.int x] h = some (some (.int x), h)) ∧
  (∀ (d : Nat) (a1 a2 a3 : Value) (x : Nat) (st : List Value) (h : fk_H), fk_ev d qX11_half 13 [.ref x, a1, a2, a3] st h = fk_ev d qX11_half 14 [.ref x, a1, a2, a3] (.ref x :: st) h) ∧
  (∀ (d : Nat) (L st : List Value) (N : Nat) (y : Nat → Nat → Int32) (l : Nat → Nat → Int64), fk_ev d qX11_half 14 L (.ref 1 :: st) (fk_E N y l) = fk_ev d qX11_half 17 L (.ref 33 :: st) (fk_E N y l)) ∧
  (∀ (d : Nat) (L st : List Value) (N : Nat) (y : Nat → Nat → Int32) (l : Nat → Nat → Int64) (c : Nat), fk_at c 8 → fk_ev d qX11_half 17 L (.ref c :: st) (fk_E N y l) = fk_ev d qX11_half 20 L (.ref (fk_cr c 0) :: st) (fk_E N y l)) ∧
  (∀ (d : Nat) (a0 a2 a3 : Value) (x : Int32) (st : List Value) (h : fk_H), fk_ev d qX11_half 20 [a0, .int x, a2, a3] st h = fk_ev d qX11_half 21 [a0, .int x, a2, a3] (.int x :: st) h) ∧
  (∀ (d : Nat) (L st : List Value) (N : Nat) (y : Nat → Nat → Int32) (l : Nat → Nat → Int64) (i : Nat), i < 64 → fk_ev d qX11_half 21 L (.int (nI i) :: .ref 34 :: st) (fk_E N y l) = fk_ev d qX11_half 22 L (.ref (34 + 2 + i) :: st) (fk_E N y l)) ∧
  (∀ (d : Nat) (a0 a1 a2 a3 : Value) (x : Nat) (st : List Value) (h : fk_H), fk_ev d qX11_half 22 [a0, a1, a2, a3] (.ref x :: st) h = fk_ev d qX11_half 23 [a0, a1, a2, .ref x] st h) ∧
  (∀ (d : Nat) (a0 a1 a3 : Value) (x : Int32) (st : List Value) (h : fk_H), fk_ev d qX11_half 23 [a0, a1, .int x, a3] st h = fk_ev d qX11_half 24 [a0, a1, .int x, a3] (.int x :: st) h) ∧
  (∀ (d : Nat) (L st : List Value) (h : fk_H), fk_ev d qX11_half 24 L (.int (nI 0) :: st) h = fk_ev d qX11_half 84 L st h) ∧
  (∀ (d : Nat) (L st : List Value) (h : fk_H), fk_ev d qX11_half 24 L (.int (nI 1) :: st) h = fk_ev d qX11_half 89 L st h) ∧
  (∀ (d : Nat) (L st : List Value) (h : fk_H), fk_ev d qX11_half 24 L (.int (nI 2) :: st) h = fk_ev d qX11_half 94 L st h) ∧
  (∀ (d : Nat) (L st : List Value) (h : fk_H), fk_ev d qX11_half 24 L (.int (nI 3) :: st) h = fk_ev d qX11_half 99 L st h) ∧
  (∀ (d : Nat) (L st : List Value) (h : fk_H), fk_ev d qX11_half 24 L (.int (nI 4) :: st) h = fk_ev d qX11_half 112 L st h) ∧
  (∀ (d : Nat) (L st : List Value) (h : fk_H), fk_ev d qX11_half 24 L (.int (nI 5) :: st) h = fk_ev d qX11_half 117 L st h) ∧
  (∀ (d : Nat) (L st : List Value) (h : fk_H), fk_ev d qX11_half 24 L (.int (nI 6) :: st) h = fk_ev d qX11_half 122 L st h) ∧
  (∀ (d : Nat) (L st : List Value) (h : fk_H), fk_ev d qX11_half 24 L (.int (nI 7) :: st) h = fk_ev d qX11_half 127 L st h) ∧
  (∀ (d : Nat) (L st : List Value) (h : fk_H), fk_ev d qX11_half 24 L (.int (nI 8) :: st) h = fk_ev d qX11_half 132 L st h) ∧
  (∀ (d : Nat) (L st : List Value) (h : fk_H), fk_ev d qX11_half 24 L (.int (nI 9) :: st) h = fk_ev d qX11_half 137 L st h) ∧
  (∀ (d : Nat) (L st : List Value) (h : fk_H), fk_ev d qX11_half 24 L (.int (nI 10) :: st) h = fk_ev d qX11_half 142 L st h) ∧
  (∀ (d : Nat) (L : List Value) (x : Int32) (st : List Value) (h : fk_H), (x.toInt < 0 ∨ 10 < x.toInt) → fk_ev d qX11_half 24 L (.int x :: st) h = fk_ev d qX11_half 147 L st h) ∧
  (∀ (d : Nat) (a0 a1 a2 : Value) (x : Nat) (st : List Value) (h : fk_H), fk_ev d qX11_half 84 [a0, a1, a2, .ref x] st h = fk_ev d qX11_half 85 [a0, a1, a2, .ref x] (.ref x :: st) h) ∧
  (∀ (d : Nat) (L st : List Value) (N : Nat) (y : Nat → Nat → Int32) (l : Nat → Nat → Int64) (c : Nat), fk_at c 0 → fk_ev d qX11_half 85 L (.ref c :: st) (fk_E N y l) = fk_ev d qX11_half 88 L (.int (y c 1) :: st) (fk_E N y l)) ∧
  (∀ (d : Nat) (L : List Value) (x : Int32) (h : fk_H), fk_ev d qX11_half 88 L [.int x] h = some (some (.int x), h)) ∧
  (∀ (d : Nat) (a0 a1 a2 : Value) (x : Nat) (st : List Value) (h : fk_H), fk_ev d qX11_half 89 [a0, a1, a2, .ref x] st h = fk_ev d qX11_half 90 [a0, a1, a2, .ref x] (.ref x :: st) h) ∧
  (∀ (d : Nat) (L st : List Value) (N : Nat) (y : Nat → Nat → Int32) (l : Nat → Nat → Int64) (c : Nat), fk_at c 0 → fk_ev d qX11_half 90 L (.ref c :: st) (fk_E N y l) = fk_ev d qX11_half 93 L (.int (y c 2) :: st) (fk_E N y l)) ∧
  (∀ (d : Nat) (L : List Value) (x : Int32) (h : fk_H), fk_ev d qX11_half 93 L [.int x] h = some (some (.int x), h)) ∧
  (∀ (d : Nat) (a0 a1 a2 : Value) (x : Nat) (st : List Value) (h : fk_H), fk_ev d qX11_half 94 [a0, a1, a2, .ref x] st h = fk_ev d qX11_half 95 [a0, a1, a2, .ref x] (.ref x :: st) h) ∧
  (∀ (d : Nat) (L st : List Value) (N : Nat) (y : Nat → Nat → Int32) (l : Nat → Nat → Int64) (c : Nat), fk_at c 0 → fk_ev d qX11_half 95 L (.ref c :: st) (fk_E N y l) = fk_ev d qX11_half 98 L (.int (y c 3) :: st) (fk_E N y l)) ∧
  (∀ (d : Nat) (L : List Value) (x : Int32) (h : fk_H), fk_ev d qX11_half 98 L [.int x] h = some (some (.int x), h)) ∧
  (∀ (d : Nat) (a0 a1 a2 : Value) (x : Nat) (st : List Value) (h : fk_H), fk_ev d qX11_half 99 [a0, a1, a2, .ref x] st h = fk_ev d qX11_half 100 [a0, a1, a2, .ref x] (.ref x :: st) h) ∧
  (∀ (d : Nat) (L st : List Value) (N : Nat) (y : Nat → Nat → Int32) (l : Nat → Nat → Int64) (c : Nat), fk_at c 0 → fk_ev d qX11_half 100 L (.ref c :: st) (fk_E N y l) = fk_ev d qX11_half 103 L (.int (y c 4) :: st) (fk_E N y l)) ∧
  (∀ (d : Nat) (L : List Value) (x : Int32) (st : List Value) (h : fk_H), fk_ev d qX11_half 103 L (.int x :: st) h = if x = nI 0 then fk_ev d qX11_half 110 L st h else fk_ev d qX11_half 106 L st h) ∧
  (∀ (d : Nat) (L st : List Value) (h : fk_H), fk_ev d qX11_half 106 L st h = fk_ev d qX11_half 107 L (.int (nI 1) :: st) h) ∧
  (∀ (d : Nat) (L st : List Value) (h : fk_H), fk_ev d qX11_half 107 L st h = fk_ev d qX11_half 111 L st h) ∧
  (∀ (d : Nat) (L st : List Value) (h : fk_H), fk_ev d qX11_half 110 L st h = fk_ev d qX11_half 111 L (.int (nI 0) :: st) h) ∧
  (∀ (d : Nat) (L : List Value) (x : Int32) (h : fk_H), fk_ev d qX11_half 111 L [.int x] h = some (some (.int x), h)) ∧
  (∀ (d : Nat) (a0 a1 a2 : Value) (x : Nat) (st : List Value) (h : fk_H), fk_ev d qX11_half 112 [a0, a1, a2, .ref x] st h = fk_ev d qX11_half 113 [a0, a1, a2, .ref x] (.ref x :: st) h) ∧
  (∀ (d : Nat) (L st : List Value) (N : Nat) (y : Nat → Nat → Int32) (l : Nat → Nat → Int64) (c : Nat), fk_at c 0 → fk_ev d qX11_half 113 L (.ref c :: st) (fk_E N y l) = fk_ev d qX11_half 116 L (.int (y c 5) :: st) (fk_E N y l)) ∧
  (∀ (d : Nat) (L : List Value) (x : Int32) (h : fk_H), fk_ev d qX11_half 116 L [.int x] h = some (some (.int x), h)) ∧
  (∀ (d : Nat) (a0 a1 a2 : Value) (x : Nat) (st : List Value) (h : fk_H), fk_ev d qX11_half 117 [a0, a1, a2, .ref x] st h = fk_ev d qX11_half 118 [a0, a1, a2, .ref x] (.ref x :: st) h) ∧
  (∀ (d : Nat) (L st : List Value) (N : Nat) (y : Nat → Nat → Int32) (l : Nat → Nat → Int64) (c : Nat), fk_at c 0 → fk_ev d qX11_half 118 L (.ref c :: st) (fk_E N y l) = fk_ev d qX11_half 121 L (.int (y c 6) :: st) (fk_E N y l)) ∧
  (∀ (d : Nat) (L : List Value) (x : Int32) (h : fk_H), fk_ev d qX11_half 121 L [.int x] h = some (some (.int x), h)) ∧
  (∀ (d : Nat) (a0 a1 a2 : Value) (x : Nat) (st : List Value) (h : fk_H), fk_ev d qX11_half 122 [a0, a1, a2, .ref x] st h = fk_ev d qX11_half 123 [a0, a1, a2, .ref x] (.ref x :: st) h) ∧
  (∀ (d : Nat) (L st : List Value) (N : Nat) (y : Nat → Nat → Int32) (l : Nat → Nat → Int64) (c : Nat), fk_at c 0 → fk_ev d qX11_half 123 L (.ref c :: st) (fk_E N y l) = fk_ev d qX11_half 126 L (.int (y c 7) :: st) (fk_E N y l)) ∧
  (∀ (d : Nat) (L : List Value) (x : Int32) (h : fk_H), fk_ev d qX11_half 126 L [.int x] h = some (some (.int x), h)) ∧
  (∀ (d : Nat) (a0 a1 a2 : Value) (x : Nat) (st : List Value) (h : fk_H), fk_ev d qX11_half 127 [a0, a1, a2, .ref x] st h = fk_ev d qX11_half 128 [a0, a1, a2, .ref x] (.ref x :: st) h) ∧
  (∀ (d : Nat) (L st : List Value) (N : Nat) (y : Nat → Nat → Int32) (l : Nat → Nat → Int64) (c : Nat), fk_at c 0 → fk_ev d qX11_half 128 L (.ref c :: st) (fk_E N y l) = fk_ev d qX11_half 131 L (.int (y c 8) :: st) (fk_E N y l)) ∧
  (∀ (d : Nat) (L : List Value) (x : Int32) (h : fk_H), fk_ev d qX11_half 131 L [.int x] h = some (some (.int x), h)) ∧
  (∀ (d : Nat) (a0 a1 a2 : Value) (x : Nat) (st : List Value) (h : fk_H), fk_ev d qX11_half 132 [a0, a1, a2, .ref x] st h = fk_ev d qX11_half 133 [a0, a1, a2, .ref x] (.ref x :: st) h) ∧
  (∀ (d : Nat) (L st : List Value) (N : Nat) (y : Nat → Nat → Int32) (l : Nat → Nat → Int64) (c : Nat), fk_at c 0 → fk_ev d qX11_half 133 L (.ref c :: st) (fk_E N y l) = fk_ev d qX11_half 136 L (.int (y c 9) :: st) (fk_E N y l)) ∧
  (∀ (d : Nat) (L : List Value) (x : Int32) (h : fk_H), fk_ev d qX11_half 136 L [.int x] h = some (some (.int x), h)) ∧
  (∀ (d : Nat) (a0 a1 a2 : Value) (x : Nat) (st : List Value) (h : fk_H), fk_ev d qX11_half 137 [a0, a1, a2, .ref x] st h = fk_ev d qX11_half 138 [a0, a1, a2, .ref x] (.ref x :: st) h) ∧
  (∀ (d : Nat) (L st : List Value) (N : Nat) (y : Nat → Nat → Int32) (l : Nat → Nat → Int64) (c : Nat), fk_at c 0 → fk_ev d qX11_half 138 L (.ref c :: st) (fk_E N y l) = fk_ev d qX11_half 141 L (.int (y c 10) :: st) (fk_E N y l)) ∧
  (∀ (d : Nat) (L : List Value) (x : Int32) (h : fk_H), fk_ev d qX11_half 141 L [.int x] h = some (some (.int x), h)) ∧
  (∀ (d : Nat) (a0 a1 a2 : Value) (x : Nat) (st : List Value) (h : fk_H), fk_ev d qX11_half 142 [a0, a1, a2, .ref x] st h = fk_ev d qX11_half 143 [a0, a1, a2, .ref x] (.ref x :: st) h) ∧
  (∀ (d : Nat) (L st : List Value) (N : Nat) (y : Nat → Nat → Int32) (l : Nat → Nat → Int64) (c : Nat), fk_at c 0 → fk_ev d qX11_half 143 L (.ref c :: st) (fk_E N y l) = fk_ev d qX11_half 146 L (.int (y c 13) :: st) (fk_E N y l)) ∧
  (∀ (d : Nat) (L : List Value) (x : Int32) (h : fk_H), fk_ev d qX11_half 146 L [.int x] h = some (some (.int x), h)) ∧
  (∀ (d : Nat) (a0 a1 a3 : Value) (x : Int32) (st : List Value) (h : fk_H), fk_ev d qX11_half 147 [a0, a1, .int x, a3] st h = fk_ev d qX11_half 148 [a0, a1, .int x, a3] (.int x :: st) h) ∧
  (∀ (d : Nat) (L st : List Value) (h : fk_H), fk_ev d qX11_half 148 L st h = fk_ev d qX11_half 150 L (.int (nI 20) :: st) h) ∧
  (∀ (d : Nat) (L : List Value) (x y : Int32) (st : List Value) (h : fk_H), fk_ev d qX11_half 150 L (.int y :: .int x :: st) h = if x < y then fk_ev d qX11_half 170 L st h else fk_ev d qX11_half 153 L st h) ∧
  (∀ (d : Nat) (a0 a1 a3 : Value) (x : Int32) (st : List Value) (h : fk_H), fk_ev d qX11_half 153 [a0, a1, .int x, a3] st h = fk_ev d qX11_half 154 [a0, a1, .int x, a3] (.int x :: st) h) ∧
  (∀ (d : Nat) (L st : List Value) (h : fk_H), fk_ev d qX11_half 154 L st h = fk_ev d qX11_half 156 L (.int (nI 36) :: st) h) ∧
  (∀ (d : Nat) (L : List Value) (x y : Int32) (st : List Value) (h : fk_H), fk_ev d qX11_half 156 L (.int y :: .int x :: st) h = if y ≤ x then fk_ev d qX11_half 170 L st h else fk_ev d qX11_half 159 L st h) ∧
  (∀ (d : Nat) (a0 a1 a2 : Value) (x : Nat) (st : List Value) (h : fk_H), fk_ev d qX11_half 159 [a0, a1, a2, .ref x] st h = fk_ev d qX11_half 160 [a0, a1, a2, .ref x] (.ref x :: st) h) ∧
  (∀ (d : Nat) (a0 a1 a3 : Value) (x : Int32) (st : List Value) (h : fk_H), fk_ev d qX11_half 160 [a0, a1, .int x, a3] st h = fk_ev d qX11_half 161 [a0, a1, .int x, a3] (.int x :: st) h) ∧
  (∀ (d : Nat) (L st : List Value) (h : fk_H), fk_ev d qX11_half 161 L st h = fk_ev d qX11_half 163 L (.int (nI 20) :: st) h) ∧
  (∀ (d : Nat) (L : List Value) (x y : Int32) (st : List Value) (h : fk_H), fk_ev d qX11_half 163 L (.int y :: .int x :: st) h = fk_ev d qX11_half 164 L (.int (x - y) :: st) h) ∧
  (∀ (d : Nat) (L : List Value) (x0 : Int32)  (N : Nat) (y : Nat → Nat → Int32) (l : Nat → Nat → Int64) (c : Nat), fk_at c 0 → fk_ev (d + 1) qX11_half 164 L (.int x0 :: .ref c :: []) (fk_E N y l) = (fk_ev d qX0_knows 0 [.ref c, .int x0] [] (fk_E N y l)).bind fun o => fk_ev (d + 1) qX11_half 167 L (o.1.toList ++ []) o.2) ∧
  (∀ (d : Nat) (L st : List Value) (h : fk_H), fk_ev d qX11_half 167 L st h = fk_ev d qX11_half 171 L st h) ∧
  (∀ (d : Nat) (L st : List Value) (h : fk_H), fk_ev d qX11_half 170 L st h = fk_ev d qX11_half 171 L (.int ((-1 : Int32)) :: st) h) ∧
  (∀ (d : Nat) (L : List Value) (x : Int32) (h : fk_H), fk_ev d qX11_half 171 L [.int x] h = some (some (.int x), h)) := ⟨fun d a1 a2 a3 x st h => fk_w_aloadn 0 [.ref x, a1, a2, a3] dX11_half_0 rfl,
  fun d L st N y l => fk_g_getC rfl lf_11_58 (by decide) rfl dX11_half_1 fk_at_1,
  fun d a0 a2 a3 x st h => fk_w_iloadn 1 [a0, .int x, a2, a3] dX11_half_4 rfl,
  fun d L x0 N y l c hc => fk_g_call [.int x0] [] rfl lm_11_215 dX11_half_5 rfl ⟨rfl, by decide⟩ (by simp) hc,
  fun d L x st h => fk_r_if_ne dX11_half_8 (by decide),
  fun d L st h => fk_w_iconst dX11_half_11 (by decide),
  fun d L x h => fk_r_ret dX11_half_12 (Or.inl rfl),
  fun d a1 a2 a3 x st h => fk_w_aloadn 0 [.ref x, a1, a2, a3] dX11_half_13 rfl,
  fun d L st N y l => fk_g_getC rfl lf_11_58 (by decide) rfl dX11_half_14 fk_at_1,
  fun d L st N y l c hc => fk_g_getC rfl lf_11_139 (by decide) rfl dX11_half_17 hc,
  fun d a0 a2 a3 x st h => fk_w_iloadn 1 [a0, .int x, a2, a3] dX11_half_20 rfl,
  fun d L st N y l i hi => fk_h_aald dX11_half_21 fk_at_34 hi (by decide),
  fun d a0 a1 a2 a3 x st h => fk_w_astoren 3 4 [] [a0, a1, a2, a3] [a0, a1, a2, .ref x] dX11_half_22 rfl rfl (by decide) rfl,
  fun d a0 a1 a3 x st h => fk_w_iloadn 2 [a0, a1, .int x, a3] dX11_half_23 rfl,
  fun d L st h => fk_w_tab (0) (off := 60) dX11_half_24 (by decide) (by decide) (by decide) (by decide),
  fun d L st h => fk_w_tab (1) (off := 65) dX11_half_24 (by decide) (by decide) (by decide) (by decide),
  fun d L st h => fk_w_tab (2) (off := 70) dX11_half_24 (by decide) (by decide) (by decide) (by decide),
  fun d L st h => fk_w_tab (3) (off := 75) dX11_half_24 (by decide) (by decide) (by decide) (by decide),
  fun d L st h => fk_w_tab (4) (off := 88) dX11_half_24 (by decide) (by decide) (by decide) (by decide),
  fun d L st h => fk_w_tab (5) (off := 93) dX11_half_24 (by decide) (by decide) (by decide) (by decide),
  fun d L st h => fk_w_tab (6) (off := 98) dX11_half_24 (by decide) (by decide) (by decide) (by decide),
  fun d L st h => fk_w_tab (7) (off := 103) dX11_half_24 (by decide) (by decide) (by decide) (by decide),
  fun d L st h => fk_w_tab (8) (off := 108) dX11_half_24 (by decide) (by decide) (by decide) (by decide),
  fun d L st h => fk_w_tab (9) (off := 113) dX11_half_24 (by decide) (by decide) (by decide) (by decide),
  fun d L st h => fk_w_tab (10) (off := 118) dX11_half_24 (by decide) (by decide) (by decide) (by decide),
  fun d L x st h hx => fk_w_tabo dX11_half_24 hx (by decide),
  fun d a0 a1 a2 x st h => fk_w_aloadn 3 [a0, a1, a2, .ref x] dX11_half_84 rfl,
  fun d L st N y l c hc => fk_g_getI rfl lf_11_218 (by decide) dX11_half_85 hc,
  fun d L x h => fk_r_ret dX11_half_88 (Or.inl rfl),
  fun d a0 a1 a2 x st h => fk_w_aloadn 3 [a0, a1, a2, .ref x] dX11_half_89 rfl,
  fun d L st N y l c hc => fk_g_getI rfl lf_11_221 (by decide) dX11_half_90 hc,
  fun d L x h => fk_r_ret dX11_half_93 (Or.inl rfl),
  fun d a0 a1 a2 x st h => fk_w_aloadn 3 [a0, a1, a2, .ref x] dX11_half_94 rfl,
  fun d L st N y l c hc => fk_g_getI rfl lf_11_224 (by decide) dX11_half_95 hc,
  fun d L x h => fk_r_ret dX11_half_98 (Or.inl rfl),
  fun d a0 a1 a2 x st h => fk_w_aloadn 3 [a0, a1, a2, .ref x] dX11_half_99 rfl,
  fun d L st N y l c hc => fk_g_getI rfl lf_11_227 (by decide) dX11_half_100 hc,
  fun d L x st h => fk_r_if_eq dX11_half_103 (by decide),
  fun d L st h => fk_w_iconst dX11_half_106 (by decide),
  fun d L st h => fk_r_goto dX11_half_107 (by decide),
  fun d L st h => fk_w_iconst dX11_half_110 (by decide),
  fun d L x h => fk_r_ret dX11_half_111 (Or.inl rfl),
  fun d a0 a1 a2 x st h => fk_w_aloadn 3 [a0, a1, a2, .ref x] dX11_half_112 rfl,
  fun d L st N y l c hc => fk_g_getI rfl lf_11_230 (by decide) dX11_half_113 hc,
  fun d L x h => fk_r_ret dX11_half_116 (Or.inl rfl),
  fun d a0 a1 a2 x st h => fk_w_aloadn 3 [a0, a1, a2, .ref x] dX11_half_117 rfl,
  fun d L st N y l c hc => fk_g_getI rfl lf_11_233 (by decide) dX11_half_118 hc,
  fun d L x h => fk_r_ret dX11_half_121 (Or.inl rfl),
  fun d a0 a1 a2 x st h => fk_w_aloadn 3 [a0, a1, a2, .ref x] dX11_half_122 rfl,
  fun d L st N y l c hc => fk_g_getI rfl lf_11_236 (by decide) dX11_half_123 hc,
  fun d L x h => fk_r_ret dX11_half_126 (Or.inl rfl),
  fun d a0 a1 a2 x st h => fk_w_aloadn 3 [a0, a1, a2, .ref x] dX11_half_127 rfl,
  fun d L st N y l c hc => fk_g_getI rfl lf_11_239 (by decide) dX11_half_128 hc,
  fun d L x h => fk_r_ret dX11_half_131 (Or.inl rfl),
  fun d a0 a1 a2 x st h => fk_w_aloadn 3 [a0, a1, a2, .ref x] dX11_half_132 rfl,
  fun d L st N y l c hc => fk_g_getI rfl lf_11_242 (by decide) dX11_half_133 hc,
  fun d L x h => fk_r_ret dX11_half_136 (Or.inl rfl),
  fun d a0 a1 a2 x st h => fk_w_aloadn 3 [a0, a1, a2, .ref x] dX11_half_137 rfl,
  fun d L st N y l c hc => fk_g_getI rfl lf_11_150 (by decide) dX11_half_138 hc,
  fun d L x h => fk_r_ret dX11_half_141 (Or.inl rfl),
  fun d a0 a1 a2 x st h => fk_w_aloadn 3 [a0, a1, a2, .ref x] dX11_half_142 rfl,
  fun d L st N y l c hc => fk_g_getI rfl lf_11_245 (by decide) dX11_half_143 hc,
  fun d L x h => fk_r_ret dX11_half_146 (Or.inl rfl),
  fun d a0 a1 a3 x st h => fk_w_iloadn 2 [a0, a1, .int x, a3] dX11_half_147 rfl,
  fun d L st h => fk_w_bipush dX11_half_148 (by decide),
  fun d L x y st h => fk_r_icmp_lt dX11_half_150 (by decide),
  fun d a0 a1 a3 x st h => fk_w_iloadn 2 [a0, a1, .int x, a3] dX11_half_153 rfl,
  fun d L st h => fk_w_bipush dX11_half_154 (by decide),
  fun d L x y st h => fk_r_icmp_ge dX11_half_156 (by decide),
  fun d a0 a1 a2 x st h => fk_w_aloadn 3 [a0, a1, a2, .ref x] dX11_half_159 rfl,
  fun d a0 a1 a3 x st h => fk_w_iloadn 2 [a0, a1, .int x, a3] dX11_half_160 rfl,
  fun d L st h => fk_w_bipush dX11_half_161 (by decide),
  fun d L x y st h => fk_r_isub dX11_half_163,
  fun d L x0 N y l c hc => fk_g_call [.int x0] [] rfl lm_11_248 dX11_half_164 rfl ⟨rfl, by decide⟩ (by simp) hc,
  fun d L st h => fk_r_goto dX11_half_167 (by decide),
  fun d L st h => fk_w_iconst dX11_half_170 (by decide),
  fun d L x h => fk_r_ret dX11_half_171 (Or.inl rfl)⟩
theorem dX11_gladly_0 : decode cX11_gladly 0 = .ok (.aload_n 0, 1) := by decide +kernel
theorem dX11_gladly_1 : decode cX11_gladly 1 = .ok (.getfield 58, 3) := by decide +kernel
theorem dX11_gladly_4 : decode cX11_gladly 4 = .ok (.iload_n 1, 1) := by decide +kernel
theorem dX11_gladly_5 : decode cX11_gladly 5 = .ok (.invokevirtual 252, 3) := by decide +kernel
theorem dX11_gladly_8 : decode cX11_gladly 8 = .ok (.ifCond .eq 14, 3) := by decide +kernel
theorem dX11_gladly_11 : decode cX11_gladly 11 = .ok (.aload_n 0, 1) := by decide +kernel
theorem dX11_gladly_12 : decode cX11_gladly 12 = .ok (.getfield 26, 3) := by decide +kernel
theorem dX11_gladly_15 : decode cX11_gladly 15 = .ok (.iload_n 2, 1) := by decide +kernel
theorem dX11_gladly_16 : decode cX11_gladly 16 = .ok (.invokevirtual 255, 3) := by decide +kernel
theorem dX11_gladly_19 : decode cX11_gladly 19 = .ok (.ifCond .ne 5, 3) := by decide +kernel
theorem dX11_gladly_22 : decode cX11_gladly 22 = .ok (.iconst (-1), 1) := by decide +kernel
theorem dX11_gladly_23 : decode cX11_gladly 23 = .ok (.ireturn, 1) := by decide +kernel
theorem dX11_gladly_24 : decode cX11_gladly 24 = .ok (.aload_n 0, 1) := by decide +kernel
theorem dX11_gladly_25 : decode cX11_gladly 25 = .ok (.getfield 26, 3) := by decide +kernel
theorem dX11_gladly_28 : decode cX11_gladly 28 = .ok (.getfield 258, 3) := by decide +kernel
theorem dX11_gladly_31 : decode cX11_gladly 31 = .ok (.iload_n 2, 1) := by decide +kernel
theorem dX11_gladly_32 : decode cX11_gladly 32 = .ok (.iaload, 1) := by decide +kernel
theorem dX11_gladly_33 : decode cX11_gladly 33 = .ok (.aload_n 0, 1) := by decide +kernel
theorem dX11_gladly_34 : decode cX11_gladly 34 = .ok (.getfield 58, 3) := by decide +kernel
theorem dX11_gladly_37 : decode cX11_gladly 37 = .ok (.getfield 139, 3) := by decide +kernel
theorem dX11_gladly_40 : decode cX11_gladly 40 = .ok (.iload_n 1, 1) := by decide +kernel
theorem dX11_gladly_41 : decode cX11_gladly 41 = .ok (.aaload, 1) := by decide +kernel
theorem dX11_gladly_42 : decode cX11_gladly 42 = .ok (.getfield 233, 3) := by decide +kernel
theorem dX11_gladly_45 : decode cX11_gladly 45 = .ok (.if_icmp .eq 6, 3) := by decide +kernel
theorem dX11_gladly_48 : decode cX11_gladly 48 = .ok (.bipush (-2), 2) := by decide +kernel
theorem dX11_gladly_50 : decode cX11_gladly 50 = .ok (.ireturn, 1) := by decide +kernel
theorem dX11_gladly_51 : decode cX11_gladly 51 = .ok (.aload_n 0, 1) := by decide +kernel
theorem dX11_gladly_52 : decode cX11_gladly 52 = .ok (.getfield 83, 3) := by decide +kernel
theorem dX11_gladly_55 : decode cX11_gladly 55 = .ok (.aload_n 0, 1) := by decide +kernel
theorem dX11_gladly_56 : decode cX11_gladly 56 = .ok (.getfield 58, 3) := by decide +kernel
theorem dX11_gladly_59 : decode cX11_gladly 59 = .ok (.aload_n 0, 1) := by decide +kernel
theorem dX11_gladly_60 : decode cX11_gladly 60 = .ok (.getfield 10, 3) := by decide +kernel
theorem dX11_gladly_63 : decode cX11_gladly 63 = .ok (.invokevirtual 176, 3) := by decide +kernel
theorem dX11_gladly_66 : decode cX11_gladly 66 = .ok (.aload_n 0, 1) := by decide +kernel
theorem dX11_gladly_67 : decode cX11_gladly 67 = .ok (.getfield 83, 3) := by decide +kernel
theorem dX11_gladly_70 : decode cX11_gladly 70 = .ok (.aload_n 0, 1) := by decide +kernel
theorem dX11_gladly_71 : decode cX11_gladly 71 = .ok (.getfield 58, 3) := by decide +kernel
theorem dX11_gladly_74 : decode cX11_gladly 74 = .ok (.getfield 139, 3) := by decide +kernel
theorem dX11_gladly_77 : decode cX11_gladly 77 = .ok (.iload_n 1, 1) := by decide +kernel
theorem dX11_gladly_78 : decode cX11_gladly 78 = .ok (.aaload, 1) := by decide +kernel
theorem dX11_gladly_79 : decode cX11_gladly 79 = .ok (.iload_n 2, 1) := by decide +kernel
theorem dX11_gladly_80 : decode cX11_gladly 80 = .ok (.invokevirtual 261, 3) := by decide +kernel
theorem dX11_gladly_83 : decode cX11_gladly 83 = .ok (.ireturn, 1) := by decide +kernel
theorem rX11_gladly : (∀ (d : Nat) (a1 a2 : Value) (x : Nat) (st : List Value) (h : fk_H), fk_ev d qX11_gladly 0 [.ref x, a1, a2] st h = fk_ev d qX11_gladly 1 [.ref x, a1, a2] (.ref x :: st) h) ∧
  (∀ (d : Nat) (L st : List Value) (N : Nat) (y : Nat → Nat → Int32) (l : Nat → Nat → Int64), fk_ev d qX11_gladly 1 L (.ref 1 :: st) (fk_E N y l) = fk_ev d qX11_gladly 4 L (.ref 33 :: st) (fk_E N y l)) ∧
  (∀ (d : Nat) (a0 a2 : Value) (x : Int32) (st : List Value) (h : fk_H), fk_ev d qX11_gladly 4 [a0, .int x, a2] st h = fk_ev d qX11_gladly 5 [a0, .int x, a2] (.int x :: st) h) ∧
  (∀ (d : Nat) (L : List Value) (x0 : Int32)  (N : Nat) (y : Nat → Nat → Int32) (l : Nat → Nat → Int64) (c : Nat), fk_at c 8 → fk_ev (d + 1) qX11_gladly 5 L (.int x0 :: .ref c :: []) (fk_E N y l) = (fk_ev d qX8_isAtPlace 0 [.ref c, .int x0] [] (fk_E N y l)).bind fun o => fk_ev (d + 1) qX11_gladly 8 L (o.1.toList ++ []) o.2) ∧
  (∀ (d : Nat) (L : List Value) (x : Int32) (st : List Value) (h : fk_H), fk_ev d qX11_gladly 8 L (.int x :: st) h = if x = nI 0 then fk_ev d qX11_gladly 22 L st h else fk_ev d qX11_gladly 11 L st h) ∧
  (∀ (d : Nat) (a1 a2 : Value) (x : Nat) (st : List Value) (h : fk_H), fk_ev d qX11_gladly 11 [.ref x, a1, a2] st h = fk_ev d qX11_gladly 12 [.ref x, a1, a2] (.ref x :: st) h) ∧
  (∀ (d : Nat) (L st : List Value) (N : Nat) (y : Nat → Nat → Int32) (l : Nat → Nat → Int64), fk_ev d qX11_gladly 12 L (.ref 1 :: st) (fk_E N y l) = fk_ev d qX11_gladly 15 L (.ref 18 :: st) (fk_E N y l)) ∧
  (∀ (d : Nat) (a0 a1 : Value) (x : Int32) (st : List Value) (h : fk_H), fk_ev d qX11_gladly 15 [a0, a1, .int x] st h = fk_ev d qX11_gladly 16 [a0, a1, .int x] (.int x :: st) h) ∧
  (∀ (d : Nat) (L : List Value) (x0 : Int32)  (N : Nat) (y : Nat → Nat → Int32) (l : Nat → Nat → Int64), fk_ev (d + 1) qX11_gladly 16 L (.int x0 :: .ref 18 :: []) (fk_E N y l) = (fk_ev d qX5_isTold 0 [.ref 18, .int x0] [] (fk_E N y l)).bind fun o => fk_ev (d + 1) qX11_gladly 19 L (o.1.toList ++ []) o.2) ∧
  (∀ (d : Nat) (L : List Value) (x : Int32) (st : List Value) (h : fk_H), fk_ev d qX11_gladly 19 L (.int x :: st) h = if ¬ x = nI 0 then fk_ev d qX11_gladly 24 L st h else fk_ev d qX11_gladly 22 L st h) ∧
  (∀ (d : Nat) (L st : List Value) (h : fk_H), fk_ev d qX11_gladly 22 L st h = fk_ev d qX11_gladly 23 L (.int ((-1 : Int32)) :: st) h) ∧
  (∀ (d : Nat) (L : List Value) (x : Int32) (h : fk_H), fk_ev d qX11_gladly 23 L [.int x] h = some (some (.int x), h)) ∧
  (∀ (d : Nat) (a1 a2 : Value) (x : Nat) (st : List Value) (h : fk_H), fk_ev d qX11_gladly 24 [.ref x, a1, a2] st h = fk_ev d qX11_gladly 25 [.ref x, a1, a2] (.ref x :: st) h) ∧
  (∀ (d : Nat) (L st : List Value) (N : Nat) (y : Nat → Nat → Int32) (l : Nat → Nat → Int64), fk_ev d qX11_gladly 25 L (.ref 1 :: st) (fk_E N y l) = fk_ev d qX11_gladly 28 L (.ref 18 :: st) (fk_E N y l)) ∧
  (∀ (d : Nat) (L st : List Value) (N : Nat) (y : Nat → Nat → Int32) (l : Nat → Nat → Int64), fk_ev d qX11_gladly 28 L (.ref 18 :: st) (fk_E N y l) = fk_ev d qX11_gladly 31 L (.ref 19 :: st) (fk_E N y l)) ∧
  (∀ (d : Nat) (a0 a1 : Value) (x : Int32) (st : List Value) (h : fk_H), fk_ev d qX11_gladly 31 [a0, a1, .int x] st h = fk_ev d qX11_gladly 32 [a0, a1, .int x] (.int x :: st) h) ∧
  (∀ (d : Nat) (L st : List Value) (N : Nat) (y : Nat → Nat → Int32) (l : Nat → Nat → Int64) (i : Nat), i < 32 → fk_ev d qX11_gladly 32 L (.int (nI i) :: .ref 19 :: st) (fk_E N y l) = fk_ev d qX11_gladly 33 L (.int (y 19 i) :: st) (fk_E N y l)) ∧
  (∀ (d : Nat) (a1 a2 : Value) (x : Nat) (st : List Value) (h : fk_H), fk_ev d qX11_gladly 33 [.ref x, a1, a2] st h = fk_ev d qX11_gladly 34 [.ref x, a1, a2] (.ref x :: st) h) ∧
  (∀ (d : Nat) (L st : List Value) (N : Nat) (y : Nat → Nat → Int32) (l : Nat → Nat → Int64), fk_ev d qX11_gladly 34 L (.ref 1 :: st) (fk_E N y l) = fk_ev d qX11_gladly 37 L (.ref 33 :: st) (fk_E N y l)) ∧
  (∀ (d : Nat) (L st : List Value) (N : Nat) (y : Nat → Nat → Int32) (l : Nat → Nat → Int64) (c : Nat), fk_at c 8 → fk_ev d qX11_gladly 37 L (.ref c :: st) (fk_E N y l) = fk_ev d qX11_gladly 40 L (.ref (fk_cr c 0) :: st) (fk_E N y l)) ∧
  (∀ (d : Nat) (a0 a2 : Value) (x : Int32) (st : List Value) (h : fk_H), fk_ev d qX11_gladly 40 [a0, .int x, a2] st h = fk_ev d qX11_gladly 41 [a0, .int x, a2] (.int x :: st) h) ∧
  (∀ (d : Nat) (L st : List Value) (N : Nat) (y : Nat → Nat → Int32) (l : Nat → Nat → Int64) (i : Nat), i < 64 → fk_ev d qX11_gladly 41 L (.int (nI i) :: .ref 34 :: st) (fk_E N y l) = fk_ev d qX11_gladly 42 L (.ref (34 + 2 + i) :: st) (fk_E N y l)) ∧
  (∀ (d : Nat) (L st : List Value) (N : Nat) (y : Nat → Nat → Int32) (l : Nat → Nat → Int64) (c : Nat), fk_at c 0 → fk_ev d qX11_gladly 42 L (.ref c :: st) (fk_E N y l) = fk_ev d qX11_gladly 45 L (.int (y c 6) :: st) (fk_E N y l)) ∧
  (∀ (d : Nat) (L : List Value) (x y : Int32) (st : List Value) (h : fk_H), fk_ev d qX11_gladly 45 L (.int y :: .int x :: st) h = if x = y then fk_ev d qX11_gladly 51 L st h else fk_ev d qX11_gladly 48 L st h) ∧
  (∀ (d : Nat) (L st : List Value) (h : fk_H), fk_ev d qX11_gladly 48 L st h = fk_ev d qX11_gladly 50 L (.int ((-2 : Int32)) :: st) h) ∧
  (∀ (d : Nat) (L : List Value) (x : Int32) (h : fk_H), fk_ev d qX11_gladly 50 L [.int x] h = some (some (.int x), h)) ∧
  (∀ (d : Nat) (a1 a2 : Value) (x : Nat) (st : List Value) (h : fk_H), fk_ev d qX11_gladly 51 [.ref x, a1, a2] st h = fk_ev d qX11_gladly 52 [.ref x, a1, a2] (.ref x :: st) h) ∧
  (∀ (d : Nat) (L st : List Value) (N : Nat) (y : Nat → Nat → Int32) (l : Nat → Nat → Int64), fk_ev d qX11_gladly 52 L (.ref 1 :: st) (fk_E N y l) = fk_ev d qX11_gladly 55 L (.ref 238 :: st) (fk_E N y l)) ∧
  (∀ (d : Nat) (a1 a2 : Value) (x : Nat) (st : List Value) (h : fk_H), fk_ev d qX11_gladly 55 [.ref x, a1, a2] st h = fk_ev d qX11_gladly 56 [.ref x, a1, a2] (.ref x :: st) h) ∧
  (∀ (d : Nat) (L st : List Value) (N : Nat) (y : Nat → Nat → Int32) (l : Nat → Nat → Int64), fk_ev d qX11_gladly 56 L (.ref 1 :: st) (fk_E N y l) = fk_ev d qX11_gladly 59 L (.ref 33 :: st) (fk_E N y l)) ∧
  (∀ (d : Nat) (a1 a2 : Value) (x : Nat) (st : List Value) (h : fk_H), fk_ev d qX11_gladly 59 [.ref x, a1, a2] st h = fk_ev d qX11_gladly 60 [.ref x, a1, a2] (.ref x :: st) h) ∧
  (∀ (d : Nat) (L st : List Value) (N : Nat) (y : Nat → Nat → Int32) (l : Nat → Nat → Int64), fk_ev d qX11_gladly 60 L (.ref 1 :: st) (fk_E N y l) = fk_ev d qX11_gladly 63 L (.ref (y 1 0).toNatClampNeg :: st) (fk_E N y l)) ∧
  (∀ (d : Nat) (L : List Value) (x0 : Nat) (x1 : Nat)  (N : Nat) (y : Nat → Nat → Int32) (l : Nat → Nat → Int64), fk_ev (d + 1) qX11_gladly 63 L (.ref x1 :: .ref x0 :: .ref 238 :: []) (fk_E N y l) = (fk_ev d qX6_begin 0 [.ref 238, .ref x0, .ref x1] [] (fk_E N y l)).bind fun o => fk_ev (d + 1) qX11_gladly 66 L (o.1.toList ++ []) o.2) ∧
  (∀ (d : Nat) (a1 a2 : Value) (x : Nat) (st : List Value) (h : fk_H), fk_ev d qX11_gladly 66 [.ref x, a1, a2] st h = fk_ev d qX11_gladly 67 [.ref x, a1, a2] (.ref x :: st) h) ∧
  (∀ (d : Nat) (L st : List Value) (N : Nat) (y : Nat → Nat → Int32) (l : Nat → Nat → Int64), fk_ev d qX11_gladly 67 L (.ref 1 :: st) (fk_E N y l) = fk_ev d qX11_gladly 70 L (.ref 238 :: st) (fk_E N y l)) ∧
  (∀ (d : Nat) (a1 a2 : Value) (x : Nat) (st : List Value) (h : fk_H), fk_ev d qX11_gladly 70 [.ref x, a1, a2] st h = fk_ev d qX11_gladly 71 [.ref x, a1, a2] (.ref x :: st) h) ∧
  (∀ (d : Nat) (L st : List Value) (N : Nat) (y : Nat → Nat → Int32) (l : Nat → Nat → Int64), fk_ev d qX11_gladly 71 L (.ref 1 :: st) (fk_E N y l) = fk_ev d qX11_gladly 74 L (.ref 33 :: st) (fk_E N y l)) ∧
  (∀ (d : Nat) (L st : List Value) (N : Nat) (y : Nat → Nat → Int32) (l : Nat → Nat → Int64) (c : Nat), fk_at c 8 → fk_ev d qX11_gladly 74 L (.ref c :: st) (fk_E N y l) = fk_ev d qX11_gladly 77 L (.ref (fk_cr c 0) :: st) (fk_E N y l)) ∧
  (∀ (d : Nat) (a0 a2 : Value) (x : Int32) (st : List Value) (h : fk_H), fk_ev d qX11_gladly 77 [a0, .int x, a2] st h = fk_ev d qX11_gladly 78 [a0, .int x, a2] (.int x :: st) h) ∧
  (∀ (d : Nat) (L st : List Value) (N : Nat) (y : Nat → Nat → Int32) (l : Nat → Nat → Int64) (i : Nat), i < 64 → fk_ev d qX11_gladly 78 L (.int (nI i) :: .ref 34 :: st) (fk_E N y l) = fk_ev d qX11_gladly 79 L (.ref (34 + 2 + i) :: st) (fk_E N y l)) ∧
  (∀ (d : Nat) (a0 a1 : Value) (x : Int32) (st : List Value) (h : fk_H), fk_ev d qX11_gladly 79 [a0, a1, .int x] st h = fk_ev d qX11_gladly 80 [a0, a1, .int x] (.int x :: st) h) ∧
  (∀ (d : Nat) (L : List Value) (x0 : Nat) (x1 : Int32)  (N : Nat) (y : Nat → Nat → Int32) (l : Nat → Nat → Int64), fk_ev (d + 1) qX11_gladly 80 L (.int x1 :: .ref x0 :: .ref 238 :: []) (fk_E N y l) = (fk_ev d qX6_gladness 0 [.ref 238, .ref x0, .int x1] [] (fk_E N y l)).bind fun o => fk_ev (d + 1) qX11_gladly 83 L (o.1.toList ++ []) o.2) ∧
  (∀ (d : Nat) (L : List Value) (x : Int32) (h : fk_H), fk_ev d qX11_gladly 83 L [.int x] h = some (some (.int x), h)) := ⟨fun d a1 a2 x st h => fk_w_aloadn 0 [.ref x, a1, a2] dX11_gladly_0 rfl,
  fun d L st N y l => fk_g_getC rfl lf_11_58 (by decide) rfl dX11_gladly_1 fk_at_1,
  fun d a0 a2 x st h => fk_w_iloadn 1 [a0, .int x, a2] dX11_gladly_4 rfl,
  fun d L x0 N y l c hc => fk_g_call [.int x0] [] rfl lm_11_252 dX11_gladly_5 rfl ⟨rfl, by decide⟩ (by simp) hc,
  fun d L x st h => fk_r_if_eq dX11_gladly_8 (by decide),
  fun d a1 a2 x st h => fk_w_aloadn 0 [.ref x, a1, a2] dX11_gladly_11 rfl,
  fun d L st N y l => fk_g_getC rfl lf_11_26 (by decide) rfl dX11_gladly_12 fk_at_1,
  fun d a0 a1 x st h => fk_w_iloadn 2 [a0, a1, .int x] dX11_gladly_15 rfl,
  fun d L x0 N y l  => fk_g_call [.int x0] [] rfl lm_11_255 dX11_gladly_16 rfl ⟨rfl, by decide⟩ (by simp) fk_at_18,
  fun d L x st h => fk_r_if_ne dX11_gladly_19 (by decide),
  fun d L st h => fk_w_iconst dX11_gladly_22 (by decide),
  fun d L x h => fk_r_ret dX11_gladly_23 (Or.inl rfl),
  fun d a1 a2 x st h => fk_w_aloadn 0 [.ref x, a1, a2] dX11_gladly_24 rfl,
  fun d L st N y l => fk_g_getC rfl lf_11_26 (by decide) rfl dX11_gladly_25 fk_at_1,
  fun d L st N y l => fk_g_getC rfl lf_11_258 (by decide) rfl dX11_gladly_28 fk_at_18,
  fun d a0 a1 x st h => fk_w_iloadn 2 [a0, a1, .int x] dX11_gladly_31 rfl,
  fun d L st N y l i hi => fk_g_iald fk_at_19 fk_ln_19 (by decide) dX11_gladly_32 hi,
  fun d a1 a2 x st h => fk_w_aloadn 0 [.ref x, a1, a2] dX11_gladly_33 rfl,
  fun d L st N y l => fk_g_getC rfl lf_11_58 (by decide) rfl dX11_gladly_34 fk_at_1,
  fun d L st N y l c hc => fk_g_getC rfl lf_11_139 (by decide) rfl dX11_gladly_37 hc,
  fun d a0 a2 x st h => fk_w_iloadn 1 [a0, .int x, a2] dX11_gladly_40 rfl,
  fun d L st N y l i hi => fk_h_aald dX11_gladly_41 fk_at_34 hi (by decide),
  fun d L st N y l c hc => fk_g_getI rfl lf_11_233 (by decide) dX11_gladly_42 hc,
  fun d L x y st h => fk_r_icmp_eq dX11_gladly_45 (by decide),
  fun d L st h => fk_w_bipush dX11_gladly_48 (by decide),
  fun d L x h => fk_r_ret dX11_gladly_50 (Or.inl rfl),
  fun d a1 a2 x st h => fk_w_aloadn 0 [.ref x, a1, a2] dX11_gladly_51 rfl,
  fun d L st N y l => fk_g_getC rfl lf_11_83 (by decide) rfl dX11_gladly_52 fk_at_1,
  fun d a1 a2 x st h => fk_w_aloadn 0 [.ref x, a1, a2] dX11_gladly_55 rfl,
  fun d L st N y l => fk_g_getC rfl lf_11_58 (by decide) rfl dX11_gladly_56 fk_at_1,
  fun d a1 a2 x st h => fk_w_aloadn 0 [.ref x, a1, a2] dX11_gladly_59 rfl,
  fun d L st N y l => fk_g_getM rfl lf_11_10 (by decide) dX11_gladly_60 fk_at_1,
  fun d L x0 x1 N y l  => fk_g_call [.ref x0, .ref x1] [] rfl lm_11_176 dX11_gladly_63 rfl ⟨rfl, by decide⟩ (by simp) fk_at_238,
  fun d a1 a2 x st h => fk_w_aloadn 0 [.ref x, a1, a2] dX11_gladly_66 rfl,
  fun d L st N y l => fk_g_getC rfl lf_11_83 (by decide) rfl dX11_gladly_67 fk_at_1,
  fun d a1 a2 x st h => fk_w_aloadn 0 [.ref x, a1, a2] dX11_gladly_70 rfl,
  fun d L st N y l => fk_g_getC rfl lf_11_58 (by decide) rfl dX11_gladly_71 fk_at_1,
  fun d L st N y l c hc => fk_g_getC rfl lf_11_139 (by decide) rfl dX11_gladly_74 hc,
  fun d a0 a2 x st h => fk_w_iloadn 1 [a0, .int x, a2] dX11_gladly_77 rfl,
  fun d L st N y l i hi => fk_h_aald dX11_gladly_78 fk_at_34 hi (by decide),
  fun d a0 a1 x st h => fk_w_iloadn 2 [a0, a1, .int x] dX11_gladly_79 rfl,
  fun d L x0 x1 N y l  => fk_g_call [.ref x0, .int x1] [] rfl lm_11_261 dX11_gladly_80 rfl ⟨rfl, by decide⟩ (by simp) fk_at_238,
  fun d L x h => fk_r_ret dX11_gladly_83 (Or.inl rfl)⟩
theorem dX11_halves_0 : decode cX11_halves 0 = .ok (.iload_n 1, 1) := by decide +kernel
theorem dX11_halves_1 : decode cX11_halves 1 = .ok (.iconst 4, 1) := by decide +kernel
theorem dX11_halves_2 : decode cX11_halves 2 = .ok (.invokestatic 110, 3) := by decide +kernel
theorem dX11_halves_5 : decode cX11_halves 5 = .ok (.ifCond .eq 11, 3) := by decide +kernel
theorem dX11_halves_8 : decode cX11_halves 8 = .ok (.iload_n 2, 1) := by decide +kernel
theorem dX11_halves_9 : decode cX11_halves 9 = .ok (.iconst 4, 1) := by decide +kernel
theorem dX11_halves_10 : decode cX11_halves 10 = .ok (.invokestatic 110, 3) := by decide +kernel
theorem dX11_halves_13 : decode cX11_halves 13 = .ok (.ifCond .ne 5, 3) := by decide +kernel
theorem dX11_halves_16 : decode cX11_halves 16 = .ok (.iconst (-1), 1) := by decide +kernel
theorem dX11_halves_17 : decode cX11_halves 17 = .ok (.ireturn, 1) := by decide +kernel
theorem dX11_halves_18 : decode cX11_halves 18 = .ok (.iconst 0, 1) := by decide +kernel
theorem dX11_halves_19 : decode cX11_halves 19 = .ok (.istore_n 3, 1) := by decide +kernel
theorem dX11_halves_20 : decode cX11_halves 20 = .ok (.iconst 0, 1) := by decide +kernel
theorem dX11_halves_21 : decode cX11_halves 21 = .ok (.istore 4, 2) := by decide +kernel
theorem dX11_halves_23 : decode cX11_halves 23 = .ok (.iload 4, 2) := by decide +kernel
theorem dX11_halves_25 : decode cX11_halves 25 = .ok (.bipush 16, 2) := by decide +kernel
theorem dX11_halves_27 : decode cX11_halves 27 = .ok (.if_icmp .ge 54, 3) := by decide +kernel
theorem dX11_halves_30 : decode cX11_halves 30 = .ok (.bipush 16, 2) := by decide +kernel
theorem dX11_halves_32 : decode cX11_halves 32 = .ok (.iload_n 2, 1) := by decide +kernel
theorem dX11_halves_33 : decode cX11_halves 33 = .ok (.imul, 1) := by decide +kernel
theorem dX11_halves_34 : decode cX11_halves 34 = .ok (.iload 4, 2) := by decide +kernel
theorem dX11_halves_36 : decode cX11_halves 36 = .ok (.iadd, 1) := by decide +kernel
theorem dX11_halves_37 : decode cX11_halves 37 = .ok (.istore 5, 2) := by decide +kernel
theorem dX11_halves_39 : decode cX11_halves 39 = .ok (.aload_n 0, 1) := by decide +kernel
theorem dX11_halves_40 : decode cX11_halves 40 = .ok (.getfield 58, 3) := by decide +kernel
theorem dX11_halves_43 : decode cX11_halves 43 = .ok (.iload 5, 2) := by decide +kernel
theorem dX11_halves_45 : decode cX11_halves 45 = .ok (.invokevirtual 135, 3) := by decide +kernel
theorem dX11_halves_48 : decode cX11_halves 48 = .ok (.ifCond .eq 27, 3) := by decide +kernel
theorem dX11_halves_51 : decode cX11_halves 51 = .ok (.aload_n 0, 1) := by decide +kernel
theorem dX11_halves_52 : decode cX11_halves 52 = .ok (.getfield 58, 3) := by decide +kernel
theorem dX11_halves_55 : decode cX11_halves 55 = .ok (.getfield 139, 3) := by decide +kernel
theorem dX11_halves_58 : decode cX11_halves 58 = .ok (.iload 5, 2) := by decide +kernel
theorem dX11_halves_60 : decode cX11_halves 60 = .ok (.aaload, 1) := by decide +kernel
theorem dX11_halves_61 : decode cX11_halves 61 = .ok (.getfield 218, 3) := by decide +kernel
theorem dX11_halves_64 : decode cX11_halves 64 = .ok (.iload_n 1, 1) := by decide +kernel
theorem dX11_halves_65 : decode cX11_halves 65 = .ok (.if_icmp .ne 10, 3) := by decide +kernel
theorem dX11_halves_68 : decode cX11_halves 68 = .ok (.iload_n 3, 1) := by decide +kernel
theorem dX11_halves_69 : decode cX11_halves 69 = .ok (.iconst 1, 1) := by decide +kernel
theorem dX11_halves_70 : decode cX11_halves 70 = .ok (.iload 4, 2) := by decide +kernel
theorem dX11_halves_72 : decode cX11_halves 72 = .ok (.ishl, 1) := by decide +kernel
theorem dX11_halves_73 : decode cX11_halves 73 = .ok (.ior, 1) := by decide +kernel
theorem dX11_halves_74 : decode cX11_halves 74 = .ok (.istore_n 3, 1) := by decide +kernel
theorem dX11_halves_75 : decode cX11_halves 75 = .ok (.iinc 4 1, 3) := by decide +kernel
theorem dX11_halves_78 : decode cX11_halves 78 = .ok (.goto (-55), 3) := by decide +kernel
theorem dX11_halves_81 : decode cX11_halves 81 = .ok (.iload_n 3, 1) := by decide +kernel
theorem dX11_halves_82 : decode cX11_halves 82 = .ok (.ireturn, 1) := by decide +kernel
theorem rX11_halves : (∀ (d : Nat) (a0 a2 a3 a4 a5 : Value) (x : Int32) (st : List Value) (h : fk_H), fk_ev d qX11_halves 0 [a0, .int x, a2, a3, a4, a5] st h = fk_ev d qX11_halves 1 [a0, .int x, a2, a3, a4, a5] (.int x :: st) h) ∧
  (∀ (d : Nat) (L st : List Value) (h : fk_H), fk_ev d qX11_halves 1 L st h = fk_ev d qX11_halves 2 L (.int (nI 4) :: st) h) ∧
  (∀ (d : Nat) (L : List Value) (x0 : Int32) (x1 : Int32)  (h : fk_H), fk_ev (d + 1) qX11_halves 2 L (.int x1 :: .int x0 :: []) h = (fk_ev d qX11_within 0 [.int x0, .int x1] [] h).bind fun o => fk_ev (d + 1) qX11_halves 5 L (o.1.toList ++ []) o.2) ∧
  (∀ (d : Nat) (L : List Value) (x : Int32) (st : List Value) (h : fk_H), fk_ev d qX11_halves 5 L (.int x :: st) h = if x = nI 0 then fk_ev d qX11_halves 16 L st h else fk_ev d qX11_halves 8 L st h) ∧
  (∀ (d : Nat) (a0 a1 a3 a4 a5 : Value) (x : Int32) (st : List Value) (h : fk_H), fk_ev d qX11_halves 8 [a0, a1, .int x, a3, a4, a5] st h = fk_ev d qX11_halves 9 [a0, a1, .int x, a3, a4, a5] (.int x :: st) h) ∧
  (∀ (d : Nat) (L st : List Value) (h : fk_H), fk_ev d qX11_halves 9 L st h = fk_ev d qX11_halves 10 L (.int (nI 4) :: st) h) ∧
  (∀ (d : Nat) (L : List Value) (x0 : Int32) (x1 : Int32)  (h : fk_H), fk_ev (d + 1) qX11_halves 10 L (.int x1 :: .int x0 :: []) h = (fk_ev d qX11_within 0 [.int x0, .int x1] [] h).bind fun o => fk_ev (d + 1) qX11_halves 13 L (o.1.toList ++ []) o.2) ∧
  (∀ (d : Nat) (L : List Value) (x : Int32) (st : List Value) (h : fk_H), fk_ev d qX11_halves 13 L (.int x :: st) h = if ¬ x = nI 0 then fk_ev d qX11_halves 18 L st h else fk_ev d qX11_halves 16 L st h) ∧
  (∀ (d : Nat) (L st : List Value) (h : fk_H), fk_ev d qX11_halves 16 L st h = fk_ev d qX11_halves 17 L (.int ((-1 : Int32)) :: st) h) ∧
  (∀ (d : Nat) (L : List Value) (x : Int32) (h : fk_H), fk_ev d qX11_halves 17 L [.int x] h = some (some (.int x), h)) ∧
  (∀ (d : Nat) (L st : List Value) (h : fk_H), fk_ev d qX11_halves 18 L st h = fk_ev d qX11_halves 19 L (.int (nI 0) :: st) h) ∧
  (∀ (d : Nat) (a0 a1 a2 a3 a4 a5 : Value) (x : Int32) (st : List Value) (h : fk_H), fk_ev d qX11_halves 19 [a0, a1, a2, a3, a4, a5] (.int x :: st) h = fk_ev d qX11_halves 20 [a0, a1, a2, .int x, a4, a5] st h) ∧
  (∀ (d : Nat) (L st : List Value) (h : fk_H), fk_ev d qX11_halves 20 L st h = fk_ev d qX11_halves 21 L (.int (nI 0) :: st) h) ∧
  (∀ (d : Nat) (a0 a1 a2 a3 a4 a5 : Value) (x : Int32) (st : List Value) (h : fk_H), fk_ev d qX11_halves 21 [a0, a1, a2, a3, a4, a5] (.int x :: st) h = fk_ev d qX11_halves 23 [a0, a1, a2, a3, .int x, a5] st h) ∧
  (∀ (d : Nat) (L st : List Value) (h : fk_H), fk_ev d qX11_halves 25 L st h = fk_ev d qX11_halves 27 L (.int (nI 16) :: st) h) ∧
  (∀ (d : Nat) (L : List Value) (x y : Int32) (st : List Value) (h : fk_H), fk_ev d qX11_halves 27 L (.int y :: .int x :: st) h = if y ≤ x then fk_ev d qX11_halves 81 L st h else fk_ev d qX11_halves 30 L st h) ∧
  (∀ (d : Nat) (L st : List Value) (h : fk_H), fk_ev d qX11_halves 30 L st h = fk_ev d qX11_halves 32 L (.int (nI 16) :: st) h) ∧
  (∀ (d : Nat) (a0 a1 a3 a4 a5 : Value) (x : Int32) (st : List Value) (h : fk_H), fk_ev d qX11_halves 32 [a0, a1, .int x, a3, a4, a5] st h = fk_ev d qX11_halves 33 [a0, a1, .int x, a3, a4, a5] (.int x :: st) h) ∧
  (∀ (d : Nat) (L : List Value) (x y : Int32) (st : List Value) (h : fk_H), fk_ev d qX11_halves 33 L (.int y :: .int x :: st) h = fk_ev d qX11_halves 34 L (.int (x * y) :: st) h) ∧
  (∀ (d : Nat) (a0 a1 a2 a3 a5 : Value) (x : Int32) (st : List Value) (h : fk_H), fk_ev d qX11_halves 34 [a0, a1, a2, a3, .int x, a5] st h = fk_ev d qX11_halves 36 [a0, a1, a2, a3, .int x, a5] (.int x :: st) h) ∧
  (∀ (d : Nat) (L : List Value) (x y : Int32) (st : List Value) (h : fk_H), fk_ev d qX11_halves 36 L (.int y :: .int x :: st) h = fk_ev d qX11_halves 37 L (.int (x + y) :: st) h) ∧
  (∀ (d : Nat) (a0 a1 a2 a3 a4 a5 : Value) (x : Int32) (st : List Value) (h : fk_H), fk_ev d qX11_halves 37 [a0, a1, a2, a3, a4, a5] (.int x :: st) h = fk_ev d qX11_halves 39 [a0, a1, a2, a3, a4, .int x] st h) ∧
  (∀ (d : Nat) (a1 a2 a3 a4 a5 : Value) (x : Nat) (st : List Value) (h : fk_H), fk_ev d qX11_halves 39 [.ref x, a1, a2, a3, a4, a5] st h = fk_ev d qX11_halves 40 [.ref x, a1, a2, a3, a4, a5] (.ref x :: st) h) ∧
  (∀ (d : Nat) (L st : List Value) (N : Nat) (y : Nat → Nat → Int32) (l : Nat → Nat → Int64), fk_ev d qX11_halves 40 L (.ref 1 :: st) (fk_E N y l) = fk_ev d qX11_halves 43 L (.ref 33 :: st) (fk_E N y l)) ∧
  (∀ (d : Nat) (a0 a1 a2 a3 a4 : Value) (x : Int32) (st : List Value) (h : fk_H), fk_ev d qX11_halves 43 [a0, a1, a2, a3, a4, .int x] st h = fk_ev d qX11_halves 45 [a0, a1, a2, a3, a4, .int x] (.int x :: st) h) ∧
  (∀ (d : Nat) (L : List Value) (x0 : Int32)  (N : Nat) (y : Nat → Nat → Int32) (l : Nat → Nat → Int64) (c : Nat), fk_at c 8 → fk_ev (d + 1) qX11_halves 45 L (.int x0 :: .ref c :: []) (fk_E N y l) = (fk_ev d qX8_isLiving 0 [.ref c, .int x0] [] (fk_E N y l)).bind fun o => fk_ev (d + 1) qX11_halves 48 L (o.1.toList ++ []) o.2) ∧
  (∀ (d : Nat) (L : List Value) (x : Int32) (st : List Value) (h : fk_H), fk_ev d qX11_halves 48 L (.int x :: st) h = if x = nI 0 then fk_ev d qX11_halves 75 L st h else fk_ev d qX11_halves 51 L st h) ∧
  (∀ (d : Nat) (a1 a2 a3 a4 a5 : Value) (x : Nat) (st : List Value) (h : fk_H), fk_ev d qX11_halves 51 [.ref x, a1, a2, a3, a4, a5] st h = fk_ev d qX11_halves 52 [.ref x, a1, a2, a3, a4, a5] (.ref x :: st) h) ∧
  (∀ (d : Nat) (L st : List Value) (N : Nat) (y : Nat → Nat → Int32) (l : Nat → Nat → Int64), fk_ev d qX11_halves 52 L (.ref 1 :: st) (fk_E N y l) = fk_ev d qX11_halves 55 L (.ref 33 :: st) (fk_E N y l)) ∧
  (∀ (d : Nat) (L st : List Value) (N : Nat) (y : Nat → Nat → Int32) (l : Nat → Nat → Int64) (c : Nat), fk_at c 8 → fk_ev d qX11_halves 55 L (.ref c :: st) (fk_E N y l) = fk_ev d qX11_halves 58 L (.ref (fk_cr c 0) :: st) (fk_E N y l)) ∧
  (∀ (d : Nat) (a0 a1 a2 a3 a4 : Value) (x : Int32) (st : List Value) (h : fk_H), fk_ev d qX11_halves 58 [a0, a1, a2, a3, a4, .int x] st h = fk_ev d qX11_halves 60 [a0, a1, a2, a3, a4, .int x] (.int x :: st) h) ∧
  (∀ (d : Nat) (L st : List Value) (N : Nat) (y : Nat → Nat → Int32) (l : Nat → Nat → Int64) (i : Nat), i < 64 → fk_ev d qX11_halves 60 L (.int (nI i) :: .ref 34 :: st) (fk_E N y l) = fk_ev d qX11_halves 61 L (.ref (34 + 2 + i) :: st) (fk_E N y l)) ∧
  (∀ (d : Nat) (L st : List Value) (N : Nat) (y : Nat → Nat → Int32) (l : Nat → Nat → Int64) (c : Nat), fk_at c 0 → fk_ev d qX11_halves 61 L (.ref c :: st) (fk_E N y l) = fk_ev d qX11_halves 64 L (.int (y c 1) :: st) (fk_E N y l)) ∧
  (∀ (d : Nat) (a0 a2 a3 a4 a5 : Value) (x : Int32) (st : List Value) (h : fk_H), fk_ev d qX11_halves 64 [a0, .int x, a2, a3, a4, a5] st h = fk_ev d qX11_halves 65 [a0, .int x, a2, a3, a4, a5] (.int x :: st) h) ∧
  (∀ (d : Nat) (L : List Value) (x y : Int32) (st : List Value) (h : fk_H), fk_ev d qX11_halves 65 L (.int y :: .int x :: st) h = if ¬ x = y then fk_ev d qX11_halves 75 L st h else fk_ev d qX11_halves 68 L st h) ∧
  (∀ (d : Nat) (a0 a1 a2 a4 a5 : Value) (x : Int32) (st : List Value) (h : fk_H), fk_ev d qX11_halves 68 [a0, a1, a2, .int x, a4, a5] st h = fk_ev d qX11_halves 69 [a0, a1, a2, .int x, a4, a5] (.int x :: st) h) ∧
  (∀ (d : Nat) (L st : List Value) (h : fk_H), fk_ev d qX11_halves 69 L st h = fk_ev d qX11_halves 70 L (.int (nI 1) :: st) h) ∧
  (∀ (d : Nat) (a0 a1 a2 a3 a5 : Value) (x : Int32) (st : List Value) (h : fk_H), fk_ev d qX11_halves 70 [a0, a1, a2, a3, .int x, a5] st h = fk_ev d qX11_halves 72 [a0, a1, a2, a3, .int x, a5] (.int x :: st) h) ∧
  (∀ (d : Nat) (L : List Value) (x y : Int32) (st : List Value) (h : fk_H), fk_ev d qX11_halves 72 L (.int y :: .int x :: st) h = fk_ev d qX11_halves 73 L (.int (x <<< (y &&& 31)) :: st) h) ∧
  (∀ (d : Nat) (L : List Value) (x y : Int32) (st : List Value) (h : fk_H), fk_ev d qX11_halves 73 L (.int y :: .int x :: st) h = fk_ev d qX11_halves 74 L (.int (x ||| y) :: st) h) ∧
  (∀ (d : Nat) (a0 a1 a2 a3 a4 a5 : Value) (x : Int32) (st : List Value) (h : fk_H), fk_ev d qX11_halves 74 [a0, a1, a2, a3, a4, a5] (.int x :: st) h = fk_ev d qX11_halves 75 [a0, a1, a2, .int x, a4, a5] st h) ∧
  (∀ (d : Nat) (a0 a1 a2 a3 a5 : Value) (x : Int32) (st : List Value) (h : fk_H), fk_ev d qX11_halves 75 [a0, a1, a2, a3, .int x, a5] st h = fk_ev d qX11_halves 78 [a0, a1, a2, a3, .int (x + nI 1), a5] st h) ∧
  (∀ (d : Nat) (L st : List Value) (h : fk_H), fk_ev d qX11_halves 78 L st h = fk_ev d qX11_halves 23 L st h) ∧
  (∀ (d : Nat) (a0 a1 a2 a4 a5 : Value) (x : Int32) (st : List Value) (h : fk_H), fk_ev d qX11_halves 81 [a0, a1, a2, .int x, a4, a5] st h = fk_ev d qX11_halves 82 [a0, a1, a2, .int x, a4, a5] (.int x :: st) h) ∧
  (∀ (d : Nat) (L : List Value) (x : Int32) (h : fk_H), fk_ev d qX11_halves 82 L [.int x] h = some (some (.int x), h)) := ⟨fun d a0 a2 a3 a4 a5 x st h => fk_w_iloadn 1 [a0, .int x, a2, a3, a4, a5] dX11_halves_0 rfl,
  fun d L st h => fk_w_iconst dX11_halves_1 (by decide),
  fun d L x0 x1 h => fk_g_calls [.int x0, .int x1] [] rfl lm_11_110 dX11_halves_2 rfl ⟨rfl, by decide⟩ (by simp),
  fun d L x st h => fk_r_if_eq dX11_halves_5 (by decide),
  fun d a0 a1 a3 a4 a5 x st h => fk_w_iloadn 2 [a0, a1, .int x, a3, a4, a5] dX11_halves_8 rfl,
  fun d L st h => fk_w_iconst dX11_halves_9 (by decide),
  fun d L x0 x1 h => fk_g_calls [.int x0, .int x1] [] rfl lm_11_110 dX11_halves_10 rfl ⟨rfl, by decide⟩ (by simp),
  fun d L x st h => fk_r_if_ne dX11_halves_13 (by decide),
  fun d L st h => fk_w_iconst dX11_halves_16 (by decide),
  fun d L x h => fk_r_ret dX11_halves_17 (Or.inl rfl),
  fun d L st h => fk_w_iconst dX11_halves_18 (by decide),
  fun d a0 a1 a2 a3 a4 a5 x st h => fk_w_istoren 3 6 [] [a0, a1, a2, a3, a4, a5] [a0, a1, a2, .int x, a4, a5] dX11_halves_19 rfl rfl (by decide) rfl,
  fun d L st h => fk_w_iconst dX11_halves_20 (by decide),
  fun d a0 a1 a2 a3 a4 a5 x st h => fk_w_istore 4 6 [] [a0, a1, a2, a3, a4, a5] [a0, a1, a2, a3, .int x, a5] dX11_halves_21 rfl rfl (by decide) rfl,
  fun d L st h => fk_w_bipush dX11_halves_25 (by decide),
  fun d L x y st h => fk_r_icmp_ge dX11_halves_27 (by decide),
  fun d L st h => fk_w_bipush dX11_halves_30 (by decide),
  fun d a0 a1 a3 a4 a5 x st h => fk_w_iloadn 2 [a0, a1, .int x, a3, a4, a5] dX11_halves_32 rfl,
  fun d L x y st h => fk_r_imul dX11_halves_33,
  fun d a0 a1 a2 a3 a5 x st h => fk_w_iload 4 [a0, a1, a2, a3, .int x, a5] dX11_halves_34 rfl,
  fun d L x y st h => fk_r_iadd dX11_halves_36,
  fun d a0 a1 a2 a3 a4 a5 x st h => fk_w_istore 5 6 [] [a0, a1, a2, a3, a4, a5] [a0, a1, a2, a3, a4, .int x] dX11_halves_37 rfl rfl (by decide) rfl,
  fun d a1 a2 a3 a4 a5 x st h => fk_w_aloadn 0 [.ref x, a1, a2, a3, a4, a5] dX11_halves_39 rfl,
  fun d L st N y l => fk_g_getC rfl lf_11_58 (by decide) rfl dX11_halves_40 fk_at_1,
  fun d a0 a1 a2 a3 a4 x st h => fk_w_iload 5 [a0, a1, a2, a3, a4, .int x] dX11_halves_43 rfl,
  fun d L x0 N y l c hc => fk_g_call [.int x0] [] rfl lm_11_135 dX11_halves_45 rfl ⟨rfl, by decide⟩ (by simp) hc,
  fun d L x st h => fk_r_if_eq dX11_halves_48 (by decide),
  fun d a1 a2 a3 a4 a5 x st h => fk_w_aloadn 0 [.ref x, a1, a2, a3, a4, a5] dX11_halves_51 rfl,
  fun d L st N y l => fk_g_getC rfl lf_11_58 (by decide) rfl dX11_halves_52 fk_at_1,
  fun d L st N y l c hc => fk_g_getC rfl lf_11_139 (by decide) rfl dX11_halves_55 hc,
  fun d a0 a1 a2 a3 a4 x st h => fk_w_iload 5 [a0, a1, a2, a3, a4, .int x] dX11_halves_58 rfl,
  fun d L st N y l i hi => fk_h_aald dX11_halves_60 fk_at_34 hi (by decide),
  fun d L st N y l c hc => fk_g_getI rfl lf_11_218 (by decide) dX11_halves_61 hc,
  fun d a0 a2 a3 a4 a5 x st h => fk_w_iloadn 1 [a0, .int x, a2, a3, a4, a5] dX11_halves_64 rfl,
  fun d L x y st h => fk_r_icmp_ne dX11_halves_65 (by decide),
  fun d a0 a1 a2 a4 a5 x st h => fk_w_iloadn 3 [a0, a1, a2, .int x, a4, a5] dX11_halves_68 rfl,
  fun d L st h => fk_w_iconst dX11_halves_69 (by decide),
  fun d a0 a1 a2 a3 a5 x st h => fk_w_iload 4 [a0, a1, a2, a3, .int x, a5] dX11_halves_70 rfl,
  fun d L x y st h => fk_r_ishl dX11_halves_72,
  fun d L x y st h => fk_r_ior dX11_halves_73,
  fun d a0 a1 a2 a3 a4 a5 x st h => fk_w_istoren 3 6 [] [a0, a1, a2, a3, a4, a5] [a0, a1, a2, .int x, a4, a5] dX11_halves_74 rfl rfl (by decide) rfl,
  fun d a0 a1 a2 a3 a5 x st h => fk_w_iinc 4 6 (1) [] [a0, a1, a2, a3, .int x, a5] [a0, a1, a2, a3, .int (x + nI 1), a5] dX11_halves_75 rfl rfl rfl (by decide) rfl,
  fun d L st h => fk_r_goto dX11_halves_78 (by decide),
  fun d a0 a1 a2 a4 a5 x st h => fk_w_iloadn 3 [a0, a1, a2, .int x, a4, a5] dX11_halves_81 rfl,
  fun d L x h => fk_r_ret dX11_halves_82 (Or.inl rfl)⟩
theorem hX11_halves_23 : ∀ (d : Nat) (a0 a1 a2 a3 a5 : Value) (x : Int32) (st : List Value) (h : fk_H), fk_ev d qX11_halves 23 [a0, a1, a2, a3, .int x, a5] st h = fk_ev d qX11_halves 25 [a0, a1, a2, a3, .int x, a5] (.int x :: st) h := fun d a0 a1 a2 a3 a5 x st h => fk_w_iload 4 [a0, a1, a2, a3, .int x, a5] dX11_halves_23 rfl
theorem dX11_was_0 : decode cX11_was 0 = .ok (.aload_n 0, 1) := by decide +kernel
theorem dX11_was_1 : decode cX11_was 1 = .ok (.getfield 58, 3) := by decide +kernel
theorem dX11_was_4 : decode cX11_was 4 = .ok (.iload_n 1, 1) := by decide +kernel
theorem dX11_was_5 : decode cX11_was 5 = .ok (.invokevirtual 215, 3) := by decide +kernel
theorem dX11_was_8 : decode cX11_was 8 = .ok (.ifCond .eq 19, 3) := by decide +kernel
theorem dX11_was_11 : decode cX11_was 11 = .ok (.aload_n 0, 1) := by decide +kernel
theorem dX11_was_12 : decode cX11_was 12 = .ok (.getfield 71, 3) := by decide +kernel
theorem dX11_was_15 : decode cX11_was 15 = .ok (.aload_n 0, 1) := by decide +kernel
theorem dX11_was_16 : decode cX11_was 16 = .ok (.getfield 58, 3) := by decide +kernel
theorem dX11_was_19 : decode cX11_was 19 = .ok (.iload_n 1, 1) := by decide +kernel
theorem dX11_was_20 : decode cX11_was 20 = .ok (.iload_n 2, 1) := by decide +kernel
theorem dX11_was_21 : decode cX11_was 21 = .ok (.invokevirtual 265, 3) := by decide +kernel
theorem dX11_was_24 : decode cX11_was 24 = .ok (.goto 4, 3) := by decide +kernel
theorem dX11_was_27 : decode cX11_was 27 = .ok (.iconst (-1), 1) := by decide +kernel
theorem dX11_was_28 : decode cX11_was 28 = .ok (.ireturn, 1) := by decide +kernel
theorem rX11_was : (∀ (d : Nat) (a1 a2 : Value) (x : Nat) (st : List Value) (h : fk_H), fk_ev d qX11_was 0 [.ref x, a1, a2] st h = fk_ev d qX11_was 1 [.ref x, a1, a2] (.ref x :: st) h) ∧
  (∀ (d : Nat) (L st : List Value) (N : Nat) (y : Nat → Nat → Int32) (l : Nat → Nat → Int64), fk_ev d qX11_was 1 L (.ref 1 :: st) (fk_E N y l) = fk_ev d qX11_was 4 L (.ref 33 :: st) (fk_E N y l)) ∧
  (∀ (d : Nat) (a0 a2 : Value) (x : Int32) (st : List Value) (h : fk_H), fk_ev d qX11_was 4 [a0, .int x, a2] st h = fk_ev d qX11_was 5 [a0, .int x, a2] (.int x :: st) h) ∧
  (∀ (d : Nat) (L : List Value) (x0 : Int32)  (N : Nat) (y : Nat → Nat → Int32) (l : Nat → Nat → Int64) (c : Nat), fk_at c 8 → fk_ev (d + 1) qX11_was 5 L (.int x0 :: .ref c :: []) (fk_E N y l) = (fk_ev d qX8_hasBeen 0 [.ref c, .int x0] [] (fk_E N y l)).bind fun o => fk_ev (d + 1) qX11_was 8 L (o.1.toList ++ []) o.2) ∧
  (∀ (d : Nat) (L : List Value) (x : Int32) (st : List Value) (h : fk_H), fk_ev d qX11_was 8 L (.int x :: st) h = if x = nI 0 then fk_ev d qX11_was 27 L st h else fk_ev d qX11_was 11 L st h) ∧
  (∀ (d : Nat) (a1 a2 : Value) (x : Nat) (st : List Value) (h : fk_H), fk_ev d qX11_was 11 [.ref x, a1, a2] st h = fk_ev d qX11_was 12 [.ref x, a1, a2] (.ref x :: st) h) ∧
  (∀ (d : Nat) (L st : List Value) (N : Nat) (y : Nat → Nat → Int32) (l : Nat → Nat → Int64), fk_ev d qX11_was 12 L (.ref 1 :: st) (fk_E N y l) = fk_ev d qX11_was 15 L (.ref 234 :: st) (fk_E N y l)) ∧
  (∀ (d : Nat) (a1 a2 : Value) (x : Nat) (st : List Value) (h : fk_H), fk_ev d qX11_was 15 [.ref x, a1, a2] st h = fk_ev d qX11_was 16 [.ref x, a1, a2] (.ref x :: st) h) ∧
  (∀ (d : Nat) (L st : List Value) (N : Nat) (y : Nat → Nat → Int32) (l : Nat → Nat → Int64), fk_ev d qX11_was 16 L (.ref 1 :: st) (fk_E N y l) = fk_ev d qX11_was 19 L (.ref 33 :: st) (fk_E N y l)) ∧
  (∀ (d : Nat) (a0 a2 : Value) (x : Int32) (st : List Value) (h : fk_H), fk_ev d qX11_was 19 [a0, .int x, a2] st h = fk_ev d qX11_was 20 [a0, .int x, a2] (.int x :: st) h) ∧
  (∀ (d : Nat) (a0 a1 : Value) (x : Int32) (st : List Value) (h : fk_H), fk_ev d qX11_was 20 [a0, a1, .int x] st h = fk_ev d qX11_was 21 [a0, a1, .int x] (.int x :: st) h) ∧
  (∀ (d : Nat) (L : List Value) (x0 : Nat) (x1 : Int32) (x2 : Int32)  (N : Nat) (y : Nat → Nat → Int32) (l : Nat → Nat → Int64) (c : Nat), fk_at c 7 → fk_ev (d + 1) qX11_was 21 L (.int x2 :: .int x1 :: .ref x0 :: .ref c :: []) (fk_E N y l) = (fk_ev d qX7_whereWas 0 [.ref c, .ref x0, .int x1, .int x2, .null, .null] [] (fk_E N y l)).bind fun o => fk_ev (d + 1) qX11_was 24 L (o.1.toList ++ []) o.2) ∧
  (∀ (d : Nat) (L st : List Value) (h : fk_H), fk_ev d qX11_was 24 L st h = fk_ev d qX11_was 28 L st h) ∧
  (∀ (d : Nat) (L st : List Value) (h : fk_H), fk_ev d qX11_was 27 L st h = fk_ev d qX11_was 28 L (.int ((-1 : Int32)) :: st) h) ∧
  (∀ (d : Nat) (L : List Value) (x : Int32) (h : fk_H), fk_ev d qX11_was 28 L [.int x] h = some (some (.int x), h)) := ⟨fun d a1 a2 x st h => fk_w_aloadn 0 [.ref x, a1, a2] dX11_was_0 rfl,
  fun d L st N y l => fk_g_getC rfl lf_11_58 (by decide) rfl dX11_was_1 fk_at_1,
  fun d a0 a2 x st h => fk_w_iloadn 1 [a0, .int x, a2] dX11_was_4 rfl,
  fun d L x0 N y l c hc => fk_g_call [.int x0] [] rfl lm_11_215 dX11_was_5 rfl ⟨rfl, by decide⟩ (by simp) hc,
  fun d L x st h => fk_r_if_eq dX11_was_8 (by decide),
  fun d a1 a2 x st h => fk_w_aloadn 0 [.ref x, a1, a2] dX11_was_11 rfl,
  fun d L st N y l => fk_g_getC rfl lf_11_71 (by decide) rfl dX11_was_12 fk_at_1,
  fun d a1 a2 x st h => fk_w_aloadn 0 [.ref x, a1, a2] dX11_was_15 rfl,
  fun d L st N y l => fk_g_getC rfl lf_11_58 (by decide) rfl dX11_was_16 fk_at_1,
  fun d a0 a2 x st h => fk_w_iloadn 1 [a0, .int x, a2] dX11_was_19 rfl,
  fun d a0 a1 x st h => fk_w_iloadn 2 [a0, a1, .int x] dX11_was_20 rfl,
  fun d L x0 x1 x2 N y l c hc => fk_g_call [.ref x0, .int x1, .int x2] [] rfl lm_11_265 dX11_was_21 rfl ⟨rfl, by decide⟩ (by simp) hc,
  fun d L st h => fk_r_goto dX11_was_24 (by decide),
  fun d L st h => fk_w_iconst dX11_was_27 (by decide),
  fun d L x h => fk_r_ret dX11_was_28 (Or.inl rfl)⟩
theorem dX11_byForks_0 : decode cX11_byForks 0 = .ok (.iload_n 1, 1) := by decide +kernel
theorem dX11_byForks_1 : decode cX11_byForks 1 = .ok (.bipush 16, 2) := by decide +kernel
theorem dX11_byForks_3 : decode cX11_byForks 3 = .ok (.invokestatic 110, 3) := by decide +kernel
theorem dX11_byForks_6 : decode cX11_byForks 6 = .ok (.ifCond .eq 13, 3) := by decide +kernel
theorem dX11_byForks_9 : decode cX11_byForks 9 = .ok (.iload_n 2, 1) := by decide +kernel
theorem dX11_byForks_10 : decode cX11_byForks 10 = .ok (.ifCond .lt 9, 3) := by decide +kernel
theorem dX11_byForks_13 : decode cX11_byForks 13 = .ok (.iload_n 2, 1) := by decide +kernel
theorem dX11_byForks_14 : decode cX11_byForks 14 = .ok (.bipush 60, 2) := by decide +kernel
theorem dX11_byForks_16 : decode cX11_byForks 16 = .ok (.if_icmp .le 7, 3) := by decide +kernel
theorem dX11_byForks_19 : decode cX11_byForks 19 = .ok (.ldc2_w 269, 3) := by decide +kernel
theorem dX11_byForks_22 : decode cX11_byForks 22 = .ok (.lreturn, 1) := by decide +kernel
theorem dX11_byForks_23 : decode cX11_byForks 23 = .ok (.aload_n 0, 1) := by decide +kernel
theorem dX11_byForks_24 : decode cX11_byForks 24 = .ok (.getfield 26, 3) := by decide +kernel
theorem dX11_byForks_27 : decode cX11_byForks 27 = .ok (.iload_n 1, 1) := by decide +kernel
theorem dX11_byForks_28 : decode cX11_byForks 28 = .ok (.iload_n 2, 1) := by decide +kernel
theorem dX11_byForks_29 : decode cX11_byForks 29 = .ok (.invokevirtual 271, 3) := by decide +kernel
theorem dX11_byForks_32 : decode cX11_byForks 32 = .ok (.lreturn, 1) := by decide +kernel
theorem rX11_byForks : (∀ (d : Nat) (a0 a2 : Value) (x : Int32) (st : List Value) (h : fk_H), fk_ev d qX11_byForks 0 [a0, .int x, a2] st h = fk_ev d qX11_byForks 1 [a0, .int x, a2] (.int x :: st) h) ∧
  (∀ (d : Nat) (L st : List Value) (h : fk_H), fk_ev d qX11_byForks 1 L st h = fk_ev d qX11_byForks 3 L (.int (nI 16) :: st) h) ∧
  (∀ (d : Nat) (L : List Value) (x0 : Int32) (x1 : Int32)  (h : fk_H), fk_ev (d + 1) qX11_byForks 3 L (.int x1 :: .int x0 :: []) h = (fk_ev d qX11_within 0 [.int x0, .int x1] [] h).bind fun o => fk_ev (d + 1) qX11_byForks 6 L (o.1.toList ++ []) o.2) ∧
  (∀ (d : Nat) (L : List Value) (x : Int32) (st : List Value) (h : fk_H), fk_ev d qX11_byForks 6 L (.int x :: st) h = if x = nI 0 then fk_ev d qX11_byForks 19 L st h else fk_ev d qX11_byForks 9 L st h) ∧
  (∀ (d : Nat) (a0 a1 : Value) (x : Int32) (st : List Value) (h : fk_H), fk_ev d qX11_byForks 9 [a0, a1, .int x] st h = fk_ev d qX11_byForks 10 [a0, a1, .int x] (.int x :: st) h) ∧
  (∀ (d : Nat) (L : List Value) (x : Int32) (st : List Value) (h : fk_H), fk_ev d qX11_byForks 10 L (.int x :: st) h = if x < nI 0 then fk_ev d qX11_byForks 19 L st h else fk_ev d qX11_byForks 13 L st h) ∧
  (∀ (d : Nat) (a0 a1 : Value) (x : Int32) (st : List Value) (h : fk_H), fk_ev d qX11_byForks 13 [a0, a1, .int x] st h = fk_ev d qX11_byForks 14 [a0, a1, .int x] (.int x :: st) h) ∧
  (∀ (d : Nat) (L st : List Value) (h : fk_H), fk_ev d qX11_byForks 14 L st h = fk_ev d qX11_byForks 16 L (.int (nI 60) :: st) h) ∧
  (∀ (d : Nat) (L : List Value) (x y : Int32) (st : List Value) (h : fk_H), fk_ev d qX11_byForks 16 L (.int y :: .int x :: st) h = if x ≤ y then fk_ev d qX11_byForks 23 L st h else fk_ev d qX11_byForks 19 L st h) ∧
  (∀ (d : Nat) (L st : List Value) (h : fk_H), fk_ev d qX11_byForks 19 L st h = fk_ev d qX11_byForks 22 L (.long (-1) :: st) h) ∧
  (∀ (d : Nat) (L : List Value) (x : Int64) (h : fk_H), fk_ev d qX11_byForks 22 L [.long x] h = some (some (.long x), h)) ∧
  (∀ (d : Nat) (a1 a2 : Value) (x : Nat) (st : List Value) (h : fk_H), fk_ev d qX11_byForks 23 [.ref x, a1, a2] st h = fk_ev d qX11_byForks 24 [.ref x, a1, a2] (.ref x :: st) h) ∧
  (∀ (d : Nat) (L st : List Value) (N : Nat) (y : Nat → Nat → Int32) (l : Nat → Nat → Int64), fk_ev d qX11_byForks 24 L (.ref 1 :: st) (fk_E N y l) = fk_ev d qX11_byForks 27 L (.ref 18 :: st) (fk_E N y l)) ∧
  (∀ (d : Nat) (a0 a2 : Value) (x : Int32) (st : List Value) (h : fk_H), fk_ev d qX11_byForks 27 [a0, .int x, a2] st h = fk_ev d qX11_byForks 28 [a0, .int x, a2] (.int x :: st) h) ∧
  (∀ (d : Nat) (a0 a1 : Value) (x : Int32) (st : List Value) (h : fk_H), fk_ev d qX11_byForks 28 [a0, a1, .int x] st h = fk_ev d qX11_byForks 29 [a0, a1, .int x] (.int x :: st) h) ∧
  (∀ (d : Nat) (L : List Value) (x0 : Int32) (x1 : Int32)  (N : Nat) (y : Nat → Nat → Int32) (l : Nat → Nat → Int64), fk_ev (d + 1) qX11_byForks 29 L (.int x1 :: .int x0 :: .ref 18 :: []) (fk_E N y l) = (fk_ev d qX5_forked 0 [.ref 18, .int x0, .int x1, .null, .null] [] (fk_E N y l)).bind fun o => fk_ev (d + 1) qX11_byForks 32 L (o.1.toList ++ []) o.2) ∧
  (∀ (d : Nat) (L : List Value) (x : Int64) (h : fk_H), fk_ev d qX11_byForks 32 L [.long x] h = some (some (.long x), h)) := ⟨fun d a0 a2 x st h => fk_w_iloadn 1 [a0, .int x, a2] dX11_byForks_0 rfl,
  fun d L st h => fk_w_bipush dX11_byForks_1 (by decide),
  fun d L x0 x1 h => fk_g_calls [.int x0, .int x1] [] rfl lm_11_110 dX11_byForks_3 rfl ⟨rfl, by decide⟩ (by simp),
  fun d L x st h => fk_r_if_eq dX11_byForks_6 (by decide),
  fun d a0 a1 x st h => fk_w_iloadn 2 [a0, a1, .int x] dX11_byForks_9 rfl,
  fun d L x st h => fk_r_if_lt dX11_byForks_10 (by decide),
  fun d a0 a1 x st h => fk_w_iloadn 2 [a0, a1, .int x] dX11_byForks_13 rfl,
  fun d L st h => fk_w_bipush dX11_byForks_14 (by decide),
  fun d L x y st h => fk_r_icmp_le dX11_byForks_16 (by decide),
  fun d L st h => fk_r_ldc2 dX11_byForks_19 (by decide +kernel),
  fun d L x h => fk_r_lret dX11_byForks_22 rfl,
  fun d a1 a2 x st h => fk_w_aloadn 0 [.ref x, a1, a2] dX11_byForks_23 rfl,
  fun d L st N y l => fk_g_getC rfl lf_11_26 (by decide) rfl dX11_byForks_24 fk_at_1,
  fun d a0 a2 x st h => fk_w_iloadn 1 [a0, .int x, a2] dX11_byForks_27 rfl,
  fun d a0 a1 x st h => fk_w_iloadn 2 [a0, a1, .int x] dX11_byForks_28 rfl,
  fun d L x0 x1 N y l  => fk_g_call [.int x0, .int x1] [] rfl lm_11_271 dX11_byForks_29 rfl ⟨rfl, by decide⟩ (by simp) fk_at_18,
  fun d L x h => fk_r_lret dX11_byForks_32 rfl⟩
theorem dX11_plan_0 : decode cX11_plan 0 = .ok (.iload_n 1, 1) := by decide +kernel
theorem dX11_plan_1 : decode cX11_plan 1 = .ok (.iconst 4, 1) := by decide +kernel
theorem dX11_plan_2 : decode cX11_plan 2 = .ok (.invokestatic 110, 3) := by decide +kernel
theorem dX11_plan_5 : decode cX11_plan 5 = .ok (.ifCond .eq 30, 3) := by decide +kernel
theorem dX11_plan_8 : decode cX11_plan 8 = .ok (.iload_n 2, 1) := by decide +kernel
theorem dX11_plan_9 : decode cX11_plan 9 = .ok (.ldc_w 275, 3) := by decide +kernel
theorem dX11_plan_12 : decode cX11_plan 12 = .ok (.invokestatic 110, 3) := by decide +kernel
theorem dX11_plan_15 : decode cX11_plan 15 = .ok (.ifCond .eq 20, 3) := by decide +kernel
theorem dX11_plan_18 : decode cX11_plan 18 = .ok (.iload 4, 2) := by decide +kernel
theorem dX11_plan_20 : decode cX11_plan 20 = .ok (.iconst 3, 1) := by decide +kernel
theorem dX11_plan_21 : decode cX11_plan 21 = .ok (.invokestatic 110, 3) := by decide +kernel
theorem dX11_plan_24 : decode cX11_plan 24 = .ok (.ifCond .eq 11, 3) := by decide +kernel
theorem dX11_plan_27 : decode cX11_plan 27 = .ok (.aload_n 0, 1) := by decide +kernel
theorem dX11_plan_28 : decode cX11_plan 28 = .ok (.iload_n 3, 1) := by decide +kernel
theorem dX11_plan_29 : decode cX11_plan 29 = .ok (.invokevirtual 173, 3) := by decide +kernel
theorem dX11_plan_32 : decode cX11_plan 32 = .ok (.ifCond .ne 5, 3) := by decide +kernel
theorem dX11_plan_35 : decode cX11_plan 35 = .ok (.iconst (-1), 1) := by decide +kernel
theorem dX11_plan_36 : decode cX11_plan 36 = .ok (.ireturn, 1) := by decide +kernel
theorem dX11_plan_37 : decode cX11_plan 37 = .ok (.aload_n 0, 1) := by decide +kernel
theorem dX11_plan_38 : decode cX11_plan 38 = .ok (.getfield 58, 3) := by decide +kernel
theorem dX11_plan_41 : decode cX11_plan 41 = .ok (.iload_n 1, 1) := by decide +kernel
theorem dX11_plan_42 : decode cX11_plan 42 = .ok (.invokevirtual 276, 3) := by decide +kernel
theorem dX11_plan_45 : decode cX11_plan 45 = .ok (.istore 5, 2) := by decide +kernel
theorem dX11_plan_47 : decode cX11_plan 47 = .ok (.aload_n 0, 1) := by decide +kernel
theorem dX11_plan_48 : decode cX11_plan 48 = .ok (.getfield 58, 3) := by decide +kernel
theorem dX11_plan_51 : decode cX11_plan 51 = .ok (.iload 5, 2) := by decide +kernel
theorem dX11_plan_53 : decode cX11_plan 53 = .ok (.invokevirtual 252, 3) := by decide +kernel
theorem dX11_plan_56 : decode cX11_plan 56 = .ok (.ifCond .ne 5, 3) := by decide +kernel
theorem dX11_plan_59 : decode cX11_plan 59 = .ok (.iconst (-1), 1) := by decide +kernel
theorem dX11_plan_60 : decode cX11_plan 60 = .ok (.ireturn, 1) := by decide +kernel
theorem dX11_plan_61 : decode cX11_plan 61 = .ok (.aload_n 0, 1) := by decide +kernel
theorem dX11_plan_62 : decode cX11_plan 62 = .ok (.getfield 92, 3) := by decide +kernel
theorem dX11_plan_65 : decode cX11_plan 65 = .ok (.aload_n 0, 1) := by decide +kernel
theorem dX11_plan_66 : decode cX11_plan 66 = .ok (.getfield 58, 3) := by decide +kernel
theorem dX11_plan_69 : decode cX11_plan 69 = .ok (.aload_n 0, 1) := by decide +kernel
theorem dX11_plan_70 : decode cX11_plan 70 = .ok (.getfield 10, 3) := by decide +kernel
theorem dX11_plan_73 : decode cX11_plan 73 = .ok (.iload 5, 2) := by decide +kernel
theorem dX11_plan_75 : decode cX11_plan 75 = .ok (.iload_n 2, 1) := by decide +kernel
theorem dX11_plan_76 : decode cX11_plan 76 = .ok (.iload_n 3, 1) := by decide +kernel
theorem dX11_plan_77 : decode cX11_plan 77 = .ok (.invokevirtual 279, 3) := by decide +kernel
theorem dX11_plan_80 : decode cX11_plan 80 = .ok (.aload_n 0, 1) := by decide +kernel
theorem dX11_plan_81 : decode cX11_plan 81 = .ok (.getfield 92, 3) := by decide +kernel
theorem dX11_plan_84 : decode cX11_plan 84 = .ok (.getfield 283, 3) := by decide +kernel
theorem dX11_plan_87 : decode cX11_plan 87 = .ok (.ifCond .ge 6, 3) := by decide +kernel
theorem dX11_plan_90 : decode cX11_plan 90 = .ok (.bipush (-2), 2) := by decide +kernel
theorem dX11_plan_92 : decode cX11_plan 92 = .ok (.ireturn, 1) := by decide +kernel
theorem dX11_plan_93 : decode cX11_plan 93 = .ok (.iload 4, 2) := by decide +kernel
theorem dX11_plan_95 : decode cX11_plan 95 = .ok (.lookupswitch 41 #[(0, 25), (1, 33)], 25) := by decide +kernel
theorem dX11_plan_120 : decode cX11_plan 120 = .ok (.aload_n 0, 1) := by decide +kernel
theorem dX11_plan_121 : decode cX11_plan 121 = .ok (.getfield 92, 3) := by decide +kernel
theorem dX11_plan_124 : decode cX11_plan 124 = .ok (.getfield 283, 3) := by decide +kernel
theorem dX11_plan_127 : decode cX11_plan 127 = .ok (.ireturn, 1) := by decide +kernel
theorem dX11_plan_128 : decode cX11_plan 128 = .ok (.aload_n 0, 1) := by decide +kernel
theorem dX11_plan_129 : decode cX11_plan 129 = .ok (.getfield 92, 3) := by decide +kernel
theorem dX11_plan_132 : decode cX11_plan 132 = .ok (.getfield 286, 3) := by decide +kernel
theorem dX11_plan_135 : decode cX11_plan 135 = .ok (.ireturn, 1) := by decide +kernel
theorem dX11_plan_136 : decode cX11_plan 136 = .ok (.aload_n 0, 1) := by decide +kernel
theorem dX11_plan_137 : decode cX11_plan 137 = .ok (.getfield 92, 3) := by decide +kernel
theorem dX11_plan_140 : decode cX11_plan 140 = .ok (.getfield 289, 3) := by decide +kernel
theorem dX11_plan_143 : decode cX11_plan 143 = .ok (.ireturn, 1) := by decide +kernel
theorem rX11_plan : (∀ (d : Nat) (a0 a2 a3 a4 a5 : Value) (x : Int32) (st : List Value) (h : fk_H), fk_ev d qX11_plan 0 [a0, .int x, a2, a3, a4, a5] st h = fk_ev d qX11_plan 1 [a0, .int x, a2, a3, a4, a5] (.int x :: st) h) ∧
  (∀ (d : Nat) (L st : List Value) (h : fk_H), fk_ev d qX11_plan 1 L st h = fk_ev d qX11_plan 2 L (.int (nI 4) :: st) h) ∧
  (∀ (d : Nat) (L : List Value) (x0 : Int32) (x1 : Int32)  (h : fk_H), fk_ev (d + 1) qX11_plan 2 L (.int x1 :: .int x0 :: []) h = (fk_ev d qX11_within 0 [.int x0, .int x1] [] h).bind fun o => fk_ev (d + 1) qX11_plan 5 L (o.1.toList ++ []) o.2) ∧
  (∀ (d : Nat) (L : List Value) (x : Int32) (st : List Value) (h : fk_H), fk_ev d qX11_plan 5 L (.int x :: st) h = if x = nI 0 then fk_ev d qX11_plan 35 L st h else fk_ev d qX11_plan 8 L st h) ∧
  (∀ (d : Nat) (a0 a1 a3 a4 a5 : Value) (x : Int32) (st : List Value) (h : fk_H), fk_ev d qX11_plan 8 [a0, a1, .int x, a3, a4, a5] st h = fk_ev d qX11_plan 9 [a0, a1, .int x, a3, a4, a5] (.int x :: st) h) ∧
  (∀ (d : Nat) (L st : List Value) (h : fk_H), fk_ev d qX11_plan 9 L st h = fk_ev d qX11_plan 12 L (.int (nI 65536) :: st) h) ∧
  (∀ (d : Nat) (L : List Value) (x0 : Int32) (x1 : Int32)  (h : fk_H), fk_ev (d + 1) qX11_plan 12 L (.int x1 :: .int x0 :: []) h = (fk_ev d qX11_within 0 [.int x0, .int x1] [] h).bind fun o => fk_ev (d + 1) qX11_plan 15 L (o.1.toList ++ []) o.2) ∧
  (∀ (d : Nat) (L : List Value) (x : Int32) (st : List Value) (h : fk_H), fk_ev d qX11_plan 15 L (.int x :: st) h = if x = nI 0 then fk_ev d qX11_plan 35 L st h else fk_ev d qX11_plan 18 L st h) ∧
  (∀ (d : Nat) (a0 a1 a2 a3 a5 : Value) (x : Int32) (st : List Value) (h : fk_H), fk_ev d qX11_plan 18 [a0, a1, a2, a3, .int x, a5] st h = fk_ev d qX11_plan 20 [a0, a1, a2, a3, .int x, a5] (.int x :: st) h) ∧
  (∀ (d : Nat) (L st : List Value) (h : fk_H), fk_ev d qX11_plan 20 L st h = fk_ev d qX11_plan 21 L (.int (nI 3) :: st) h) ∧
  (∀ (d : Nat) (L : List Value) (x0 : Int32) (x1 : Int32)  (h : fk_H), fk_ev (d + 1) qX11_plan 21 L (.int x1 :: .int x0 :: []) h = (fk_ev d qX11_within 0 [.int x0, .int x1] [] h).bind fun o => fk_ev (d + 1) qX11_plan 24 L (o.1.toList ++ []) o.2) ∧
  (∀ (d : Nat) (L : List Value) (x : Int32) (st : List Value) (h : fk_H), fk_ev d qX11_plan 24 L (.int x :: st) h = if x = nI 0 then fk_ev d qX11_plan 35 L st h else fk_ev d qX11_plan 27 L st h) ∧
  (∀ (d : Nat) (a1 a2 a3 a4 a5 : Value) (x : Nat) (st : List Value) (h : fk_H), fk_ev d qX11_plan 27 [.ref x, a1, a2, a3, a4, a5] st h = fk_ev d qX11_plan 28 [.ref x, a1, a2, a3, a4, a5] (.ref x :: st) h) ∧
  (∀ (d : Nat) (a0 a1 a2 a4 a5 : Value) (x : Int32) (st : List Value) (h : fk_H), fk_ev d qX11_plan 28 [a0, a1, a2, .int x, a4, a5] st h = fk_ev d qX11_plan 29 [a0, a1, a2, .int x, a4, a5] (.int x :: st) h) ∧
  (∀ (d : Nat) (L : List Value) (x0 : Int32)  (N : Nat) (y : Nat → Nat → Int32) (l : Nat → Nat → Int64), fk_ev (d + 1) qX11_plan 29 L (.int x0 :: .ref 1 :: []) (fk_E N y l) = (fk_ev d qX11_canPass 0 [.ref 1, .int x0] [] (fk_E N y l)).bind fun o => fk_ev (d + 1) qX11_plan 32 L (o.1.toList ++ []) o.2) ∧
  (∀ (d : Nat) (L : List Value) (x : Int32) (st : List Value) (h : fk_H), fk_ev d qX11_plan 32 L (.int x :: st) h = if ¬ x = nI 0 then fk_ev d qX11_plan 37 L st h else fk_ev d qX11_plan 35 L st h) ∧
  (∀ (d : Nat) (L st : List Value) (h : fk_H), fk_ev d qX11_plan 35 L st h = fk_ev d qX11_plan 36 L (.int ((-1 : Int32)) :: st) h) ∧
  (∀ (d : Nat) (L : List Value) (x : Int32) (h : fk_H), fk_ev d qX11_plan 36 L [.int x] h = some (some (.int x), h)) ∧
  (∀ (d : Nat) (a1 a2 a3 a4 a5 : Value) (x : Nat) (st : List Value) (h : fk_H), fk_ev d qX11_plan 37 [.ref x, a1, a2, a3, a4, a5] st h = fk_ev d qX11_plan 38 [.ref x, a1, a2, a3, a4, a5] (.ref x :: st) h) ∧
  (∀ (d : Nat) (L st : List Value) (N : Nat) (y : Nat → Nat → Int32) (l : Nat → Nat → Int64), fk_ev d qX11_plan 38 L (.ref 1 :: st) (fk_E N y l) = fk_ev d qX11_plan 41 L (.ref 33 :: st) (fk_E N y l)) ∧
  (∀ (d : Nat) (a0 a2 a3 a4 a5 : Value) (x : Int32) (st : List Value) (h : fk_H), fk_ev d qX11_plan 41 [a0, .int x, a2, a3, a4, a5] st h = fk_ev d qX11_plan 42 [a0, .int x, a2, a3, a4, a5] (.int x :: st) h) ∧
  (∀ (d : Nat) (L : List Value) (x0 : Int32)  (N : Nat) (y : Nat → Nat → Int32) (l : Nat → Nat → Int64) (c : Nat), fk_at c 8 → fk_ev (d + 1) qX11_plan 42 L (.int x0 :: .ref c :: []) (fk_E N y l) = (fk_ev d qX8_onlyOneOf 0 [.ref c, .int x0, .null] [] (fk_E N y l)).bind fun o => fk_ev (d + 1) qX11_plan 45 L (o.1.toList ++ []) o.2) ∧
  (∀ (d : Nat) (a0 a1 a2 a3 a4 a5 : Value) (x : Int32) (st : List Value) (h : fk_H), fk_ev d qX11_plan 45 [a0, a1, a2, a3, a4, a5] (.int x :: st) h = fk_ev d qX11_plan 47 [a0, a1, a2, a3, a4, .int x] st h) ∧
  (∀ (d : Nat) (a1 a2 a3 a4 a5 : Value) (x : Nat) (st : List Value) (h : fk_H), fk_ev d qX11_plan 47 [.ref x, a1, a2, a3, a4, a5] st h = fk_ev d qX11_plan 48 [.ref x, a1, a2, a3, a4, a5] (.ref x :: st) h) ∧
  (∀ (d : Nat) (L st : List Value) (N : Nat) (y : Nat → Nat → Int32) (l : Nat → Nat → Int64), fk_ev d qX11_plan 48 L (.ref 1 :: st) (fk_E N y l) = fk_ev d qX11_plan 51 L (.ref 33 :: st) (fk_E N y l)) ∧
  (∀ (d : Nat) (a0 a1 a2 a3 a4 : Value) (x : Int32) (st : List Value) (h : fk_H), fk_ev d qX11_plan 51 [a0, a1, a2, a3, a4, .int x] st h = fk_ev d qX11_plan 53 [a0, a1, a2, a3, a4, .int x] (.int x :: st) h) ∧
  (∀ (d : Nat) (L : List Value) (x0 : Int32)  (N : Nat) (y : Nat → Nat → Int32) (l : Nat → Nat → Int64) (c : Nat), fk_at c 8 → fk_ev (d + 1) qX11_plan 53 L (.int x0 :: .ref c :: []) (fk_E N y l) = (fk_ev d qX8_isAtPlace 0 [.ref c, .int x0] [] (fk_E N y l)).bind fun o => fk_ev (d + 1) qX11_plan 56 L (o.1.toList ++ []) o.2) ∧
  (∀ (d : Nat) (L : List Value) (x : Int32) (st : List Value) (h : fk_H), fk_ev d qX11_plan 56 L (.int x :: st) h = if ¬ x = nI 0 then fk_ev d qX11_plan 61 L st h else fk_ev d qX11_plan 59 L st h) ∧
  (∀ (d : Nat) (L st : List Value) (h : fk_H), fk_ev d qX11_plan 59 L st h = fk_ev d qX11_plan 60 L (.int ((-1 : Int32)) :: st) h) ∧
  (∀ (d : Nat) (L : List Value) (x : Int32) (h : fk_H), fk_ev d qX11_plan 60 L [.int x] h = some (some (.int x), h)) ∧
  (∀ (d : Nat) (a1 a2 a3 a4 a5 : Value) (x : Nat) (st : List Value) (h : fk_H), fk_ev d qX11_plan 61 [.ref x, a1, a2, a3, a4, a5] st h = fk_ev d qX11_plan 62 [.ref x, a1, a2, a3, a4, a5] (.ref x :: st) h) ∧
  (∀ (d : Nat) (L st : List Value) (N : Nat) (y : Nat → Nat → Int32) (l : Nat → Nat → Int64), fk_ev d qX11_plan 62 L (.ref 1 :: st) (fk_E N y l) = fk_ev d qX11_plan 65 L (.ref 240 :: st) (fk_E N y l)) ∧
  (∀ (d : Nat) (a1 a2 a3 a4 a5 : Value) (x : Nat) (st : List Value) (h : fk_H), fk_ev d qX11_plan 65 [.ref x, a1, a2, a3, a4, a5] st h = fk_ev d qX11_plan 66 [.ref x, a1, a2, a3, a4, a5] (.ref x :: st) h) ∧
  (∀ (d : Nat) (L st : List Value) (N : Nat) (y : Nat → Nat → Int32) (l : Nat → Nat → Int64), fk_ev d qX11_plan 66 L (.ref 1 :: st) (fk_E N y l) = fk_ev d qX11_plan 69 L (.ref 33 :: st) (fk_E N y l)) ∧
  (∀ (d : Nat) (a1 a2 a3 a4 a5 : Value) (x : Nat) (st : List Value) (h : fk_H), fk_ev d qX11_plan 69 [.ref x, a1, a2, a3, a4, a5] st h = fk_ev d qX11_plan 70 [.ref x, a1, a2, a3, a4, a5] (.ref x :: st) h) ∧
  (∀ (d : Nat) (L st : List Value) (N : Nat) (y : Nat → Nat → Int32) (l : Nat → Nat → Int64), fk_ev d qX11_plan 70 L (.ref 1 :: st) (fk_E N y l) = fk_ev d qX11_plan 73 L (.ref (y 1 0).toNatClampNeg :: st) (fk_E N y l)) ∧
  (∀ (d : Nat) (a0 a1 a2 a3 a4 : Value) (x : Int32) (st : List Value) (h : fk_H), fk_ev d qX11_plan 73 [a0, a1, a2, a3, a4, .int x] st h = fk_ev d qX11_plan 75 [a0, a1, a2, a3, a4, .int x] (.int x :: st) h) ∧
  (∀ (d : Nat) (a0 a1 a3 a4 a5 : Value) (x : Int32) (st : List Value) (h : fk_H), fk_ev d qX11_plan 75 [a0, a1, .int x, a3, a4, a5] st h = fk_ev d qX11_plan 76 [a0, a1, .int x, a3, a4, a5] (.int x :: st) h) ∧
  (∀ (d : Nat) (a0 a1 a2 a4 a5 : Value) (x : Int32) (st : List Value) (h : fk_H), fk_ev d qX11_plan 76 [a0, a1, a2, .int x, a4, a5] st h = fk_ev d qX11_plan 77 [a0, a1, a2, .int x, a4, a5] (.int x :: st) h) ∧
  (∀ (d : Nat) (L : List Value) (x0 : Nat) (x1 : Nat) (x2 : Int32) (x3 : Int32) (x4 : Int32)  (N : Nat) (y : Nat → Nat → Int32) (l : Nat → Nat → Int64), fk_ev (d + 1) qX11_plan 77 L (.int x4 :: .int x3 :: .int x2 :: .ref x1 :: .ref x0 :: .ref 240 :: []) (fk_E N y l) = (fk_ev d qX9_seek 0 [.ref 240, .ref x0, .ref x1, .int x2, .int x3, .int x4, .null, .null, .null, .null, .null, .null, .null, .null] [] (fk_E N y l)).bind fun o => fk_ev (d + 1) qX11_plan 80 L (o.1.toList ++ []) o.2) ∧
  (∀ (d : Nat) (a1 a2 a3 a4 a5 : Value) (x : Nat) (st : List Value) (h : fk_H), fk_ev d qX11_plan 80 [.ref x, a1, a2, a3, a4, a5] st h = fk_ev d qX11_plan 81 [.ref x, a1, a2, a3, a4, a5] (.ref x :: st) h) ∧
  (∀ (d : Nat) (L st : List Value) (N : Nat) (y : Nat → Nat → Int32) (l : Nat → Nat → Int64), fk_ev d qX11_plan 81 L (.ref 1 :: st) (fk_E N y l) = fk_ev d qX11_plan 84 L (.ref 240 :: st) (fk_E N y l)) ∧
  (∀ (d : Nat) (L st : List Value) (N : Nat) (y : Nat → Nat → Int32) (l : Nat → Nat → Int64), fk_ev d qX11_plan 84 L (.ref 240 :: st) (fk_E N y l) = fk_ev d qX11_plan 87 L (.int (y 240 3) :: st) (fk_E N y l)) ∧
  (∀ (d : Nat) (L : List Value) (x : Int32) (st : List Value) (h : fk_H), fk_ev d qX11_plan 87 L (.int x :: st) h = if nI 0 ≤ x then fk_ev d qX11_plan 93 L st h else fk_ev d qX11_plan 90 L st h) ∧
  (∀ (d : Nat) (L st : List Value) (h : fk_H), fk_ev d qX11_plan 90 L st h = fk_ev d qX11_plan 92 L (.int ((-2 : Int32)) :: st) h) ∧
  (∀ (d : Nat) (L : List Value) (x : Int32) (h : fk_H), fk_ev d qX11_plan 92 L [.int x] h = some (some (.int x), h)) ∧
  (∀ (d : Nat) (a0 a1 a2 a3 a5 : Value) (x : Int32) (st : List Value) (h : fk_H), fk_ev d qX11_plan 93 [a0, a1, a2, a3, .int x, a5] st h = fk_ev d qX11_plan 95 [a0, a1, a2, a3, .int x, a5] (.int x :: st) h) ∧
  (∀ (d : Nat) (L st : List Value) (h : fk_H), fk_ev d qX11_plan 95 L (.int (nI 0) :: st) h = fk_ev d qX11_plan 120 L st h) ∧
  (∀ (d : Nat) (L st : List Value) (h : fk_H), fk_ev d qX11_plan 95 L (.int (nI 1) :: st) h = fk_ev d qX11_plan 128 L st h) ∧
  (∀ (d : Nat) (L : List Value) (x : Int32) (st : List Value) (h : fk_H), ¬ (0 : Int) = x.toInt → ¬ (1 : Int) = x.toInt → fk_ev d qX11_plan 95 L (.int x :: st) h = fk_ev d qX11_plan 136 L st h) ∧
  (∀ (d : Nat) (a1 a2 a3 a4 a5 : Value) (x : Nat) (st : List Value) (h : fk_H), fk_ev d qX11_plan 120 [.ref x, a1, a2, a3, a4, a5] st h = fk_ev d qX11_plan 121 [.ref x, a1, a2, a3, a4, a5] (.ref x :: st) h) ∧
  (∀ (d : Nat) (L st : List Value) (N : Nat) (y : Nat → Nat → Int32) (l : Nat → Nat → Int64), fk_ev d qX11_plan 121 L (.ref 1 :: st) (fk_E N y l) = fk_ev d qX11_plan 124 L (.ref 240 :: st) (fk_E N y l)) ∧
  (∀ (d : Nat) (L st : List Value) (N : Nat) (y : Nat → Nat → Int32) (l : Nat → Nat → Int64), fk_ev d qX11_plan 124 L (.ref 240 :: st) (fk_E N y l) = fk_ev d qX11_plan 127 L (.int (y 240 3) :: st) (fk_E N y l)) ∧
  (∀ (d : Nat) (L : List Value) (x : Int32) (h : fk_H), fk_ev d qX11_plan 127 L [.int x] h = some (some (.int x), h)) ∧
  (∀ (d : Nat) (a1 a2 a3 a4 a5 : Value) (x : Nat) (st : List Value) (h : fk_H), fk_ev d qX11_plan 128 [.ref x, a1, a2, a3, a4, a5] st h = fk_ev d qX11_plan 129 [.ref x, a1, a2, a3, a4, a5] (.ref x :: st) h) ∧
  (∀ (d : Nat) (L st : List Value) (N : Nat) (y : Nat → Nat → Int32) (l : Nat → Nat → Int64), fk_ev d qX11_plan 129 L (.ref 1 :: st) (fk_E N y l) = fk_ev d qX11_plan 132 L (.ref 240 :: st) (fk_E N y l)) ∧
  (∀ (d : Nat) (L st : List Value) (N : Nat) (y : Nat → Nat → Int32) (l : Nat → Nat → Int64), fk_ev d qX11_plan 132 L (.ref 240 :: st) (fk_E N y l) = fk_ev d qX11_plan 135 L (.int (y 240 4) :: st) (fk_E N y l)) ∧
  (∀ (d : Nat) (L : List Value) (x : Int32) (h : fk_H), fk_ev d qX11_plan 135 L [.int x] h = some (some (.int x), h)) ∧
  (∀ (d : Nat) (a1 a2 a3 a4 a5 : Value) (x : Nat) (st : List Value) (h : fk_H), fk_ev d qX11_plan 136 [.ref x, a1, a2, a3, a4, a5] st h = fk_ev d qX11_plan 137 [.ref x, a1, a2, a3, a4, a5] (.ref x :: st) h) ∧
  (∀ (d : Nat) (L st : List Value) (N : Nat) (y : Nat → Nat → Int32) (l : Nat → Nat → Int64), fk_ev d qX11_plan 137 L (.ref 1 :: st) (fk_E N y l) = fk_ev d qX11_plan 140 L (.ref 240 :: st) (fk_E N y l)) ∧
  (∀ (d : Nat) (L st : List Value) (N : Nat) (y : Nat → Nat → Int32) (l : Nat → Nat → Int64), fk_ev d qX11_plan 140 L (.ref 240 :: st) (fk_E N y l) = fk_ev d qX11_plan 143 L (.int (y 240 5) :: st) (fk_E N y l)) ∧
  (∀ (d : Nat) (L : List Value) (x : Int32) (h : fk_H), fk_ev d qX11_plan 143 L [.int x] h = some (some (.int x), h)) := ⟨fun d a0 a2 a3 a4 a5 x st h => fk_w_iloadn 1 [a0, .int x, a2, a3, a4, a5] dX11_plan_0 rfl,
  fun d L st h => fk_w_iconst dX11_plan_1 (by decide),
  fun d L x0 x1 h => fk_g_calls [.int x0, .int x1] [] rfl lm_11_110 dX11_plan_2 rfl ⟨rfl, by decide⟩ (by simp),
  fun d L x st h => fk_r_if_eq dX11_plan_5 (by decide),
  fun d a0 a1 a3 a4 a5 x st h => fk_w_iloadn 2 [a0, a1, .int x, a3, a4, a5] dX11_plan_8 rfl,
  fun d L st h => fk_g_ldcw rfl lc_11_275 (by decide) dX11_plan_9,
  fun d L x0 x1 h => fk_g_calls [.int x0, .int x1] [] rfl lm_11_110 dX11_plan_12 rfl ⟨rfl, by decide⟩ (by simp),
  fun d L x st h => fk_r_if_eq dX11_plan_15 (by decide),
  fun d a0 a1 a2 a3 a5 x st h => fk_w_iload 4 [a0, a1, a2, a3, .int x, a5] dX11_plan_18 rfl,
  fun d L st h => fk_w_iconst dX11_plan_20 (by decide),
  fun d L x0 x1 h => fk_g_calls [.int x0, .int x1] [] rfl lm_11_110 dX11_plan_21 rfl ⟨rfl, by decide⟩ (by simp),
  fun d L x st h => fk_r_if_eq dX11_plan_24 (by decide),
  fun d a1 a2 a3 a4 a5 x st h => fk_w_aloadn 0 [.ref x, a1, a2, a3, a4, a5] dX11_plan_27 rfl,
  fun d a0 a1 a2 a4 a5 x st h => fk_w_iloadn 3 [a0, a1, a2, .int x, a4, a5] dX11_plan_28 rfl,
  fun d L x0 N y l  => fk_g_call [.int x0] [] rfl lm_11_173 dX11_plan_29 rfl ⟨rfl, by decide⟩ (by simp) fk_at_1,
  fun d L x st h => fk_r_if_ne dX11_plan_32 (by decide),
  fun d L st h => fk_w_iconst dX11_plan_35 (by decide),
  fun d L x h => fk_r_ret dX11_plan_36 (Or.inl rfl),
  fun d a1 a2 a3 a4 a5 x st h => fk_w_aloadn 0 [.ref x, a1, a2, a3, a4, a5] dX11_plan_37 rfl,
  fun d L st N y l => fk_g_getC rfl lf_11_58 (by decide) rfl dX11_plan_38 fk_at_1,
  fun d a0 a2 a3 a4 a5 x st h => fk_w_iloadn 1 [a0, .int x, a2, a3, a4, a5] dX11_plan_41 rfl,
  fun d L x0 N y l c hc => fk_g_call [.int x0] [] rfl lm_11_276 dX11_plan_42 rfl ⟨rfl, by decide⟩ (by simp) hc,
  fun d a0 a1 a2 a3 a4 a5 x st h => fk_w_istore 5 6 [] [a0, a1, a2, a3, a4, a5] [a0, a1, a2, a3, a4, .int x] dX11_plan_45 rfl rfl (by decide) rfl,
  fun d a1 a2 a3 a4 a5 x st h => fk_w_aloadn 0 [.ref x, a1, a2, a3, a4, a5] dX11_plan_47 rfl,
  fun d L st N y l => fk_g_getC rfl lf_11_58 (by decide) rfl dX11_plan_48 fk_at_1,
  fun d a0 a1 a2 a3 a4 x st h => fk_w_iload 5 [a0, a1, a2, a3, a4, .int x] dX11_plan_51 rfl,
  fun d L x0 N y l c hc => fk_g_call [.int x0] [] rfl lm_11_252 dX11_plan_53 rfl ⟨rfl, by decide⟩ (by simp) hc,
  fun d L x st h => fk_r_if_ne dX11_plan_56 (by decide),
  fun d L st h => fk_w_iconst dX11_plan_59 (by decide),
  fun d L x h => fk_r_ret dX11_plan_60 (Or.inl rfl),
  fun d a1 a2 a3 a4 a5 x st h => fk_w_aloadn 0 [.ref x, a1, a2, a3, a4, a5] dX11_plan_61 rfl,
  fun d L st N y l => fk_g_getC rfl lf_11_92 (by decide) rfl dX11_plan_62 fk_at_1,
  fun d a1 a2 a3 a4 a5 x st h => fk_w_aloadn 0 [.ref x, a1, a2, a3, a4, a5] dX11_plan_65 rfl,
  fun d L st N y l => fk_g_getC rfl lf_11_58 (by decide) rfl dX11_plan_66 fk_at_1,
  fun d a1 a2 a3 a4 a5 x st h => fk_w_aloadn 0 [.ref x, a1, a2, a3, a4, a5] dX11_plan_69 rfl,
  fun d L st N y l => fk_g_getM rfl lf_11_10 (by decide) dX11_plan_70 fk_at_1,
  fun d a0 a1 a2 a3 a4 x st h => fk_w_iload 5 [a0, a1, a2, a3, a4, .int x] dX11_plan_73 rfl,
  fun d a0 a1 a3 a4 a5 x st h => fk_w_iloadn 2 [a0, a1, .int x, a3, a4, a5] dX11_plan_75 rfl,
  fun d a0 a1 a2 a4 a5 x st h => fk_w_iloadn 3 [a0, a1, a2, .int x, a4, a5] dX11_plan_76 rfl,
  fun d L x0 x1 x2 x3 x4 N y l  => fk_g_call [.ref x0, .ref x1, .int x2, .int x3, .int x4] [] rfl lm_11_279 dX11_plan_77 rfl ⟨rfl, by decide⟩ (by simp) fk_at_240,
  fun d a1 a2 a3 a4 a5 x st h => fk_w_aloadn 0 [.ref x, a1, a2, a3, a4, a5] dX11_plan_80 rfl,
  fun d L st N y l => fk_g_getC rfl lf_11_92 (by decide) rfl dX11_plan_81 fk_at_1,
  fun d L st N y l => fk_g_getI rfl lf_11_283 (by decide) dX11_plan_84 fk_at_240,
  fun d L x st h => fk_r_if_ge dX11_plan_87 (by decide),
  fun d L st h => fk_w_bipush dX11_plan_90 (by decide),
  fun d L x h => fk_r_ret dX11_plan_92 (Or.inl rfl),
  fun d a0 a1 a2 a3 a5 x st h => fk_w_iload 4 [a0, a1, a2, a3, .int x, a5] dX11_plan_93 rfl,
  fun d L st h => fk_w_look (off := 25) dX11_plan_95 (by decide) (by decide) (by decide),
  fun d L st h => fk_w_look (off := 33) dX11_plan_95 (by decide) (by decide) (by decide),
  fun d L x st h h0 h1 => fk_w_look (off := 41) dX11_plan_95 (by decide) (by refine (if_neg h0).trans ?_; refine (if_neg h1).trans ?_; rfl) (by decide),
  fun d a1 a2 a3 a4 a5 x st h => fk_w_aloadn 0 [.ref x, a1, a2, a3, a4, a5] dX11_plan_120 rfl,
  fun d L st N y l => fk_g_getC rfl lf_11_92 (by decide) rfl dX11_plan_121 fk_at_1,
  fun d L st N y l => fk_g_getI rfl lf_11_283 (by decide) dX11_plan_124 fk_at_240,
  fun d L x h => fk_r_ret dX11_plan_127 (Or.inl rfl),
  fun d a1 a2 a3 a4 a5 x st h => fk_w_aloadn 0 [.ref x, a1, a2, a3, a4, a5] dX11_plan_128 rfl,
  fun d L st N y l => fk_g_getC rfl lf_11_92 (by decide) rfl dX11_plan_129 fk_at_1,
  fun d L st N y l => fk_g_getI rfl lf_11_286 (by decide) dX11_plan_132 fk_at_240,
  fun d L x h => fk_r_ret dX11_plan_135 (Or.inl rfl),
  fun d a1 a2 a3 a4 a5 x st h => fk_w_aloadn 0 [.ref x, a1, a2, a3, a4, a5] dX11_plan_136 rfl,
  fun d L st N y l => fk_g_getC rfl lf_11_92 (by decide) rfl dX11_plan_137 fk_at_1,
  fun d L st N y l => fk_g_getI rfl lf_11_289 (by decide) dX11_plan_140 fk_at_240,
  fun d L x h => fk_r_ret dX11_plan_143 (Or.inl rfl)⟩
theorem dX11_joined_0 : decode cX11_joined 0 = .ok (.iload_n 1, 1) := by decide +kernel
theorem dX11_joined_1 : decode cX11_joined 1 = .ok (.iconst 2, 1) := by decide +kernel
theorem dX11_joined_2 : decode cX11_joined 2 = .ok (.if_icmp .lt 19, 3) := by decide +kernel
theorem dX11_joined_5 : decode cX11_joined 5 = .ok (.iload_n 1, 1) := by decide +kernel
theorem dX11_joined_6 : decode cX11_joined 6 = .ok (.iconst 5, 1) := by decide +kernel
theorem dX11_joined_7 : decode cX11_joined 7 = .ok (.if_icmp .gt 14, 3) := by decide +kernel
theorem dX11_joined_10 : decode cX11_joined 10 = .ok (.iload_n 1, 1) := by decide +kernel
theorem dX11_joined_11 : decode cX11_joined 11 = .ok (.aload_n 0, 1) := by decide +kernel
theorem dX11_joined_12 : decode cX11_joined 12 = .ok (.getfield 33, 3) := by decide +kernel
theorem dX11_joined_15 : decode cX11_joined 15 = .ok (.getfield 160, 3) := by decide +kernel
theorem dX11_joined_18 : decode cX11_joined 18 = .ok (.if_icmp .le 5, 3) := by decide +kernel
theorem dX11_joined_21 : decode cX11_joined 21 = .ok (.iconst (-1), 1) := by decide +kernel
theorem dX11_joined_22 : decode cX11_joined 22 = .ok (.ireturn, 1) := by decide +kernel
theorem dX11_joined_23 : decode cX11_joined 23 = .ok (.aload_n 0, 1) := by decide +kernel
theorem dX11_joined_24 : decode cX11_joined 24 = .ok (.getfield 99, 3) := by decide +kernel
theorem dX11_joined_27 : decode cX11_joined 27 = .ok (.aload_n 0, 1) := by decide +kernel
theorem dX11_joined_28 : decode cX11_joined 28 = .ok (.getfield 33, 3) := by decide +kernel
theorem dX11_joined_31 : decode cX11_joined 31 = .ok (.iload_n 1, 1) := by decide +kernel
theorem dX11_joined_32 : decode cX11_joined 32 = .ok (.aload_n 0, 1) := by decide +kernel
theorem dX11_joined_33 : decode cX11_joined 33 = .ok (.getfield 58, 3) := by decide +kernel
theorem dX11_joined_36 : decode cX11_joined 36 = .ok (.invokevirtual 292, 3) := by decide +kernel
theorem dX11_joined_39 : decode cX11_joined 39 = .ok (.istore_n 3, 1) := by decide +kernel
theorem dX11_joined_40 : decode cX11_joined 40 = .ok (.aload_n 0, 1) := by decide +kernel
theorem dX11_joined_41 : decode cX11_joined 41 = .ok (.getfield 33, 3) := by decide +kernel
theorem dX11_joined_44 : decode cX11_joined 44 = .ok (.invokevirtual 167, 3) := by decide +kernel
theorem dX11_joined_47 : decode cX11_joined 47 = .ok (.iload_n 3, 1) := by decide +kernel
theorem dX11_joined_48 : decode cX11_joined 48 = .ok (.ifCond .ne 6, 3) := by decide +kernel
theorem dX11_joined_51 : decode cX11_joined 51 = .ok (.bipush (-2), 2) := by decide +kernel
theorem dX11_joined_53 : decode cX11_joined 53 = .ok (.ireturn, 1) := by decide +kernel
theorem dX11_joined_54 : decode cX11_joined 54 = .ok (.iload_n 2, 1) := by decide +kernel
theorem dX11_joined_55 : decode cX11_joined 55 = .ok (.iconst (-1), 1) := by decide +kernel
theorem dX11_joined_56 : decode cX11_joined 56 = .ok (.if_icmp .eq 14, 3) := by decide +kernel
theorem dX11_joined_59 : decode cX11_joined 59 = .ok (.iload_n 2, 1) := by decide +kernel
theorem dX11_joined_60 : decode cX11_joined 60 = .ok (.iload_n 1, 1) := by decide +kernel
theorem dX11_joined_61 : decode cX11_joined 61 = .ok (.invokestatic 110, 3) := by decide +kernel
theorem dX11_joined_64 : decode cX11_joined 64 = .ok (.ifCond .ne 6, 3) := by decide +kernel
theorem dX11_joined_67 : decode cX11_joined 67 = .ok (.bipush (-3), 2) := by decide +kernel
theorem dX11_joined_69 : decode cX11_joined 69 = .ok (.ireturn, 1) := by decide +kernel
theorem dX11_joined_70 : decode cX11_joined 70 = .ok (.aload_n 0, 1) := by decide +kernel
theorem dX11_joined_71 : decode cX11_joined 71 = .ok (.getfield 83, 3) := by decide +kernel
theorem dX11_joined_74 : decode cX11_joined 74 = .ok (.aload_n 0, 1) := by decide +kernel
theorem dX11_joined_75 : decode cX11_joined 75 = .ok (.getfield 58, 3) := by decide +kernel
theorem dX11_joined_78 : decode cX11_joined 78 = .ok (.aload_n 0, 1) := by decide +kernel
theorem dX11_joined_79 : decode cX11_joined 79 = .ok (.getfield 10, 3) := by decide +kernel
theorem dX11_joined_82 : decode cX11_joined 82 = .ok (.invokevirtual 176, 3) := by decide +kernel
theorem dX11_joined_85 : decode cX11_joined 85 = .ok (.aload_n 0, 1) := by decide +kernel
theorem dX11_joined_86 : decode cX11_joined 86 = .ok (.getfield 99, 3) := by decide +kernel
theorem dX11_joined_89 : decode cX11_joined 89 = .ok (.aload_n 0, 1) := by decide +kernel
theorem dX11_joined_90 : decode cX11_joined 90 = .ok (.getfield 83, 3) := by decide +kernel
theorem dX11_joined_93 : decode cX11_joined 93 = .ok (.aload_n 0, 1) := by decide +kernel
theorem dX11_joined_94 : decode cX11_joined 94 = .ok (.getfield 58, 3) := by decide +kernel
theorem dX11_joined_97 : decode cX11_joined 97 = .ok (.invokevirtual 296, 3) := by decide +kernel
theorem dX11_joined_100 : decode cX11_joined 100 = .ok (.iload_n 2, 1) := by decide +kernel
theorem dX11_joined_101 : decode cX11_joined 101 = .ok (.iconst (-1), 1) := by decide +kernel
theorem dX11_joined_102 : decode cX11_joined 102 = .ok (.if_icmp .ne 13, 3) := by decide +kernel
theorem dX11_joined_105 : decode cX11_joined 105 = .ok (.aload_n 0, 1) := by decide +kernel
theorem dX11_joined_106 : decode cX11_joined 106 = .ok (.getfield 99, 3) := by decide +kernel
theorem dX11_joined_109 : decode cX11_joined 109 = .ok (.getfield 299, 3) := by decide +kernel
theorem dX11_joined_112 : decode cX11_joined 112 = .ok (.goto 12, 3) := by decide +kernel
theorem dX11_joined_115 : decode cX11_joined 115 = .ok (.aload_n 0, 1) := by decide +kernel
theorem dX11_joined_116 : decode cX11_joined 116 = .ok (.getfield 99, 3) := by decide +kernel
theorem dX11_joined_119 : decode cX11_joined 119 = .ok (.getfield 300, 3) := by decide +kernel
theorem dX11_joined_122 : decode cX11_joined 122 = .ok (.iload_n 2, 1) := by decide +kernel
theorem dX11_joined_123 : decode cX11_joined 123 = .ok (.iaload, 1) := by decide +kernel
theorem dX11_joined_124 : decode cX11_joined 124 = .ok (.ireturn, 1) := by decide +kernel
theorem rX11_joined : (∀ (d : Nat) (a0 a2 a3 : Value) (x : Int32) (st : List Value) (h : fk_H), fk_ev d qX11_joined 0 [a0, .int x, a2, a3] st h = fk_ev d qX11_joined 1 [a0, .int x, a2, a3] (.int x :: st) h) ∧
  (∀ (d : Nat) (L st : List Value) (h : fk_H), fk_ev d qX11_joined 1 L st h = fk_ev d qX11_joined 2 L (.int (nI 2) :: st) h) ∧
  (∀ (d : Nat) (L : List Value) (x y : Int32) (st : List Value) (h : fk_H), fk_ev d qX11_joined 2 L (.int y :: .int x :: st) h = if x < y then fk_ev d qX11_joined 21 L st h else fk_ev d qX11_joined 5 L st h) ∧
  (∀ (d : Nat) (a0 a2 a3 : Value) (x : Int32) (st : List Value) (h : fk_H), fk_ev d qX11_joined 5 [a0, .int x, a2, a3] st h = fk_ev d qX11_joined 6 [a0, .int x, a2, a3] (.int x :: st) h) ∧
  (∀ (d : Nat) (L st : List Value) (h : fk_H), fk_ev d qX11_joined 6 L st h = fk_ev d qX11_joined 7 L (.int (nI 5) :: st) h) ∧
  (∀ (d : Nat) (L : List Value) (x y : Int32) (st : List Value) (h : fk_H), fk_ev d qX11_joined 7 L (.int y :: .int x :: st) h = if y < x then fk_ev d qX11_joined 21 L st h else fk_ev d qX11_joined 10 L st h) ∧
  (∀ (d : Nat) (a0 a2 a3 : Value) (x : Int32) (st : List Value) (h : fk_H), fk_ev d qX11_joined 10 [a0, .int x, a2, a3] st h = fk_ev d qX11_joined 11 [a0, .int x, a2, a3] (.int x :: st) h) ∧
  (∀ (d : Nat) (a1 a2 a3 : Value) (x : Nat) (st : List Value) (h : fk_H), fk_ev d qX11_joined 11 [.ref x, a1, a2, a3] st h = fk_ev d qX11_joined 12 [.ref x, a1, a2, a3] (.ref x :: st) h) ∧
  (∀ (d : Nat) (L st : List Value) (N : Nat) (y : Nat → Nat → Int32) (l : Nat → Nat → Int64), fk_ev d qX11_joined 12 L (.ref 1 :: st) (fk_E N y l) = fk_ev d qX11_joined 15 L (.ref 26 :: st) (fk_E N y l)) ∧
  (∀ (d : Nat) (L st : List Value) (N : Nat) (y : Nat → Nat → Int32) (l : Nat → Nat → Int64), fk_ev d qX11_joined 15 L (.ref 26 :: st) (fk_E N y l) = fk_ev d qX11_joined 18 L (.int (y 26 1) :: st) (fk_E N y l)) ∧
  (∀ (d : Nat) (L : List Value) (x y : Int32) (st : List Value) (h : fk_H), fk_ev d qX11_joined 18 L (.int y :: .int x :: st) h = if x ≤ y then fk_ev d qX11_joined 23 L st h else fk_ev d qX11_joined 21 L st h) ∧
  (∀ (d : Nat) (L st : List Value) (h : fk_H), fk_ev d qX11_joined 21 L st h = fk_ev d qX11_joined 22 L (.int ((-1 : Int32)) :: st) h) ∧
  (∀ (d : Nat) (L : List Value) (x : Int32) (h : fk_H), fk_ev d qX11_joined 22 L [.int x] h = some (some (.int x), h)) ∧
  (∀ (d : Nat) (a1 a2 a3 : Value) (x : Nat) (st : List Value) (h : fk_H), fk_ev d qX11_joined 23 [.ref x, a1, a2, a3] st h = fk_ev d qX11_joined 24 [.ref x, a1, a2, a3] (.ref x :: st) h) ∧
  (∀ (d : Nat) (L st : List Value) (N : Nat) (y : Nat → Nat → Int32) (l : Nat → Nat → Int64), fk_ev d qX11_joined 24 L (.ref 1 :: st) (fk_E N y l) = fk_ev d qX11_joined 27 L (.ref 241 :: st) (fk_E N y l)) ∧
  (∀ (d : Nat) (a1 a2 a3 : Value) (x : Nat) (st : List Value) (h : fk_H), fk_ev d qX11_joined 27 [.ref x, a1, a2, a3] st h = fk_ev d qX11_joined 28 [.ref x, a1, a2, a3] (.ref x :: st) h) ∧
  (∀ (d : Nat) (L st : List Value) (N : Nat) (y : Nat → Nat → Int32) (l : Nat → Nat → Int64), fk_ev d qX11_joined 28 L (.ref 1 :: st) (fk_E N y l) = fk_ev d qX11_joined 31 L (.ref 26 :: st) (fk_E N y l)) ∧
  (∀ (d : Nat) (a0 a2 a3 : Value) (x : Int32) (st : List Value) (h : fk_H), fk_ev d qX11_joined 31 [a0, .int x, a2, a3] st h = fk_ev d qX11_joined 32 [a0, .int x, a2, a3] (.int x :: st) h) ∧
  (∀ (d : Nat) (a1 a2 a3 : Value) (x : Nat) (st : List Value) (h : fk_H), fk_ev d qX11_joined 32 [.ref x, a1, a2, a3] st h = fk_ev d qX11_joined 33 [.ref x, a1, a2, a3] (.ref x :: st) h) ∧
  (∀ (d : Nat) (L st : List Value) (N : Nat) (y : Nat → Nat → Int32) (l : Nat → Nat → Int64), fk_ev d qX11_joined 33 L (.ref 1 :: st) (fk_E N y l) = fk_ev d qX11_joined 36 L (.ref 33 :: st) (fk_E N y l)) ∧
  (∀ (d : Nat) (L : List Value) (x0 : Nat) (x1 : Int32) (x2 : Nat)  (N : Nat) (y : Nat → Nat → Int32) (l : Nat → Nat → Int64), fk_ev (d + 1) qX11_joined 36 L (.ref x2 :: .int x1 :: .ref x0 :: .ref 241 :: []) (fk_E N y l) = (fk_ev d qX2_take 0 [.ref 241, .ref x0, .int x1, .ref x2, .null, .null, .null, .null, .null] [] (fk_E N y l)).bind fun o => fk_ev (d + 1) qX11_joined 39 L (o.1.toList ++ []) o.2) ∧
  (∀ (d : Nat) (a0 a1 a2 a3 : Value) (x : Int32) (st : List Value) (h : fk_H), fk_ev d qX11_joined 39 [a0, a1, a2, a3] (.int x :: st) h = fk_ev d qX11_joined 40 [a0, a1, a2, .int x] st h) ∧
  (∀ (d : Nat) (a1 a2 a3 : Value) (x : Nat) (st : List Value) (h : fk_H), fk_ev d qX11_joined 40 [.ref x, a1, a2, a3] st h = fk_ev d qX11_joined 41 [.ref x, a1, a2, a3] (.ref x :: st) h) ∧
  (∀ (d : Nat) (L st : List Value) (N : Nat) (y : Nat → Nat → Int32) (l : Nat → Nat → Int64), fk_ev d qX11_joined 41 L (.ref 1 :: st) (fk_E N y l) = fk_ev d qX11_joined 44 L (.ref 26 :: st) (fk_E N y l)) ∧
  (∀ (d : Nat) (L : List Value)   (N : Nat) (y : Nat → Nat → Int32) (l : Nat → Nat → Int64), fk_ev (d + 1) qX11_joined 44 L (.ref 26 :: []) (fk_E N y l) = (fk_ev d qX10_clear 0 [.ref 26] [] (fk_E N y l)).bind fun o => fk_ev (d + 1) qX11_joined 47 L (o.1.toList ++ []) o.2) ∧
  (∀ (d : Nat) (a0 a1 a2 : Value) (x : Int32) (st : List Value) (h : fk_H), fk_ev d qX11_joined 47 [a0, a1, a2, .int x] st h = fk_ev d qX11_joined 48 [a0, a1, a2, .int x] (.int x :: st) h) ∧
  (∀ (d : Nat) (L : List Value) (x : Int32) (st : List Value) (h : fk_H), fk_ev d qX11_joined 48 L (.int x :: st) h = if ¬ x = nI 0 then fk_ev d qX11_joined 54 L st h else fk_ev d qX11_joined 51 L st h) ∧
  (∀ (d : Nat) (L st : List Value) (h : fk_H), fk_ev d qX11_joined 51 L st h = fk_ev d qX11_joined 53 L (.int ((-2 : Int32)) :: st) h) ∧
  (∀ (d : Nat) (L : List Value) (x : Int32) (h : fk_H), fk_ev d qX11_joined 53 L [.int x] h = some (some (.int x), h)) ∧
  (∀ (d : Nat) (a0 a1 a3 : Value) (x : Int32) (st : List Value) (h : fk_H), fk_ev d qX11_joined 54 [a0, a1, .int x, a3] st h = fk_ev d qX11_joined 55 [a0, a1, .int x, a3] (.int x :: st) h) ∧
  (∀ (d : Nat) (L st : List Value) (h : fk_H), fk_ev d qX11_joined 55 L st h = fk_ev d qX11_joined 56 L (.int ((-1 : Int32)) :: st) h) ∧
  (∀ (d : Nat) (L : List Value) (x y : Int32) (st : List Value) (h : fk_H), fk_ev d qX11_joined 56 L (.int y :: .int x :: st) h = if x = y then fk_ev d qX11_joined 70 L st h else fk_ev d qX11_joined 59 L st h) ∧
  (∀ (d : Nat) (a0 a1 a3 : Value) (x : Int32) (st : List Value) (h : fk_H), fk_ev d qX11_joined 59 [a0, a1, .int x, a3] st h = fk_ev d qX11_joined 60 [a0, a1, .int x, a3] (.int x :: st) h) ∧
  (∀ (d : Nat) (a0 a2 a3 : Value) (x : Int32) (st : List Value) (h : fk_H), fk_ev d qX11_joined 60 [a0, .int x, a2, a3] st h = fk_ev d qX11_joined 61 [a0, .int x, a2, a3] (.int x :: st) h) ∧
  (∀ (d : Nat) (L : List Value) (x0 : Int32) (x1 : Int32)  (h : fk_H), fk_ev (d + 1) qX11_joined 61 L (.int x1 :: .int x0 :: []) h = (fk_ev d qX11_within 0 [.int x0, .int x1] [] h).bind fun o => fk_ev (d + 1) qX11_joined 64 L (o.1.toList ++ []) o.2) ∧
  (∀ (d : Nat) (L : List Value) (x : Int32) (st : List Value) (h : fk_H), fk_ev d qX11_joined 64 L (.int x :: st) h = if ¬ x = nI 0 then fk_ev d qX11_joined 70 L st h else fk_ev d qX11_joined 67 L st h) ∧
  (∀ (d : Nat) (L st : List Value) (h : fk_H), fk_ev d qX11_joined 67 L st h = fk_ev d qX11_joined 69 L (.int ((-3 : Int32)) :: st) h) ∧
  (∀ (d : Nat) (L : List Value) (x : Int32) (h : fk_H), fk_ev d qX11_joined 69 L [.int x] h = some (some (.int x), h)) ∧
  (∀ (d : Nat) (a1 a2 a3 : Value) (x : Nat) (st : List Value) (h : fk_H), fk_ev d qX11_joined 70 [.ref x, a1, a2, a3] st h = fk_ev d qX11_joined 71 [.ref x, a1, a2, a3] (.ref x :: st) h) ∧
  (∀ (d : Nat) (L st : List Value) (N : Nat) (y : Nat → Nat → Int32) (l : Nat → Nat → Int64), fk_ev d qX11_joined 71 L (.ref 1 :: st) (fk_E N y l) = fk_ev d qX11_joined 74 L (.ref 238 :: st) (fk_E N y l)) ∧
  (∀ (d : Nat) (a1 a2 a3 : Value) (x : Nat) (st : List Value) (h : fk_H), fk_ev d qX11_joined 74 [.ref x, a1, a2, a3] st h = fk_ev d qX11_joined 75 [.ref x, a1, a2, a3] (.ref x :: st) h) ∧
  (∀ (d : Nat) (L st : List Value) (N : Nat) (y : Nat → Nat → Int32) (l : Nat → Nat → Int64), fk_ev d qX11_joined 75 L (.ref 1 :: st) (fk_E N y l) = fk_ev d qX11_joined 78 L (.ref 33 :: st) (fk_E N y l)) ∧
  (∀ (d : Nat) (a1 a2 a3 : Value) (x : Nat) (st : List Value) (h : fk_H), fk_ev d qX11_joined 78 [.ref x, a1, a2, a3] st h = fk_ev d qX11_joined 79 [.ref x, a1, a2, a3] (.ref x :: st) h) ∧
  (∀ (d : Nat) (L st : List Value) (N : Nat) (y : Nat → Nat → Int32) (l : Nat → Nat → Int64), fk_ev d qX11_joined 79 L (.ref 1 :: st) (fk_E N y l) = fk_ev d qX11_joined 82 L (.ref (y 1 0).toNatClampNeg :: st) (fk_E N y l)) ∧
  (∀ (d : Nat) (L : List Value) (x0 : Nat) (x1 : Nat)  (N : Nat) (y : Nat → Nat → Int32) (l : Nat → Nat → Int64), fk_ev (d + 1) qX11_joined 82 L (.ref x1 :: .ref x0 :: .ref 238 :: []) (fk_E N y l) = (fk_ev d qX6_begin 0 [.ref 238, .ref x0, .ref x1] [] (fk_E N y l)).bind fun o => fk_ev (d + 1) qX11_joined 85 L (o.1.toList ++ []) o.2) ∧
  (∀ (d : Nat) (a1 a2 a3 : Value) (x : Nat) (st : List Value) (h : fk_H), fk_ev d qX11_joined 85 [.ref x, a1, a2, a3] st h = fk_ev d qX11_joined 86 [.ref x, a1, a2, a3] (.ref x :: st) h) ∧
  (∀ (d : Nat) (L st : List Value) (N : Nat) (y : Nat → Nat → Int32) (l : Nat → Nat → Int64), fk_ev d qX11_joined 86 L (.ref 1 :: st) (fk_E N y l) = fk_ev d qX11_joined 89 L (.ref 241 :: st) (fk_E N y l)) ∧
  (∀ (d : Nat) (a1 a2 a3 : Value) (x : Nat) (st : List Value) (h : fk_H), fk_ev d qX11_joined 89 [.ref x, a1, a2, a3] st h = fk_ev d qX11_joined 90 [.ref x, a1, a2, a3] (.ref x :: st) h) ∧
  (∀ (d : Nat) (L st : List Value) (N : Nat) (y : Nat → Nat → Int32) (l : Nat → Nat → Int64), fk_ev d qX11_joined 90 L (.ref 1 :: st) (fk_E N y l) = fk_ev d qX11_joined 93 L (.ref 238 :: st) (fk_E N y l)) ∧
  (∀ (d : Nat) (a1 a2 a3 : Value) (x : Nat) (st : List Value) (h : fk_H), fk_ev d qX11_joined 93 [.ref x, a1, a2, a3] st h = fk_ev d qX11_joined 94 [.ref x, a1, a2, a3] (.ref x :: st) h) ∧
  (∀ (d : Nat) (L st : List Value) (N : Nat) (y : Nat → Nat → Int32) (l : Nat → Nat → Int64), fk_ev d qX11_joined 94 L (.ref 1 :: st) (fk_E N y l) = fk_ev d qX11_joined 97 L (.ref 33 :: st) (fk_E N y l)) ∧
  (∀ (d : Nat) (L : List Value) (x0 : Nat) (x1 : Nat)  (N : Nat) (y : Nat → Nat → Int32) (l : Nat → Nat → Int64), fk_ev (d + 1) qX11_joined 97 L (.ref x1 :: .ref x0 :: .ref 241 :: []) (fk_E N y l) = (fk_ev d qX2_seek 0 [.ref 241, .ref x0, .ref x1, .null, .null] [] (fk_E N y l)).bind fun o => fk_ev (d + 1) qX11_joined 100 L (o.1.toList ++ []) o.2) ∧
  (∀ (d : Nat) (a0 a1 a3 : Value) (x : Int32) (st : List Value) (h : fk_H), fk_ev d qX11_joined 100 [a0, a1, .int x, a3] st h = fk_ev d qX11_joined 101 [a0, a1, .int x, a3] (.int x :: st) h) ∧
  (∀ (d : Nat) (L st : List Value) (h : fk_H), fk_ev d qX11_joined 101 L st h = fk_ev d qX11_joined 102 L (.int ((-1 : Int32)) :: st) h) ∧
  (∀ (d : Nat) (L : List Value) (x y : Int32) (st : List Value) (h : fk_H), fk_ev d qX11_joined 102 L (.int y :: .int x :: st) h = if ¬ x = y then fk_ev d qX11_joined 115 L st h else fk_ev d qX11_joined 105 L st h) ∧
  (∀ (d : Nat) (a1 a2 a3 : Value) (x : Nat) (st : List Value) (h : fk_H), fk_ev d qX11_joined 105 [.ref x, a1, a2, a3] st h = fk_ev d qX11_joined 106 [.ref x, a1, a2, a3] (.ref x :: st) h) ∧
  (∀ (d : Nat) (L st : List Value) (N : Nat) (y : Nat → Nat → Int32) (l : Nat → Nat → Int64), fk_ev d qX11_joined 106 L (.ref 1 :: st) (fk_E N y l) = fk_ev d qX11_joined 109 L (.ref 241 :: st) (fk_E N y l)) ∧
  (∀ (d : Nat) (L st : List Value) (N : Nat) (y : Nat → Nat → Int32) (l : Nat → Nat → Int64), fk_ev d qX11_joined 109 L (.ref 241 :: st) (fk_E N y l) = fk_ev d qX11_joined 112 L (.int (y 241 3) :: st) (fk_E N y l)) ∧
  (∀ (d : Nat) (L st : List Value) (h : fk_H), fk_ev d qX11_joined 112 L st h = fk_ev d qX11_joined 124 L st h) ∧
  (∀ (d : Nat) (a1 a2 a3 : Value) (x : Nat) (st : List Value) (h : fk_H), fk_ev d qX11_joined 115 [.ref x, a1, a2, a3] st h = fk_ev d qX11_joined 116 [.ref x, a1, a2, a3] (.ref x :: st) h) ∧
  (∀ (d : Nat) (L st : List Value) (N : Nat) (y : Nat → Nat → Int32) (l : Nat → Nat → Int64), fk_ev d qX11_joined 116 L (.ref 1 :: st) (fk_E N y l) = fk_ev d qX11_joined 119 L (.ref 241 :: st) (fk_E N y l)) ∧
  (∀ (d : Nat) (L st : List Value) (N : Nat) (y : Nat → Nat → Int32) (l : Nat → Nat → Int64), fk_ev d qX11_joined 119 L (.ref 241 :: st) (fk_E N y l) = fk_ev d qX11_joined 122 L (.ref 243 :: st) (fk_E N y l)) ∧
  (∀ (d : Nat) (a0 a1 a3 : Value) (x : Int32) (st : List Value) (h : fk_H), fk_ev d qX11_joined 122 [a0, a1, .int x, a3] st h = fk_ev d qX11_joined 123 [a0, a1, .int x, a3] (.int x :: st) h) ∧
  (∀ (d : Nat) (L st : List Value) (N : Nat) (y : Nat → Nat → Int32) (l : Nat → Nat → Int64) (i : Nat), i < 5 → fk_ev d qX11_joined 123 L (.int (nI i) :: .ref 243 :: st) (fk_E N y l) = fk_ev d qX11_joined 124 L (.int (y 243 i) :: st) (fk_E N y l)) ∧
  (∀ (d : Nat) (L : List Value) (x : Int32) (h : fk_H), fk_ev d qX11_joined 124 L [.int x] h = some (some (.int x), h)) := ⟨fun d a0 a2 a3 x st h => fk_w_iloadn 1 [a0, .int x, a2, a3] dX11_joined_0 rfl,
  fun d L st h => fk_w_iconst dX11_joined_1 (by decide),
  fun d L x y st h => fk_r_icmp_lt dX11_joined_2 (by decide),
  fun d a0 a2 a3 x st h => fk_w_iloadn 1 [a0, .int x, a2, a3] dX11_joined_5 rfl,
  fun d L st h => fk_w_iconst dX11_joined_6 (by decide),
  fun d L x y st h => fk_r_icmp_gt dX11_joined_7 (by decide),
  fun d a0 a2 a3 x st h => fk_w_iloadn 1 [a0, .int x, a2, a3] dX11_joined_10 rfl,
  fun d a1 a2 a3 x st h => fk_w_aloadn 0 [.ref x, a1, a2, a3] dX11_joined_11 rfl,
  fun d L st N y l => fk_g_getC rfl lf_11_33 (by decide) rfl dX11_joined_12 fk_at_1,
  fun d L st N y l => fk_g_getI rfl lf_11_160 (by decide) dX11_joined_15 fk_at_26,
  fun d L x y st h => fk_r_icmp_le dX11_joined_18 (by decide),
  fun d L st h => fk_w_iconst dX11_joined_21 (by decide),
  fun d L x h => fk_r_ret dX11_joined_22 (Or.inl rfl),
  fun d a1 a2 a3 x st h => fk_w_aloadn 0 [.ref x, a1, a2, a3] dX11_joined_23 rfl,
  fun d L st N y l => fk_g_getC rfl lf_11_99 (by decide) rfl dX11_joined_24 fk_at_1,
  fun d a1 a2 a3 x st h => fk_w_aloadn 0 [.ref x, a1, a2, a3] dX11_joined_27 rfl,
  fun d L st N y l => fk_g_getC rfl lf_11_33 (by decide) rfl dX11_joined_28 fk_at_1,
  fun d a0 a2 a3 x st h => fk_w_iloadn 1 [a0, .int x, a2, a3] dX11_joined_31 rfl,
  fun d a1 a2 a3 x st h => fk_w_aloadn 0 [.ref x, a1, a2, a3] dX11_joined_32 rfl,
  fun d L st N y l => fk_g_getC rfl lf_11_58 (by decide) rfl dX11_joined_33 fk_at_1,
  fun d L x0 x1 x2 N y l  => fk_g_call [.ref x0, .int x1, .ref x2] [] rfl lm_11_292 dX11_joined_36 rfl ⟨rfl, by decide⟩ (by simp) fk_at_241,
  fun d a0 a1 a2 a3 x st h => fk_w_istoren 3 4 [] [a0, a1, a2, a3] [a0, a1, a2, .int x] dX11_joined_39 rfl rfl (by decide) rfl,
  fun d a1 a2 a3 x st h => fk_w_aloadn 0 [.ref x, a1, a2, a3] dX11_joined_40 rfl,
  fun d L st N y l => fk_g_getC rfl lf_11_33 (by decide) rfl dX11_joined_41 fk_at_1,
  fun d L  N y l  => fk_g_call [] [] rfl lm_11_167 dX11_joined_44 rfl ⟨rfl, by decide⟩ (by simp) fk_at_26,
  fun d a0 a1 a2 x st h => fk_w_iloadn 3 [a0, a1, a2, .int x] dX11_joined_47 rfl,
  fun d L x st h => fk_r_if_ne dX11_joined_48 (by decide),
  fun d L st h => fk_w_bipush dX11_joined_51 (by decide),
  fun d L x h => fk_r_ret dX11_joined_53 (Or.inl rfl),
  fun d a0 a1 a3 x st h => fk_w_iloadn 2 [a0, a1, .int x, a3] dX11_joined_54 rfl,
  fun d L st h => fk_w_iconst dX11_joined_55 (by decide),
  fun d L x y st h => fk_r_icmp_eq dX11_joined_56 (by decide),
  fun d a0 a1 a3 x st h => fk_w_iloadn 2 [a0, a1, .int x, a3] dX11_joined_59 rfl,
  fun d a0 a2 a3 x st h => fk_w_iloadn 1 [a0, .int x, a2, a3] dX11_joined_60 rfl,
  fun d L x0 x1 h => fk_g_calls [.int x0, .int x1] [] rfl lm_11_110 dX11_joined_61 rfl ⟨rfl, by decide⟩ (by simp),
  fun d L x st h => fk_r_if_ne dX11_joined_64 (by decide),
  fun d L st h => fk_w_bipush dX11_joined_67 (by decide),
  fun d L x h => fk_r_ret dX11_joined_69 (Or.inl rfl),
  fun d a1 a2 a3 x st h => fk_w_aloadn 0 [.ref x, a1, a2, a3] dX11_joined_70 rfl,
  fun d L st N y l => fk_g_getC rfl lf_11_83 (by decide) rfl dX11_joined_71 fk_at_1,
  fun d a1 a2 a3 x st h => fk_w_aloadn 0 [.ref x, a1, a2, a3] dX11_joined_74 rfl,
  fun d L st N y l => fk_g_getC rfl lf_11_58 (by decide) rfl dX11_joined_75 fk_at_1,
  fun d a1 a2 a3 x st h => fk_w_aloadn 0 [.ref x, a1, a2, a3] dX11_joined_78 rfl,
  fun d L st N y l => fk_g_getM rfl lf_11_10 (by decide) dX11_joined_79 fk_at_1,
  fun d L x0 x1 N y l  => fk_g_call [.ref x0, .ref x1] [] rfl lm_11_176 dX11_joined_82 rfl ⟨rfl, by decide⟩ (by simp) fk_at_238,
  fun d a1 a2 a3 x st h => fk_w_aloadn 0 [.ref x, a1, a2, a3] dX11_joined_85 rfl,
  fun d L st N y l => fk_g_getC rfl lf_11_99 (by decide) rfl dX11_joined_86 fk_at_1,
  fun d a1 a2 a3 x st h => fk_w_aloadn 0 [.ref x, a1, a2, a3] dX11_joined_89 rfl,
  fun d L st N y l => fk_g_getC rfl lf_11_83 (by decide) rfl dX11_joined_90 fk_at_1,
  fun d a1 a2 a3 x st h => fk_w_aloadn 0 [.ref x, a1, a2, a3] dX11_joined_93 rfl,
  fun d L st N y l => fk_g_getC rfl lf_11_58 (by decide) rfl dX11_joined_94 fk_at_1,
  fun d L x0 x1 N y l  => fk_g_call [.ref x0, .ref x1] [] rfl lm_11_296 dX11_joined_97 rfl ⟨rfl, by decide⟩ (by simp) fk_at_241,
  fun d a0 a1 a3 x st h => fk_w_iloadn 2 [a0, a1, .int x, a3] dX11_joined_100 rfl,
  fun d L st h => fk_w_iconst dX11_joined_101 (by decide),
  fun d L x y st h => fk_r_icmp_ne dX11_joined_102 (by decide),
  fun d a1 a2 a3 x st h => fk_w_aloadn 0 [.ref x, a1, a2, a3] dX11_joined_105 rfl,
  fun d L st N y l => fk_g_getC rfl lf_11_99 (by decide) rfl dX11_joined_106 fk_at_1,
  fun d L st N y l => fk_g_getI rfl lf_11_299 (by decide) dX11_joined_109 fk_at_241,
  fun d L st h => fk_r_goto dX11_joined_112 (by decide),
  fun d a1 a2 a3 x st h => fk_w_aloadn 0 [.ref x, a1, a2, a3] dX11_joined_115 rfl,
  fun d L st N y l => fk_g_getC rfl lf_11_99 (by decide) rfl dX11_joined_116 fk_at_1,
  fun d L st N y l => fk_g_getC rfl lf_11_300 (by decide) rfl dX11_joined_119 fk_at_241,
  fun d a0 a1 a3 x st h => fk_w_iloadn 2 [a0, a1, .int x, a3] dX11_joined_122 rfl,
  fun d L st N y l i hi => fk_g_iald fk_at_243 fk_ln_243 (by decide) dX11_joined_123 hi,
  fun d L x h => fk_r_ret dX11_joined_124 (Or.inl rfl)⟩
theorem dX11_chosen_0 : decode cX11_chosen 0 = .ok (.aload_n 0, 1) := by decide +kernel
theorem dX11_chosen_1 : decode cX11_chosen 1 = .ok (.getfield 58, 3) := by decide +kernel
theorem dX11_chosen_4 : decode cX11_chosen 4 = .ok (.iload_n 1, 1) := by decide +kernel
theorem dX11_chosen_5 : decode cX11_chosen 5 = .ok (.invokevirtual 252, 3) := by decide +kernel
theorem dX11_chosen_8 : decode cX11_chosen 8 = .ok (.ifCond .eq 27, 3) := by decide +kernel
theorem dX11_chosen_11 : decode cX11_chosen 11 = .ok (.aload_n 0, 1) := by decide +kernel
theorem dX11_chosen_12 : decode cX11_chosen 12 = .ok (.getfield 58, 3) := by decide +kernel
theorem dX11_chosen_15 : decode cX11_chosen 15 = .ok (.iload_n 2, 1) := by decide +kernel
theorem dX11_chosen_16 : decode cX11_chosen 16 = .ok (.invokevirtual 252, 3) := by decide +kernel
theorem dX11_chosen_19 : decode cX11_chosen 19 = .ok (.ifCond .eq 16, 3) := by decide +kernel
theorem dX11_chosen_22 : decode cX11_chosen 22 = .ok (.iload_n 1, 1) := by decide +kernel
theorem dX11_chosen_23 : decode cX11_chosen 23 = .ok (.iload_n 2, 1) := by decide +kernel
theorem dX11_chosen_24 : decode cX11_chosen 24 = .ok (.if_icmp .eq 11, 3) := by decide +kernel
theorem dX11_chosen_27 : decode cX11_chosen 27 = .ok (.iload_n 3, 1) := by decide +kernel
theorem dX11_chosen_28 : decode cX11_chosen 28 = .ok (.iconst 3, 1) := by decide +kernel
theorem dX11_chosen_29 : decode cX11_chosen 29 = .ok (.invokestatic 110, 3) := by decide +kernel
theorem dX11_chosen_32 : decode cX11_chosen 32 = .ok (.ifCond .ne 5, 3) := by decide +kernel
theorem dX11_chosen_35 : decode cX11_chosen 35 = .ok (.iconst (-1), 1) := by decide +kernel
theorem dX11_chosen_36 : decode cX11_chosen 36 = .ok (.ireturn, 1) := by decide +kernel
theorem dX11_chosen_37 : decode cX11_chosen 37 = .ok (.aload_n 0, 1) := by decide +kernel
theorem dX11_chosen_38 : decode cX11_chosen 38 = .ok (.getfield 58, 3) := by decide +kernel
theorem dX11_chosen_41 : decode cX11_chosen 41 = .ok (.getfield 139, 3) := by decide +kernel
theorem dX11_chosen_44 : decode cX11_chosen 44 = .ok (.iload_n 1, 1) := by decide +kernel
theorem dX11_chosen_45 : decode cX11_chosen 45 = .ok (.aaload, 1) := by decide +kernel
theorem dX11_chosen_46 : decode cX11_chosen 46 = .ok (.getfield 233, 3) := by decide +kernel
theorem dX11_chosen_49 : decode cX11_chosen 49 = .ok (.aload_n 0, 1) := by decide +kernel
theorem dX11_chosen_50 : decode cX11_chosen 50 = .ok (.getfield 58, 3) := by decide +kernel
theorem dX11_chosen_53 : decode cX11_chosen 53 = .ok (.getfield 139, 3) := by decide +kernel
theorem dX11_chosen_56 : decode cX11_chosen 56 = .ok (.iload_n 2, 1) := by decide +kernel
theorem dX11_chosen_57 : decode cX11_chosen 57 = .ok (.aaload, 1) := by decide +kernel
theorem dX11_chosen_58 : decode cX11_chosen 58 = .ok (.getfield 233, 3) := by decide +kernel
theorem dX11_chosen_61 : decode cX11_chosen 61 = .ok (.if_icmp .eq 5, 3) := by decide +kernel
theorem dX11_chosen_64 : decode cX11_chosen 64 = .ok (.iconst (-1), 1) := by decide +kernel
theorem dX11_chosen_65 : decode cX11_chosen 65 = .ok (.ireturn, 1) := by decide +kernel
theorem dX11_chosen_66 : decode cX11_chosen 66 = .ok (.aload_n 0, 1) := by decide +kernel
theorem dX11_chosen_67 : decode cX11_chosen 67 = .ok (.getfield 83, 3) := by decide +kernel
theorem dX11_chosen_70 : decode cX11_chosen 70 = .ok (.aload_n 0, 1) := by decide +kernel
theorem dX11_chosen_71 : decode cX11_chosen 71 = .ok (.getfield 58, 3) := by decide +kernel
theorem dX11_chosen_74 : decode cX11_chosen 74 = .ok (.aload_n 0, 1) := by decide +kernel
theorem dX11_chosen_75 : decode cX11_chosen 75 = .ok (.getfield 10, 3) := by decide +kernel
theorem dX11_chosen_78 : decode cX11_chosen 78 = .ok (.invokevirtual 176, 3) := by decide +kernel
theorem dX11_chosen_81 : decode cX11_chosen 81 = .ok (.aload_n 0, 1) := by decide +kernel
theorem dX11_chosen_82 : decode cX11_chosen 82 = .ok (.getfield 83, 3) := by decide +kernel
theorem dX11_chosen_85 : decode cX11_chosen 85 = .ok (.aload_n 0, 1) := by decide +kernel
theorem dX11_chosen_86 : decode cX11_chosen 86 = .ok (.getfield 58, 3) := by decide +kernel
theorem dX11_chosen_89 : decode cX11_chosen 89 = .ok (.getfield 139, 3) := by decide +kernel
theorem dX11_chosen_92 : decode cX11_chosen 92 = .ok (.iload_n 1, 1) := by decide +kernel
theorem dX11_chosen_93 : decode cX11_chosen 93 = .ok (.aaload, 1) := by decide +kernel
theorem dX11_chosen_94 : decode cX11_chosen 94 = .ok (.aload_n 0, 1) := by decide +kernel
theorem dX11_chosen_95 : decode cX11_chosen 95 = .ok (.getfield 103, 3) := by decide +kernel
theorem dX11_chosen_98 : decode cX11_chosen 98 = .ok (.invokevirtual 303, 3) := by decide +kernel
theorem dX11_chosen_101 : decode cX11_chosen 101 = .ok (.aload_n 0, 1) := by decide +kernel
theorem dX11_chosen_102 : decode cX11_chosen 102 = .ok (.getfield 83, 3) := by decide +kernel
theorem dX11_chosen_105 : decode cX11_chosen 105 = .ok (.aload_n 0, 1) := by decide +kernel
theorem dX11_chosen_106 : decode cX11_chosen 106 = .ok (.getfield 58, 3) := by decide +kernel
theorem dX11_chosen_109 : decode cX11_chosen 109 = .ok (.getfield 139, 3) := by decide +kernel
theorem dX11_chosen_112 : decode cX11_chosen 112 = .ok (.iload_n 2, 1) := by decide +kernel
theorem dX11_chosen_113 : decode cX11_chosen 113 = .ok (.aaload, 1) := by decide +kernel
theorem dX11_chosen_114 : decode cX11_chosen 114 = .ok (.aload_n 0, 1) := by decide +kernel
theorem dX11_chosen_115 : decode cX11_chosen 115 = .ok (.getfield 107, 3) := by decide +kernel
theorem dX11_chosen_118 : decode cX11_chosen 118 = .ok (.invokevirtual 303, 3) := by decide +kernel
theorem dX11_chosen_121 : decode cX11_chosen 121 = .ok (.iconst 0, 1) := by decide +kernel
theorem dX11_chosen_122 : decode cX11_chosen 122 = .ok (.istore 4, 2) := by decide +kernel
theorem dX11_chosen_124 : decode cX11_chosen 124 = .ok (.bipush (-2), 2) := by decide +kernel
theorem dX11_chosen_126 : decode cX11_chosen 126 = .ok (.istore 5, 2) := by decide +kernel
theorem dX11_chosen_128 : decode cX11_chosen 128 = .ok (.iconst 0, 1) := by decide +kernel
theorem dX11_chosen_129 : decode cX11_chosen 129 = .ok (.istore 6, 2) := by decide +kernel
theorem dX11_chosen_131 : decode cX11_chosen 131 = .ok (.iload 6, 2) := by decide +kernel
theorem dX11_chosen_133 : decode cX11_chosen 133 = .ok (.sipush 1024, 3) := by decide +kernel
theorem dX11_chosen_136 : decode cX11_chosen 136 = .ok (.if_icmp .ge 43, 3) := by decide +kernel
theorem dX11_chosen_139 : decode cX11_chosen 139 = .ok (.aload_n 0, 1) := by decide +kernel
theorem dX11_chosen_140 : decode cX11_chosen 140 = .ok (.iload 6, 2) := by decide +kernel
theorem dX11_chosen_142 : decode cX11_chosen 142 = .ok (.bipush 32, 2) := by decide +kernel
theorem dX11_chosen_144 : decode cX11_chosen 144 = .ok (.idiv, 1) := by decide +kernel
theorem dX11_chosen_145 : decode cX11_chosen 145 = .ok (.iload 6, 2) := by decide +kernel
theorem dX11_chosen_147 : decode cX11_chosen 147 = .ok (.bipush 32, 2) := by decide +kernel
theorem dX11_chosen_149 : decode cX11_chosen 149 = .ok (.irem, 1) := by decide +kernel
theorem dX11_chosen_150 : decode cX11_chosen 150 = .ok (.invokevirtual 307, 3) := by decide +kernel
theorem dX11_chosen_153 : decode cX11_chosen 153 = .ok (.ifCond .eq 20, 3) := by decide +kernel
theorem dX11_chosen_156 : decode cX11_chosen 156 = .ok (.iload 4, 2) := by decide +kernel
theorem dX11_chosen_158 : decode cX11_chosen 158 = .ok (.ifCond .ne 8, 3) := by decide +kernel
theorem dX11_chosen_161 : decode cX11_chosen 161 = .ok (.iload 6, 2) := by decide +kernel
theorem dX11_chosen_163 : decode cX11_chosen 163 = .ok (.goto 5, 3) := by decide +kernel
theorem dX11_chosen_166 : decode cX11_chosen 166 = .ok (.iload 5, 2) := by decide +kernel
theorem dX11_chosen_168 : decode cX11_chosen 168 = .ok (.istore 5, 2) := by decide +kernel
theorem dX11_chosen_170 : decode cX11_chosen 170 = .ok (.iinc 4 1, 3) := by decide +kernel
theorem dX11_chosen_173 : decode cX11_chosen 173 = .ok (.iinc 6 1, 3) := by decide +kernel
theorem dX11_chosen_176 : decode cX11_chosen 176 = .ok (.goto (-45), 3) := by decide +kernel
theorem dX11_chosen_179 : decode cX11_chosen 179 = .ok (.iload_n 3, 1) := by decide +kernel
theorem dX11_chosen_180 : decode cX11_chosen 180 = .ok (.ifCond .ne 6, 3) := by decide +kernel
theorem dX11_chosen_183 : decode cX11_chosen 183 = .ok (.iload 4, 2) := by decide +kernel
theorem dX11_chosen_185 : decode cX11_chosen 185 = .ok (.ireturn, 1) := by decide +kernel
theorem dX11_chosen_186 : decode cX11_chosen 186 = .ok (.iload 4, 2) := by decide +kernel
theorem dX11_chosen_188 : decode cX11_chosen 188 = .ok (.ifCond .ne 6, 3) := by decide +kernel
theorem dX11_chosen_191 : decode cX11_chosen 191 = .ok (.bipush (-2), 2) := by decide +kernel
theorem dX11_chosen_193 : decode cX11_chosen 193 = .ok (.ireturn, 1) := by decide +kernel
theorem dX11_chosen_194 : decode cX11_chosen 194 = .ok (.iload_n 3, 1) := by decide +kernel
theorem dX11_chosen_195 : decode cX11_chosen 195 = .ok (.iconst 1, 1) := by decide +kernel
theorem dX11_chosen_196 : decode cX11_chosen 196 = .ok (.if_icmp .ne 11, 3) := by decide +kernel
theorem dX11_chosen_199 : decode cX11_chosen 199 = .ok (.iload 5, 2) := by decide +kernel
theorem dX11_chosen_201 : decode cX11_chosen 201 = .ok (.bipush 32, 2) := by decide +kernel
theorem dX11_chosen_203 : decode cX11_chosen 203 = .ok (.idiv, 1) := by decide +kernel
theorem dX11_chosen_204 : decode cX11_chosen 204 = .ok (.goto 8, 3) := by decide +kernel
theorem dX11_chosen_207 : decode cX11_chosen 207 = .ok (.iload 5, 2) := by decide +kernel
theorem dX11_chosen_209 : decode cX11_chosen 209 = .ok (.bipush 32, 2) := by decide +kernel
theorem dX11_chosen_211 : decode cX11_chosen 211 = .ok (.irem, 1) := by decide +kernel
theorem dX11_chosen_212 : decode cX11_chosen 212 = .ok (.ireturn, 1) := by decide +kernel
theorem rX11_chosen : (∀ (d : Nat) (a1 a2 a3 a4 a5 a6 : Value) (x : Nat) (st : List Value) (h : fk_H), fk_ev d qX11_chosen 0 [.ref x, a1, a2, a3, a4, a5, a6] st h = fk_ev d qX11_chosen 1 [.ref x, a1, a2, a3, a4, a5, a6] (.ref x :: st) h) ∧
  (∀ (d : Nat) (L st : List Value) (N : Nat) (y : Nat → Nat → Int32) (l : Nat → Nat → Int64), fk_ev d qX11_chosen 1 L (.ref 1 :: st) (fk_E N y l) = fk_ev d qX11_chosen 4 L (.ref 33 :: st) (fk_E N y l)) ∧
  (∀ (d : Nat) (a0 a2 a3 a4 a5 a6 : Value) (x : Int32) (st : List Value) (h : fk_H), fk_ev d qX11_chosen 4 [a0, .int x, a2, a3, a4, a5, a6] st h = fk_ev d qX11_chosen 5 [a0, .int x, a2, a3, a4, a5, a6] (.int x :: st) h) ∧
  (∀ (d : Nat) (L : List Value) (x0 : Int32)  (N : Nat) (y : Nat → Nat → Int32) (l : Nat → Nat → Int64) (c : Nat), fk_at c 8 → fk_ev (d + 1) qX11_chosen 5 L (.int x0 :: .ref c :: []) (fk_E N y l) = (fk_ev d qX8_isAtPlace 0 [.ref c, .int x0] [] (fk_E N y l)).bind fun o => fk_ev (d + 1) qX11_chosen 8 L (o.1.toList ++ []) o.2) ∧
  (∀ (d : Nat) (L : List Value) (x : Int32) (st : List Value) (h : fk_H), fk_ev d qX11_chosen 8 L (.int x :: st) h = if x = nI 0 then fk_ev d qX11_chosen 35 L st h else fk_ev d qX11_chosen 11 L st h) ∧
  (∀ (d : Nat) (a1 a2 a3 a4 a5 a6 : Value) (x : Nat) (st : List Value) (h : fk_H), fk_ev d qX11_chosen 11 [.ref x, a1, a2, a3, a4, a5, a6] st h = fk_ev d qX11_chosen 12 [.ref x, a1, a2, a3, a4, a5, a6] (.ref x :: st) h) ∧
  (∀ (d : Nat) (L st : List Value) (N : Nat) (y : Nat → Nat → Int32) (l : Nat → Nat → Int64), fk_ev d qX11_chosen 12 L (.ref 1 :: st) (fk_E N y l) = fk_ev d qX11_chosen 15 L (.ref 33 :: st) (fk_E N y l)) ∧
  (∀ (d : Nat) (a0 a1 a3 a4 a5 a6 : Value) (x : Int32) (st : List Value) (h : fk_H), fk_ev d qX11_chosen 15 [a0, a1, .int x, a3, a4, a5, a6] st h = fk_ev d qX11_chosen 16 [a0, a1, .int x, a3, a4, a5, a6] (.int x :: st) h) ∧
  (∀ (d : Nat) (L : List Value) (x0 : Int32)  (N : Nat) (y : Nat → Nat → Int32) (l : Nat → Nat → Int64) (c : Nat), fk_at c 8 → fk_ev (d + 1) qX11_chosen 16 L (.int x0 :: .ref c :: []) (fk_E N y l) = (fk_ev d qX8_isAtPlace 0 [.ref c, .int x0] [] (fk_E N y l)).bind fun o => fk_ev (d + 1) qX11_chosen 19 L (o.1.toList ++ []) o.2) ∧
  (∀ (d : Nat) (L : List Value) (x : Int32) (st : List Value) (h : fk_H), fk_ev d qX11_chosen 19 L (.int x :: st) h = if x = nI 0 then fk_ev d qX11_chosen 35 L st h else fk_ev d qX11_chosen 22 L st h) ∧
  (∀ (d : Nat) (a0 a2 a3 a4 a5 a6 : Value) (x : Int32) (st : List Value) (h : fk_H), fk_ev d qX11_chosen 22 [a0, .int x, a2, a3, a4, a5, a6] st h = fk_ev d qX11_chosen 23 [a0, .int x, a2, a3, a4, a5, a6] (.int x :: st) h) ∧
  (∀ (d : Nat) (a0 a1 a3 a4 a5 a6 : Value) (x : Int32) (st : List Value) (h : fk_H), fk_ev d qX11_chosen 23 [a0, a1, .int x, a3, a4, a5, a6] st h = fk_ev d qX11_chosen 24 [a0, a1, .int x, a3, a4, a5, a6] (.int x :: st) h) ∧
  (∀ (d : Nat) (L : List Value) (x y : Int32) (st : List Value) (h : fk_H), fk_ev d qX11_chosen 24 L (.int y :: .int x :: st) h = if x = y then fk_ev d qX11_chosen 35 L st h else fk_ev d qX11_chosen 27 L st h) ∧
  (∀ (d : Nat) (a0 a1 a2 a4 a5 a6 : Value) (x : Int32) (st : List Value) (h : fk_H), fk_ev d qX11_chosen 27 [a0, a1, a2, .int x, a4, a5, a6] st h = fk_ev d qX11_chosen 28 [a0, a1, a2, .int x, a4, a5, a6] (.int x :: st) h) ∧
  (∀ (d : Nat) (L st : List Value) (h : fk_H), fk_ev d qX11_chosen 28 L st h = fk_ev d qX11_chosen 29 L (.int (nI 3) :: st) h) ∧
  (∀ (d : Nat) (L : List Value) (x0 : Int32) (x1 : Int32)  (h : fk_H), fk_ev (d + 1) qX11_chosen 29 L (.int x1 :: .int x0 :: []) h = (fk_ev d qX11_within 0 [.int x0, .int x1] [] h).bind fun o => fk_ev (d + 1) qX11_chosen 32 L (o.1.toList ++ []) o.2) ∧
  (∀ (d : Nat) (L : List Value) (x : Int32) (st : List Value) (h : fk_H), fk_ev d qX11_chosen 32 L (.int x :: st) h = if ¬ x = nI 0 then fk_ev d qX11_chosen 37 L st h else fk_ev d qX11_chosen 35 L st h) ∧
  (∀ (d : Nat) (L st : List Value) (h : fk_H), fk_ev d qX11_chosen 35 L st h = fk_ev d qX11_chosen 36 L (.int ((-1 : Int32)) :: st) h) ∧
  (∀ (d : Nat) (L : List Value) (x : Int32) (h : fk_H), fk_ev d qX11_chosen 36 L [.int x] h = some (some (.int x), h)) ∧
  (∀ (d : Nat) (a1 a2 a3 a4 a5 a6 : Value) (x : Nat) (st : List Value) (h : fk_H), fk_ev d qX11_chosen 37 [.ref x, a1, a2, a3, a4, a5, a6] st h = fk_ev d qX11_chosen 38 [.ref x, a1, a2, a3, a4, a5, a6] (.ref x :: st) h) ∧
  (∀ (d : Nat) (L st : List Value) (N : Nat) (y : Nat → Nat → Int32) (l : Nat → Nat → Int64), fk_ev d qX11_chosen 38 L (.ref 1 :: st) (fk_E N y l) = fk_ev d qX11_chosen 41 L (.ref 33 :: st) (fk_E N y l)) ∧
  (∀ (d : Nat) (L st : List Value) (N : Nat) (y : Nat → Nat → Int32) (l : Nat → Nat → Int64) (c : Nat), fk_at c 8 → fk_ev d qX11_chosen 41 L (.ref c :: st) (fk_E N y l) = fk_ev d qX11_chosen 44 L (.ref (fk_cr c 0) :: st) (fk_E N y l)) ∧
  (∀ (d : Nat) (a0 a2 a3 a4 a5 a6 : Value) (x : Int32) (st : List Value) (h : fk_H), fk_ev d qX11_chosen 44 [a0, .int x, a2, a3, a4, a5, a6] st h = fk_ev d qX11_chosen 45 [a0, .int x, a2, a3, a4, a5, a6] (.int x :: st) h) ∧
  (∀ (d : Nat) (L st : List Value) (N : Nat) (y : Nat → Nat → Int32) (l : Nat → Nat → Int64) (i : Nat), i < 64 → fk_ev d qX11_chosen 45 L (.int (nI i) :: .ref 34 :: st) (fk_E N y l) = fk_ev d qX11_chosen 46 L (.ref (34 + 2 + i) :: st) (fk_E N y l)) ∧
  (∀ (d : Nat) (L st : List Value) (N : Nat) (y : Nat → Nat → Int32) (l : Nat → Nat → Int64) (c : Nat), fk_at c 0 → fk_ev d qX11_chosen 46 L (.ref c :: st) (fk_E N y l) = fk_ev d qX11_chosen 49 L (.int (y c 6) :: st) (fk_E N y l)) ∧
  (∀ (d : Nat) (a1 a2 a3 a4 a5 a6 : Value) (x : Nat) (st : List Value) (h : fk_H), fk_ev d qX11_chosen 49 [.ref x, a1, a2, a3, a4, a5, a6] st h = fk_ev d qX11_chosen 50 [.ref x, a1, a2, a3, a4, a5, a6] (.ref x :: st) h) ∧
  (∀ (d : Nat) (L st : List Value) (N : Nat) (y : Nat → Nat → Int32) (l : Nat → Nat → Int64), fk_ev d qX11_chosen 50 L (.ref 1 :: st) (fk_E N y l) = fk_ev d qX11_chosen 53 L (.ref 33 :: st) (fk_E N y l)) ∧
  (∀ (d : Nat) (L st : List Value) (N : Nat) (y : Nat → Nat → Int32) (l : Nat → Nat → Int64) (c : Nat), fk_at c 8 → fk_ev d qX11_chosen 53 L (.ref c :: st) (fk_E N y l) = fk_ev d qX11_chosen 56 L (.ref (fk_cr c 0) :: st) (fk_E N y l)) ∧
  (∀ (d : Nat) (a0 a1 a3 a4 a5 a6 : Value) (x : Int32) (st : List Value) (h : fk_H), fk_ev d qX11_chosen 56 [a0, a1, .int x, a3, a4, a5, a6] st h = fk_ev d qX11_chosen 57 [a0, a1, .int x, a3, a4, a5, a6] (.int x :: st) h) ∧
  (∀ (d : Nat) (L st : List Value) (N : Nat) (y : Nat → Nat → Int32) (l : Nat → Nat → Int64) (i : Nat), i < 64 → fk_ev d qX11_chosen 57 L (.int (nI i) :: .ref 34 :: st) (fk_E N y l) = fk_ev d qX11_chosen 58 L (.ref (34 + 2 + i) :: st) (fk_E N y l)) ∧
  (∀ (d : Nat) (L st : List Value) (N : Nat) (y : Nat → Nat → Int32) (l : Nat → Nat → Int64) (c : Nat), fk_at c 0 → fk_ev d qX11_chosen 58 L (.ref c :: st) (fk_E N y l) = fk_ev d qX11_chosen 61 L (.int (y c 6) :: st) (fk_E N y l)) ∧
  (∀ (d : Nat) (L : List Value) (x y : Int32) (st : List Value) (h : fk_H), fk_ev d qX11_chosen 61 L (.int y :: .int x :: st) h = if x = y then fk_ev d qX11_chosen 66 L st h else fk_ev d qX11_chosen 64 L st h) ∧
  (∀ (d : Nat) (L st : List Value) (h : fk_H), fk_ev d qX11_chosen 64 L st h = fk_ev d qX11_chosen 65 L (.int ((-1 : Int32)) :: st) h) ∧
  (∀ (d : Nat) (L : List Value) (x : Int32) (h : fk_H), fk_ev d qX11_chosen 65 L [.int x] h = some (some (.int x), h)) ∧
  (∀ (d : Nat) (a1 a2 a3 a4 a5 a6 : Value) (x : Nat) (st : List Value) (h : fk_H), fk_ev d qX11_chosen 66 [.ref x, a1, a2, a3, a4, a5, a6] st h = fk_ev d qX11_chosen 67 [.ref x, a1, a2, a3, a4, a5, a6] (.ref x :: st) h) ∧
  (∀ (d : Nat) (L st : List Value) (N : Nat) (y : Nat → Nat → Int32) (l : Nat → Nat → Int64), fk_ev d qX11_chosen 67 L (.ref 1 :: st) (fk_E N y l) = fk_ev d qX11_chosen 70 L (.ref 238 :: st) (fk_E N y l)) ∧
  (∀ (d : Nat) (a1 a2 a3 a4 a5 a6 : Value) (x : Nat) (st : List Value) (h : fk_H), fk_ev d qX11_chosen 70 [.ref x, a1, a2, a3, a4, a5, a6] st h = fk_ev d qX11_chosen 71 [.ref x, a1, a2, a3, a4, a5, a6] (.ref x :: st) h) ∧
  (∀ (d : Nat) (L st : List Value) (N : Nat) (y : Nat → Nat → Int32) (l : Nat → Nat → Int64), fk_ev d qX11_chosen 71 L (.ref 1 :: st) (fk_E N y l) = fk_ev d qX11_chosen 74 L (.ref 33 :: st) (fk_E N y l)) ∧
  (∀ (d : Nat) (a1 a2 a3 a4 a5 a6 : Value) (x : Nat) (st : List Value) (h : fk_H), fk_ev d qX11_chosen 74 [.ref x, a1, a2, a3, a4, a5, a6] st h = fk_ev d qX11_chosen 75 [.ref x, a1, a2, a3, a4, a5, a6] (.ref x :: st) h) ∧
  (∀ (d : Nat) (L st : List Value) (N : Nat) (y : Nat → Nat → Int32) (l : Nat → Nat → Int64), fk_ev d qX11_chosen 75 L (.ref 1 :: st) (fk_E N y l) = fk_ev d qX11_chosen 78 L (.ref (y 1 0).toNatClampNeg :: st) (fk_E N y l)) ∧
  (∀ (d : Nat) (L : List Value) (x0 : Nat) (x1 : Nat)  (N : Nat) (y : Nat → Nat → Int32) (l : Nat → Nat → Int64), fk_ev (d + 1) qX11_chosen 78 L (.ref x1 :: .ref x0 :: .ref 238 :: []) (fk_E N y l) = (fk_ev d qX6_begin 0 [.ref 238, .ref x0, .ref x1] [] (fk_E N y l)).bind fun o => fk_ev (d + 1) qX11_chosen 81 L (o.1.toList ++ []) o.2) ∧
  (∀ (d : Nat) (a1 a2 a3 a4 a5 a6 : Value) (x : Nat) (st : List Value) (h : fk_H), fk_ev d qX11_chosen 81 [.ref x, a1, a2, a3, a4, a5, a6] st h = fk_ev d qX11_chosen 82 [.ref x, a1, a2, a3, a4, a5, a6] (.ref x :: st) h) ∧
  (∀ (d : Nat) (L st : List Value) (N : Nat) (y : Nat → Nat → Int32) (l : Nat → Nat → Int64), fk_ev d qX11_chosen 82 L (.ref 1 :: st) (fk_E N y l) = fk_ev d qX11_chosen 85 L (.ref 238 :: st) (fk_E N y l)) ∧
  (∀ (d : Nat) (a1 a2 a3 a4 a5 a6 : Value) (x : Nat) (st : List Value) (h : fk_H), fk_ev d qX11_chosen 85 [.ref x, a1, a2, a3, a4, a5, a6] st h = fk_ev d qX11_chosen 86 [.ref x, a1, a2, a3, a4, a5, a6] (.ref x :: st) h) ∧
  (∀ (d : Nat) (L st : List Value) (N : Nat) (y : Nat → Nat → Int32) (l : Nat → Nat → Int64), fk_ev d qX11_chosen 86 L (.ref 1 :: st) (fk_E N y l) = fk_ev d qX11_chosen 89 L (.ref 33 :: st) (fk_E N y l)) ∧
  (∀ (d : Nat) (L st : List Value) (N : Nat) (y : Nat → Nat → Int32) (l : Nat → Nat → Int64) (c : Nat), fk_at c 8 → fk_ev d qX11_chosen 89 L (.ref c :: st) (fk_E N y l) = fk_ev d qX11_chosen 92 L (.ref (fk_cr c 0) :: st) (fk_E N y l)) ∧
  (∀ (d : Nat) (a0 a2 a3 a4 a5 a6 : Value) (x : Int32) (st : List Value) (h : fk_H), fk_ev d qX11_chosen 92 [a0, .int x, a2, a3, a4, a5, a6] st h = fk_ev d qX11_chosen 93 [a0, .int x, a2, a3, a4, a5, a6] (.int x :: st) h) ∧
  (∀ (d : Nat) (L st : List Value) (N : Nat) (y : Nat → Nat → Int32) (l : Nat → Nat → Int64) (i : Nat), i < 64 → fk_ev d qX11_chosen 93 L (.int (nI i) :: .ref 34 :: st) (fk_E N y l) = fk_ev d qX11_chosen 94 L (.ref (34 + 2 + i) :: st) (fk_E N y l)) ∧
  (∀ (d : Nat) (a1 a2 a3 a4 a5 a6 : Value) (x : Nat) (st : List Value) (h : fk_H), fk_ev d qX11_chosen 94 [.ref x, a1, a2, a3, a4, a5, a6] st h = fk_ev d qX11_chosen 95 [.ref x, a1, a2, a3, a4, a5, a6] (.ref x :: st) h) ∧
  (∀ (d : Nat) (L st : List Value) (N : Nat) (y : Nat → Nat → Int32) (l : Nat → Nat → Int64), fk_ev d qX11_chosen 95 L (.ref 1 :: st) (fk_E N y l) = fk_ev d qX11_chosen 98 L (.ref 244 :: st) (fk_E N y l)) ∧
  (∀ (d : Nat) (L : List Value) (x0 : Nat) (x1 : Nat)  (N : Nat) (y : Nat → Nat → Int32) (l : Nat → Nat → Int64), fk_ev (d + 1) qX11_chosen 98 L (.ref x1 :: .ref x0 :: .ref 238 :: []) (fk_E N y l) = (fk_ev d qX6_fillGladness 0 [.ref 238, .ref x0, .ref x1, .null] [] (fk_E N y l)).bind fun o => fk_ev (d + 1) qX11_chosen 101 L (o.1.toList ++ []) o.2) ∧
  (∀ (d : Nat) (a1 a2 a3 a4 a5 a6 : Value) (x : Nat) (st : List Value) (h : fk_H), fk_ev d qX11_chosen 101 [.ref x, a1, a2, a3, a4, a5, a6] st h = fk_ev d qX11_chosen 102 [.ref x, a1, a2, a3, a4, a5, a6] (.ref x :: st) h) ∧
  (∀ (d : Nat) (L st : List Value) (N : Nat) (y : Nat → Nat → Int32) (l : Nat → Nat → Int64), fk_ev d qX11_chosen 102 L (.ref 1 :: st) (fk_E N y l) = fk_ev d qX11_chosen 105 L (.ref 238 :: st) (fk_E N y l)) ∧
  (∀ (d : Nat) (a1 a2 a3 a4 a5 a6 : Value) (x : Nat) (st : List Value) (h : fk_H), fk_ev d qX11_chosen 105 [.ref x, a1, a2, a3, a4, a5, a6] st h = fk_ev d qX11_chosen 106 [.ref x, a1, a2, a3, a4, a5, a6] (.ref x :: st) h) ∧
  (∀ (d : Nat) (L st : List Value) (N : Nat) (y : Nat → Nat → Int32) (l : Nat → Nat → Int64), fk_ev d qX11_chosen 106 L (.ref 1 :: st) (fk_E N y l) = fk_ev d qX11_chosen 109 L (.ref 33 :: st) (fk_E N y l)) ∧
  (∀ (d : Nat) (L st : List Value) (N : Nat) (y : Nat → Nat → Int32) (l : Nat → Nat → Int64) (c : Nat), fk_at c 8 → fk_ev d qX11_chosen 109 L (.ref c :: st) (fk_E N y l) = fk_ev d qX11_chosen 112 L (.ref (fk_cr c 0) :: st) (fk_E N y l)) ∧
  (∀ (d : Nat) (a0 a1 a3 a4 a5 a6 : Value) (x : Int32) (st : List Value) (h : fk_H), fk_ev d qX11_chosen 112 [a0, a1, .int x, a3, a4, a5, a6] st h = fk_ev d qX11_chosen 113 [a0, a1, .int x, a3, a4, a5, a6] (.int x :: st) h) ∧
  (∀ (d : Nat) (L st : List Value) (N : Nat) (y : Nat → Nat → Int32) (l : Nat → Nat → Int64) (i : Nat), i < 64 → fk_ev d qX11_chosen 113 L (.int (nI i) :: .ref 34 :: st) (fk_E N y l) = fk_ev d qX11_chosen 114 L (.ref (34 + 2 + i) :: st) (fk_E N y l)) ∧
  (∀ (d : Nat) (a1 a2 a3 a4 a5 a6 : Value) (x : Nat) (st : List Value) (h : fk_H), fk_ev d qX11_chosen 114 [.ref x, a1, a2, a3, a4, a5, a6] st h = fk_ev d qX11_chosen 115 [.ref x, a1, a2, a3, a4, a5, a6] (.ref x :: st) h) ∧
  (∀ (d : Nat) (L st : List Value) (N : Nat) (y : Nat → Nat → Int32) (l : Nat → Nat → Int64), fk_ev d qX11_chosen 115 L (.ref 1 :: st) (fk_E N y l) = fk_ev d qX11_chosen 118 L (.ref 245 :: st) (fk_E N y l)) ∧
  (∀ (d : Nat) (L : List Value) (x0 : Nat) (x1 : Nat)  (N : Nat) (y : Nat → Nat → Int32) (l : Nat → Nat → Int64), fk_ev (d + 1) qX11_chosen 118 L (.ref x1 :: .ref x0 :: .ref 238 :: []) (fk_E N y l) = (fk_ev d qX6_fillGladness 0 [.ref 238, .ref x0, .ref x1, .null] [] (fk_E N y l)).bind fun o => fk_ev (d + 1) qX11_chosen 121 L (o.1.toList ++ []) o.2) ∧
  (∀ (d : Nat) (L st : List Value) (h : fk_H), fk_ev d qX11_chosen 121 L st h = fk_ev d qX11_chosen 122 L (.int (nI 0) :: st) h) ∧
  (∀ (d : Nat) (a0 a1 a2 a3 a4 a5 a6 : Value) (x : Int32) (st : List Value) (h : fk_H), fk_ev d qX11_chosen 122 [a0, a1, a2, a3, a4, a5, a6] (.int x :: st) h = fk_ev d qX11_chosen 124 [a0, a1, a2, a3, .int x, a5, a6] st h) ∧
  (∀ (d : Nat) (L st : List Value) (h : fk_H), fk_ev d qX11_chosen 124 L st h = fk_ev d qX11_chosen 126 L (.int ((-2 : Int32)) :: st) h) ∧
  (∀ (d : Nat) (a0 a1 a2 a3 a4 a5 a6 : Value) (x : Int32) (st : List Value) (h : fk_H), fk_ev d qX11_chosen 126 [a0, a1, a2, a3, a4, a5, a6] (.int x :: st) h = fk_ev d qX11_chosen 128 [a0, a1, a2, a3, a4, .int x, a6] st h) ∧
  (∀ (d : Nat) (L st : List Value) (h : fk_H), fk_ev d qX11_chosen 128 L st h = fk_ev d qX11_chosen 129 L (.int (nI 0) :: st) h) ∧
  (∀ (d : Nat) (a0 a1 a2 a3 a4 a5 a6 : Value) (x : Int32) (st : List Value) (h : fk_H), fk_ev d qX11_chosen 129 [a0, a1, a2, a3, a4, a5, a6] (.int x :: st) h = fk_ev d qX11_chosen 131 [a0, a1, a2, a3, a4, a5, .int x] st h) ∧
  (∀ (d : Nat) (L st : List Value) (h : fk_H), fk_ev d qX11_chosen 133 L st h = fk_ev d qX11_chosen 136 L (.int (nI 1024) :: st) h) ∧
  (∀ (d : Nat) (L : List Value) (x y : Int32) (st : List Value) (h : fk_H), fk_ev d qX11_chosen 136 L (.int y :: .int x :: st) h = if y ≤ x then fk_ev d qX11_chosen 179 L st h else fk_ev d qX11_chosen 139 L st h) ∧
  (∀ (d : Nat) (a1 a2 a3 a4 a5 a6 : Value) (x : Nat) (st : List Value) (h : fk_H), fk_ev d qX11_chosen 139 [.ref x, a1, a2, a3, a4, a5, a6] st h = fk_ev d qX11_chosen 140 [.ref x, a1, a2, a3, a4, a5, a6] (.ref x :: st) h) ∧
  (∀ (d : Nat) (a0 a1 a2 a3 a4 a5 : Value) (x : Int32) (st : List Value) (h : fk_H), fk_ev d qX11_chosen 140 [a0, a1, a2, a3, a4, a5, .int x] st h = fk_ev d qX11_chosen 142 [a0, a1, a2, a3, a4, a5, .int x] (.int x :: st) h) ∧
  (∀ (d : Nat) (L st : List Value) (h : fk_H), fk_ev d qX11_chosen 142 L st h = fk_ev d qX11_chosen 144 L (.int (nI 32) :: st) h) ∧
  (∀ (d : Nat) (L : List Value) (x y : Int32) (st : List Value) (h : fk_H), fk_ev d qX11_chosen 144 L (.int y :: .int x :: st) h = if y = 0 then none else fk_ev d qX11_chosen 145 L (.int (x / y) :: st) h) ∧
  (∀ (d : Nat) (a0 a1 a2 a3 a4 a5 : Value) (x : Int32) (st : List Value) (h : fk_H), fk_ev d qX11_chosen 145 [a0, a1, a2, a3, a4, a5, .int x] st h = fk_ev d qX11_chosen 147 [a0, a1, a2, a3, a4, a5, .int x] (.int x :: st) h) ∧
  (∀ (d : Nat) (L st : List Value) (h : fk_H), fk_ev d qX11_chosen 147 L st h = fk_ev d qX11_chosen 149 L (.int (nI 32) :: st) h) ∧
  (∀ (d : Nat) (L : List Value) (x y : Int32) (st : List Value) (h : fk_H), fk_ev d qX11_chosen 149 L (.int y :: .int x :: st) h = if y = 0 then none else fk_ev d qX11_chosen 150 L (.int (x - x / y * y) :: st) h) ∧
  (∀ (d : Nat) (L : List Value) (x0 : Int32) (x1 : Int32)  (N : Nat) (y : Nat → Nat → Int32) (l : Nat → Nat → Int64), fk_ev (d + 1) qX11_chosen 150 L (.int x1 :: .int x0 :: .ref 1 :: []) (fk_E N y l) = (fk_ev d qX11_isSettled 0 [.ref 1, .int x0, .int x1, .null, .null, .null, .null, .null] [] (fk_E N y l)).bind fun o => fk_ev (d + 1) qX11_chosen 153 L (o.1.toList ++ []) o.2) ∧
  (∀ (d : Nat) (L : List Value) (x : Int32) (st : List Value) (h : fk_H), fk_ev d qX11_chosen 153 L (.int x :: st) h = if x = nI 0 then fk_ev d qX11_chosen 173 L st h else fk_ev d qX11_chosen 156 L st h) ∧
  (∀ (d : Nat) (a0 a1 a2 a3 a5 a6 : Value) (x : Int32) (st : List Value) (h : fk_H), fk_ev d qX11_chosen 156 [a0, a1, a2, a3, .int x, a5, a6] st h = fk_ev d qX11_chosen 158 [a0, a1, a2, a3, .int x, a5, a6] (.int x :: st) h) ∧
  (∀ (d : Nat) (L : List Value) (x : Int32) (st : List Value) (h : fk_H), fk_ev d qX11_chosen 158 L (.int x :: st) h = if ¬ x = nI 0 then fk_ev d qX11_chosen 166 L st h else fk_ev d qX11_chosen 161 L st h) ∧
  (∀ (d : Nat) (a0 a1 a2 a3 a4 a5 : Value) (x : Int32) (st : List Value) (h : fk_H), fk_ev d qX11_chosen 161 [a0, a1, a2, a3, a4, a5, .int x] st h = fk_ev d qX11_chosen 163 [a0, a1, a2, a3, a4, a5, .int x] (.int x :: st) h) ∧
  (∀ (d : Nat) (L st : List Value) (h : fk_H), fk_ev d qX11_chosen 163 L st h = fk_ev d qX11_chosen 168 L st h) ∧
  (∀ (d : Nat) (a0 a1 a2 a3 a4 a6 : Value) (x : Int32) (st : List Value) (h : fk_H), fk_ev d qX11_chosen 166 [a0, a1, a2, a3, a4, .int x, a6] st h = fk_ev d qX11_chosen 168 [a0, a1, a2, a3, a4, .int x, a6] (.int x :: st) h) ∧
  (∀ (d : Nat) (a0 a1 a2 a3 a4 a5 a6 : Value) (x : Int32) (st : List Value) (h : fk_H), fk_ev d qX11_chosen 168 [a0, a1, a2, a3, a4, a5, a6] (.int x :: st) h = fk_ev d qX11_chosen 170 [a0, a1, a2, a3, a4, .int x, a6] st h) ∧
  (∀ (d : Nat) (a0 a1 a2 a3 a5 a6 : Value) (x : Int32) (st : List Value) (h : fk_H), fk_ev d qX11_chosen 170 [a0, a1, a2, a3, .int x, a5, a6] st h = fk_ev d qX11_chosen 173 [a0, a1, a2, a3, .int (x + nI 1), a5, a6] st h) ∧
  (∀ (d : Nat) (a0 a1 a2 a3 a4 a5 : Value) (x : Int32) (st : List Value) (h : fk_H), fk_ev d qX11_chosen 173 [a0, a1, a2, a3, a4, a5, .int x] st h = fk_ev d qX11_chosen 176 [a0, a1, a2, a3, a4, a5, .int (x + nI 1)] st h) ∧
  (∀ (d : Nat) (L st : List Value) (h : fk_H), fk_ev d qX11_chosen 176 L st h = fk_ev d qX11_chosen 131 L st h) ∧
  (∀ (d : Nat) (a0 a1 a2 a4 a5 a6 : Value) (x : Int32) (st : List Value) (h : fk_H), fk_ev d qX11_chosen 179 [a0, a1, a2, .int x, a4, a5, a6] st h = fk_ev d qX11_chosen 180 [a0, a1, a2, .int x, a4, a5, a6] (.int x :: st) h) ∧
  (∀ (d : Nat) (L : List Value) (x : Int32) (st : List Value) (h : fk_H), fk_ev d qX11_chosen 180 L (.int x :: st) h = if ¬ x = nI 0 then fk_ev d qX11_chosen 186 L st h else fk_ev d qX11_chosen 183 L st h) ∧
  (∀ (d : Nat) (a0 a1 a2 a3 a5 a6 : Value) (x : Int32) (st : List Value) (h : fk_H), fk_ev d qX11_chosen 183 [a0, a1, a2, a3, .int x, a5, a6] st h = fk_ev d qX11_chosen 185 [a0, a1, a2, a3, .int x, a5, a6] (.int x :: st) h) ∧
  (∀ (d : Nat) (L : List Value) (x : Int32) (h : fk_H), fk_ev d qX11_chosen 185 L [.int x] h = some (some (.int x), h)) ∧
  (∀ (d : Nat) (a0 a1 a2 a3 a5 a6 : Value) (x : Int32) (st : List Value) (h : fk_H), fk_ev d qX11_chosen 186 [a0, a1, a2, a3, .int x, a5, a6] st h = fk_ev d qX11_chosen 188 [a0, a1, a2, a3, .int x, a5, a6] (.int x :: st) h) ∧
  (∀ (d : Nat) (L : List Value) (x : Int32) (st : List Value) (h : fk_H), fk_ev d qX11_chosen 188 L (.int x :: st) h = if ¬ x = nI 0 then fk_ev d qX11_chosen 194 L st h else fk_ev d qX11_chosen 191 L st h) ∧
  (∀ (d : Nat) (L st : List Value) (h : fk_H), fk_ev d qX11_chosen 191 L st h = fk_ev d qX11_chosen 193 L (.int ((-2 : Int32)) :: st) h) ∧
  (∀ (d : Nat) (L : List Value) (x : Int32) (h : fk_H), fk_ev d qX11_chosen 193 L [.int x] h = some (some (.int x), h)) ∧
  (∀ (d : Nat) (a0 a1 a2 a4 a5 a6 : Value) (x : Int32) (st : List Value) (h : fk_H), fk_ev d qX11_chosen 194 [a0, a1, a2, .int x, a4, a5, a6] st h = fk_ev d qX11_chosen 195 [a0, a1, a2, .int x, a4, a5, a6] (.int x :: st) h) ∧
  (∀ (d : Nat) (L st : List Value) (h : fk_H), fk_ev d qX11_chosen 195 L st h = fk_ev d qX11_chosen 196 L (.int (nI 1) :: st) h) ∧
  (∀ (d : Nat) (L : List Value) (x y : Int32) (st : List Value) (h : fk_H), fk_ev d qX11_chosen 196 L (.int y :: .int x :: st) h = if ¬ x = y then fk_ev d qX11_chosen 207 L st h else fk_ev d qX11_chosen 199 L st h) ∧
  (∀ (d : Nat) (a0 a1 a2 a3 a4 a6 : Value) (x : Int32) (st : List Value) (h : fk_H), fk_ev d qX11_chosen 199 [a0, a1, a2, a3, a4, .int x, a6] st h = fk_ev d qX11_chosen 201 [a0, a1, a2, a3, a4, .int x, a6] (.int x :: st) h) ∧
  (∀ (d : Nat) (L st : List Value) (h : fk_H), fk_ev d qX11_chosen 201 L st h = fk_ev d qX11_chosen 203 L (.int (nI 32) :: st) h) ∧
  (∀ (d : Nat) (L : List Value) (x y : Int32) (st : List Value) (h : fk_H), fk_ev d qX11_chosen 203 L (.int y :: .int x :: st) h = if y = 0 then none else fk_ev d qX11_chosen 204 L (.int (x / y) :: st) h) ∧
  (∀ (d : Nat) (L st : List Value) (h : fk_H), fk_ev d qX11_chosen 204 L st h = fk_ev d qX11_chosen 212 L st h) ∧
  (∀ (d : Nat) (a0 a1 a2 a3 a4 a6 : Value) (x : Int32) (st : List Value) (h : fk_H), fk_ev d qX11_chosen 207 [a0, a1, a2, a3, a4, .int x, a6] st h = fk_ev d qX11_chosen 209 [a0, a1, a2, a3, a4, .int x, a6] (.int x :: st) h) ∧
  (∀ (d : Nat) (L st : List Value) (h : fk_H), fk_ev d qX11_chosen 209 L st h = fk_ev d qX11_chosen 211 L (.int (nI 32) :: st) h) ∧
  (∀ (d : Nat) (L : List Value) (x y : Int32) (st : List Value) (h : fk_H), fk_ev d qX11_chosen 211 L (.int y :: .int x :: st) h = if y = 0 then none else fk_ev d qX11_chosen 212 L (.int (x - x / y * y) :: st) h) ∧
  (∀ (d : Nat) (L : List Value) (x : Int32) (h : fk_H), fk_ev d qX11_chosen 212 L [.int x] h = some (some (.int x), h)) := ⟨fun d a1 a2 a3 a4 a5 a6 x st h => fk_w_aloadn 0 [.ref x, a1, a2, a3, a4, a5, a6] dX11_chosen_0 rfl,
  fun d L st N y l => fk_g_getC rfl lf_11_58 (by decide) rfl dX11_chosen_1 fk_at_1,
  fun d a0 a2 a3 a4 a5 a6 x st h => fk_w_iloadn 1 [a0, .int x, a2, a3, a4, a5, a6] dX11_chosen_4 rfl,
  fun d L x0 N y l c hc => fk_g_call [.int x0] [] rfl lm_11_252 dX11_chosen_5 rfl ⟨rfl, by decide⟩ (by simp) hc,
  fun d L x st h => fk_r_if_eq dX11_chosen_8 (by decide),
  fun d a1 a2 a3 a4 a5 a6 x st h => fk_w_aloadn 0 [.ref x, a1, a2, a3, a4, a5, a6] dX11_chosen_11 rfl,
  fun d L st N y l => fk_g_getC rfl lf_11_58 (by decide) rfl dX11_chosen_12 fk_at_1,
  fun d a0 a1 a3 a4 a5 a6 x st h => fk_w_iloadn 2 [a0, a1, .int x, a3, a4, a5, a6] dX11_chosen_15 rfl,
  fun d L x0 N y l c hc => fk_g_call [.int x0] [] rfl lm_11_252 dX11_chosen_16 rfl ⟨rfl, by decide⟩ (by simp) hc,
  fun d L x st h => fk_r_if_eq dX11_chosen_19 (by decide),
  fun d a0 a2 a3 a4 a5 a6 x st h => fk_w_iloadn 1 [a0, .int x, a2, a3, a4, a5, a6] dX11_chosen_22 rfl,
  fun d a0 a1 a3 a4 a5 a6 x st h => fk_w_iloadn 2 [a0, a1, .int x, a3, a4, a5, a6] dX11_chosen_23 rfl,
  fun d L x y st h => fk_r_icmp_eq dX11_chosen_24 (by decide),
  fun d a0 a1 a2 a4 a5 a6 x st h => fk_w_iloadn 3 [a0, a1, a2, .int x, a4, a5, a6] dX11_chosen_27 rfl,
  fun d L st h => fk_w_iconst dX11_chosen_28 (by decide),
  fun d L x0 x1 h => fk_g_calls [.int x0, .int x1] [] rfl lm_11_110 dX11_chosen_29 rfl ⟨rfl, by decide⟩ (by simp),
  fun d L x st h => fk_r_if_ne dX11_chosen_32 (by decide),
  fun d L st h => fk_w_iconst dX11_chosen_35 (by decide),
  fun d L x h => fk_r_ret dX11_chosen_36 (Or.inl rfl),
  fun d a1 a2 a3 a4 a5 a6 x st h => fk_w_aloadn 0 [.ref x, a1, a2, a3, a4, a5, a6] dX11_chosen_37 rfl,
  fun d L st N y l => fk_g_getC rfl lf_11_58 (by decide) rfl dX11_chosen_38 fk_at_1,
  fun d L st N y l c hc => fk_g_getC rfl lf_11_139 (by decide) rfl dX11_chosen_41 hc,
  fun d a0 a2 a3 a4 a5 a6 x st h => fk_w_iloadn 1 [a0, .int x, a2, a3, a4, a5, a6] dX11_chosen_44 rfl,
  fun d L st N y l i hi => fk_h_aald dX11_chosen_45 fk_at_34 hi (by decide),
  fun d L st N y l c hc => fk_g_getI rfl lf_11_233 (by decide) dX11_chosen_46 hc,
  fun d a1 a2 a3 a4 a5 a6 x st h => fk_w_aloadn 0 [.ref x, a1, a2, a3, a4, a5, a6] dX11_chosen_49 rfl,
  fun d L st N y l => fk_g_getC rfl lf_11_58 (by decide) rfl dX11_chosen_50 fk_at_1,
  fun d L st N y l c hc => fk_g_getC rfl lf_11_139 (by decide) rfl dX11_chosen_53 hc,
  fun d a0 a1 a3 a4 a5 a6 x st h => fk_w_iloadn 2 [a0, a1, .int x, a3, a4, a5, a6] dX11_chosen_56 rfl,
  fun d L st N y l i hi => fk_h_aald dX11_chosen_57 fk_at_34 hi (by decide),
  fun d L st N y l c hc => fk_g_getI rfl lf_11_233 (by decide) dX11_chosen_58 hc,
  fun d L x y st h => fk_r_icmp_eq dX11_chosen_61 (by decide),
  fun d L st h => fk_w_iconst dX11_chosen_64 (by decide),
  fun d L x h => fk_r_ret dX11_chosen_65 (Or.inl rfl),
  fun d a1 a2 a3 a4 a5 a6 x st h => fk_w_aloadn 0 [.ref x, a1, a2, a3, a4, a5, a6] dX11_chosen_66 rfl,
  fun d L st N y l => fk_g_getC rfl lf_11_83 (by decide) rfl dX11_chosen_67 fk_at_1,
  fun d a1 a2 a3 a4 a5 a6 x st h => fk_w_aloadn 0 [.ref x, a1, a2, a3, a4, a5, a6] dX11_chosen_70 rfl,
  fun d L st N y l => fk_g_getC rfl lf_11_58 (by decide) rfl dX11_chosen_71 fk_at_1,
  fun d a1 a2 a3 a4 a5 a6 x st h => fk_w_aloadn 0 [.ref x, a1, a2, a3, a4, a5, a6] dX11_chosen_74 rfl,
  fun d L st N y l => fk_g_getM rfl lf_11_10 (by decide) dX11_chosen_75 fk_at_1,
  fun d L x0 x1 N y l  => fk_g_call [.ref x0, .ref x1] [] rfl lm_11_176 dX11_chosen_78 rfl ⟨rfl, by decide⟩ (by simp) fk_at_238,
  fun d a1 a2 a3 a4 a5 a6 x st h => fk_w_aloadn 0 [.ref x, a1, a2, a3, a4, a5, a6] dX11_chosen_81 rfl,
  fun d L st N y l => fk_g_getC rfl lf_11_83 (by decide) rfl dX11_chosen_82 fk_at_1,
  fun d a1 a2 a3 a4 a5 a6 x st h => fk_w_aloadn 0 [.ref x, a1, a2, a3, a4, a5, a6] dX11_chosen_85 rfl,
  fun d L st N y l => fk_g_getC rfl lf_11_58 (by decide) rfl dX11_chosen_86 fk_at_1,
  fun d L st N y l c hc => fk_g_getC rfl lf_11_139 (by decide) rfl dX11_chosen_89 hc,
  fun d a0 a2 a3 a4 a5 a6 x st h => fk_w_iloadn 1 [a0, .int x, a2, a3, a4, a5, a6] dX11_chosen_92 rfl,
  fun d L st N y l i hi => fk_h_aald dX11_chosen_93 fk_at_34 hi (by decide),
  fun d a1 a2 a3 a4 a5 a6 x st h => fk_w_aloadn 0 [.ref x, a1, a2, a3, a4, a5, a6] dX11_chosen_94 rfl,
  fun d L st N y l => fk_g_getC rfl lf_11_103 (by decide) rfl dX11_chosen_95 fk_at_1,
  fun d L x0 x1 N y l  => fk_g_call [.ref x0, .ref x1] [] rfl lm_11_303 dX11_chosen_98 rfl ⟨rfl, by decide⟩ (by simp) fk_at_238,
  fun d a1 a2 a3 a4 a5 a6 x st h => fk_w_aloadn 0 [.ref x, a1, a2, a3, a4, a5, a6] dX11_chosen_101 rfl,
  fun d L st N y l => fk_g_getC rfl lf_11_83 (by decide) rfl dX11_chosen_102 fk_at_1,
  fun d a1 a2 a3 a4 a5 a6 x st h => fk_w_aloadn 0 [.ref x, a1, a2, a3, a4, a5, a6] dX11_chosen_105 rfl,
  fun d L st N y l => fk_g_getC rfl lf_11_58 (by decide) rfl dX11_chosen_106 fk_at_1,
  fun d L st N y l c hc => fk_g_getC rfl lf_11_139 (by decide) rfl dX11_chosen_109 hc,
  fun d a0 a1 a3 a4 a5 a6 x st h => fk_w_iloadn 2 [a0, a1, .int x, a3, a4, a5, a6] dX11_chosen_112 rfl,
  fun d L st N y l i hi => fk_h_aald dX11_chosen_113 fk_at_34 hi (by decide),
  fun d a1 a2 a3 a4 a5 a6 x st h => fk_w_aloadn 0 [.ref x, a1, a2, a3, a4, a5, a6] dX11_chosen_114 rfl,
  fun d L st N y l => fk_g_getC rfl lf_11_107 (by decide) rfl dX11_chosen_115 fk_at_1,
  fun d L x0 x1 N y l  => fk_g_call [.ref x0, .ref x1] [] rfl lm_11_303 dX11_chosen_118 rfl ⟨rfl, by decide⟩ (by simp) fk_at_238,
  fun d L st h => fk_w_iconst dX11_chosen_121 (by decide),
  fun d a0 a1 a2 a3 a4 a5 a6 x st h => fk_w_istore 4 7 [] [a0, a1, a2, a3, a4, a5, a6] [a0, a1, a2, a3, .int x, a5, a6] dX11_chosen_122 rfl rfl (by decide) rfl,
  fun d L st h => fk_w_bipush dX11_chosen_124 (by decide),
  fun d a0 a1 a2 a3 a4 a5 a6 x st h => fk_w_istore 5 7 [] [a0, a1, a2, a3, a4, a5, a6] [a0, a1, a2, a3, a4, .int x, a6] dX11_chosen_126 rfl rfl (by decide) rfl,
  fun d L st h => fk_w_iconst dX11_chosen_128 (by decide),
  fun d a0 a1 a2 a3 a4 a5 a6 x st h => fk_w_istore 6 7 [] [a0, a1, a2, a3, a4, a5, a6] [a0, a1, a2, a3, a4, a5, .int x] dX11_chosen_129 rfl rfl (by decide) rfl,
  fun d L st h => fk_w_sipush dX11_chosen_133 (by decide),
  fun d L x y st h => fk_r_icmp_ge dX11_chosen_136 (by decide),
  fun d a1 a2 a3 a4 a5 a6 x st h => fk_w_aloadn 0 [.ref x, a1, a2, a3, a4, a5, a6] dX11_chosen_139 rfl,
  fun d a0 a1 a2 a3 a4 a5 x st h => fk_w_iload 6 [a0, a1, a2, a3, a4, a5, .int x] dX11_chosen_140 rfl,
  fun d L st h => fk_w_bipush dX11_chosen_142 (by decide),
  fun d L x y st h => fk_r_idiv dX11_chosen_144,
  fun d a0 a1 a2 a3 a4 a5 x st h => fk_w_iload 6 [a0, a1, a2, a3, a4, a5, .int x] dX11_chosen_145 rfl,
  fun d L st h => fk_w_bipush dX11_chosen_147 (by decide),
  fun d L x y st h => fk_r_irem dX11_chosen_149,
  fun d L x0 x1 N y l  => fk_g_call [.int x0, .int x1] [] rfl lm_11_307 dX11_chosen_150 rfl ⟨rfl, by decide⟩ (by simp) fk_at_1,
  fun d L x st h => fk_r_if_eq dX11_chosen_153 (by decide),
  fun d a0 a1 a2 a3 a5 a6 x st h => fk_w_iload 4 [a0, a1, a2, a3, .int x, a5, a6] dX11_chosen_156 rfl,
  fun d L x st h => fk_r_if_ne dX11_chosen_158 (by decide),
  fun d a0 a1 a2 a3 a4 a5 x st h => fk_w_iload 6 [a0, a1, a2, a3, a4, a5, .int x] dX11_chosen_161 rfl,
  fun d L st h => fk_r_goto dX11_chosen_163 (by decide),
  fun d a0 a1 a2 a3 a4 a6 x st h => fk_w_iload 5 [a0, a1, a2, a3, a4, .int x, a6] dX11_chosen_166 rfl,
  fun d a0 a1 a2 a3 a4 a5 a6 x st h => fk_w_istore 5 7 [] [a0, a1, a2, a3, a4, a5, a6] [a0, a1, a2, a3, a4, .int x, a6] dX11_chosen_168 rfl rfl (by decide) rfl,
  fun d a0 a1 a2 a3 a5 a6 x st h => fk_w_iinc 4 7 (1) [] [a0, a1, a2, a3, .int x, a5, a6] [a0, a1, a2, a3, .int (x + nI 1), a5, a6] dX11_chosen_170 rfl rfl rfl (by decide) rfl,
  fun d a0 a1 a2 a3 a4 a5 x st h => fk_w_iinc 6 7 (1) [] [a0, a1, a2, a3, a4, a5, .int x] [a0, a1, a2, a3, a4, a5, .int (x + nI 1)] dX11_chosen_173 rfl rfl rfl (by decide) rfl,
  fun d L st h => fk_r_goto dX11_chosen_176 (by decide),
  fun d a0 a1 a2 a4 a5 a6 x st h => fk_w_iloadn 3 [a0, a1, a2, .int x, a4, a5, a6] dX11_chosen_179 rfl,
  fun d L x st h => fk_r_if_ne dX11_chosen_180 (by decide),
  fun d a0 a1 a2 a3 a5 a6 x st h => fk_w_iload 4 [a0, a1, a2, a3, .int x, a5, a6] dX11_chosen_183 rfl,
  fun d L x h => fk_r_ret dX11_chosen_185 (Or.inl rfl),
  fun d a0 a1 a2 a3 a5 a6 x st h => fk_w_iload 4 [a0, a1, a2, a3, .int x, a5, a6] dX11_chosen_186 rfl,
  fun d L x st h => fk_r_if_ne dX11_chosen_188 (by decide),
  fun d L st h => fk_w_bipush dX11_chosen_191 (by decide),
  fun d L x h => fk_r_ret dX11_chosen_193 (Or.inl rfl),
  fun d a0 a1 a2 a4 a5 a6 x st h => fk_w_iloadn 3 [a0, a1, a2, .int x, a4, a5, a6] dX11_chosen_194 rfl,
  fun d L st h => fk_w_iconst dX11_chosen_195 (by decide),
  fun d L x y st h => fk_r_icmp_ne dX11_chosen_196 (by decide),
  fun d a0 a1 a2 a3 a4 a6 x st h => fk_w_iload 5 [a0, a1, a2, a3, a4, .int x, a6] dX11_chosen_199 rfl,
  fun d L st h => fk_w_bipush dX11_chosen_201 (by decide),
  fun d L x y st h => fk_r_idiv dX11_chosen_203,
  fun d L st h => fk_r_goto dX11_chosen_204 (by decide),
  fun d a0 a1 a2 a3 a4 a6 x st h => fk_w_iload 5 [a0, a1, a2, a3, a4, .int x, a6] dX11_chosen_207 rfl,
  fun d L st h => fk_w_bipush dX11_chosen_209 (by decide),
  fun d L x y st h => fk_r_irem dX11_chosen_211,
  fun d L x h => fk_r_ret dX11_chosen_212 (Or.inl rfl)⟩
theorem hX11_chosen_131 : ∀ (d : Nat) (a0 a1 a2 a3 a4 a5 : Value) (x : Int32) (st : List Value) (h : fk_H), fk_ev d qX11_chosen 131 [a0, a1, a2, a3, a4, a5, .int x] st h = fk_ev d qX11_chosen 133 [a0, a1, a2, a3, a4, a5, .int x] (.int x :: st) h := fun d a0 a1 a2 a3 a4 a5 x st h => fk_w_iload 6 [a0, a1, a2, a3, a4, a5, .int x] dX11_chosen_131 rfl
