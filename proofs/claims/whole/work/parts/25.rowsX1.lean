theorem dX4_advance_0 : decode cX4_advance 0 = .ok (.aload_n 0, 1) := by decide +kernel
theorem dX4_advance_1 : decode cX4_advance 1 = .ok (.aload_n 0, 1) := by decide +kernel
theorem dX4_advance_2 : decode cX4_advance 2 = .ok (.getfield 19, 3) := by decide +kernel
theorem dX4_advance_5 : decode cX4_advance 5 = .ok (.iconst 1, 1) := by decide +kernel
theorem dX4_advance_6 : decode cX4_advance 6 = .ok (.iadd, 1) := by decide +kernel
theorem dX4_advance_7 : decode cX4_advance 7 = .ok (.aload_n 0, 1) := by decide +kernel
theorem dX4_advance_8 : decode cX4_advance 8 = .ok (.getfield 15, 3) := by decide +kernel
theorem dX4_advance_11 : decode cX4_advance 11 = .ok (.invokestatic 38, 3) := by decide +kernel
theorem dX4_advance_14 : decode cX4_advance 14 = .ok (.putfield 19, 3) := by decide +kernel
theorem dX4_advance_17 : decode cX4_advance 17 = .ok (.aload_n 0, 1) := by decide +kernel
theorem dX4_advance_18 : decode cX4_advance 18 = .ok (.aload_n 0, 1) := by decide +kernel
theorem dX4_advance_19 : decode cX4_advance 19 = .ok (.getfield 9, 3) := by decide +kernel
theorem dX4_advance_22 : decode cX4_advance 22 = .ok (.aload_n 0, 1) := by decide +kernel
theorem dX4_advance_23 : decode cX4_advance 23 = .ok (.getfield 19, 3) := by decide +kernel
theorem dX4_advance_26 : decode cX4_advance 26 = .ok (.iaload, 1) := by decide +kernel
theorem dX4_advance_27 : decode cX4_advance 27 = .ok (.putfield 22, 3) := by decide +kernel
theorem dX4_advance_30 : decode cX4_advance 30 = .ok (.return_, 1) := by decide +kernel
theorem rX4_advance : (∀ (d : Nat) (x : Nat) (st : List Value) (h : fk_H), fk_ev d qX4_advance 0 [.ref x] st h = fk_ev d qX4_advance 1 [.ref x] (.ref x :: st) h) ∧
  (∀ (d : Nat) (x : Nat) (st : List Value) (h : fk_H), fk_ev d qX4_advance 1 [.ref x] st h = fk_ev d qX4_advance 2 [.ref x] (.ref x :: st) h) ∧
  (∀ (d : Nat) (L st : List Value) (N : Nat) (y : Nat → Nat → Int32) (l : Nat → Nat → Int64), fk_ev d qX4_advance 2 L (.ref 28 :: st) (fk_E N y l) = fk_ev d qX4_advance 5 L (.int (y 28 4) :: st) (fk_E N y l)) ∧
  (∀ (d : Nat) (L st : List Value) (h : fk_H), fk_ev d qX4_advance 5 L st h = fk_ev d qX4_advance 6 L (.int (nI 1) :: st) h) ∧
  (∀ (d : Nat) (L : List Value) (x y : Int32) (st : List Value) (h : fk_H), fk_ev d qX4_advance 6 L (.int y :: .int x :: st) h = fk_ev d qX4_advance 7 L (.int (x + y) :: st) h) ∧
  (∀ (d : Nat) (x : Nat) (st : List Value) (h : fk_H), fk_ev d qX4_advance 7 [.ref x] st h = fk_ev d qX4_advance 8 [.ref x] (.ref x :: st) h) ∧
  (∀ (d : Nat) (L st : List Value) (N : Nat) (y : Nat → Nat → Int32) (l : Nat → Nat → Int64), fk_ev d qX4_advance 8 L (.ref 28 :: st) (fk_E N y l) = fk_ev d qX4_advance 11 L (.int (y 28 3) :: st) (fk_E N y l)) ∧
  (∀ (d : Nat) (L : List Value) (x y : Int32) (w0 : Value) (h : fk_H), fk_ev d qX4_advance 11 L (.int y :: .int x :: [w0]) h = fk_ev d qX4_advance 14 L (.int (if y < x then y else x) :: [w0]) h) ∧
  (∀ (d : Nat) (L st : List Value) (N : Nat) (y : Nat → Nat → Int32) (l : Nat → Nat → Int64) (v : Int32), fk_ev d qX4_advance 14 L (.int v :: .ref 28 :: st) (fk_E N y l) = fk_ev d qX4_advance 17 L st (fk_E N (fk_u y 28 4 v) l)) ∧
  (∀ (d : Nat) (x : Nat) (st : List Value) (h : fk_H), fk_ev d qX4_advance 17 [.ref x] st h = fk_ev d qX4_advance 18 [.ref x] (.ref x :: st) h) ∧
  (∀ (d : Nat) (x : Nat) (st : List Value) (h : fk_H), fk_ev d qX4_advance 18 [.ref x] st h = fk_ev d qX4_advance 19 [.ref x] (.ref x :: st) h) ∧
  (∀ (d : Nat) (L st : List Value) (N : Nat) (y : Nat → Nat → Int32) (l : Nat → Nat → Int64), fk_ev d qX4_advance 19 L (.ref 28 :: st) (fk_E N y l) = fk_ev d qX4_advance 22 L (.ref 29 :: st) (fk_E N y l)) ∧
  (∀ (d : Nat) (x : Nat) (st : List Value) (h : fk_H), fk_ev d qX4_advance 22 [.ref x] st h = fk_ev d qX4_advance 23 [.ref x] (.ref x :: st) h) ∧
  (∀ (d : Nat) (L st : List Value) (N : Nat) (y : Nat → Nat → Int32) (l : Nat → Nat → Int64), fk_ev d qX4_advance 23 L (.ref 28 :: st) (fk_E N y l) = fk_ev d qX4_advance 26 L (.int (y 28 4) :: st) (fk_E N y l)) ∧
  (∀ (d : Nat) (L st : List Value) (N : Nat) (y : Nat → Nat → Int32) (l : Nat → Nat → Int64) (i : Nat), i < 241 → fk_ev d qX4_advance 26 L (.int (nI i) :: .ref 29 :: st) (fk_E N y l) = fk_ev d qX4_advance 27 L (.int (y 29 i) :: st) (fk_E N y l)) ∧
  (∀ (d : Nat) (L st : List Value) (N : Nat) (y : Nat → Nat → Int32) (l : Nat → Nat → Int64) (v : Int32), fk_ev d qX4_advance 27 L (.int v :: .ref 28 :: st) (fk_E N y l) = fk_ev d qX4_advance 30 L st (fk_E N (fk_u y 28 5 v) l)) ∧
  (∀ (d : Nat) (L : List Value) (h : fk_H), fk_ev d qX4_advance 30 L [] h = some (none, h)) := ⟨fun d  x st h => fk_w_aloadn 0 [.ref x] dX4_advance_0 rfl,
  fun d  x st h => fk_w_aloadn 0 [.ref x] dX4_advance_1 rfl,
  fun d L st N y l => fk_g_getI rfl lf_4_19 (by decide) dX4_advance_2 fk_at_28,
  fun d L st h => fk_w_iconst dX4_advance_5 (by decide),
  fun d L x y st h => fk_r_iadd dX4_advance_6,
  fun d  x st h => fk_w_aloadn 0 [.ref x] dX4_advance_7 rfl,
  fun d L st N y l => fk_g_getI rfl lf_4_15 (by decide) dX4_advance_8 fk_at_28,
  fun d L x y w0 h => fk_p_min dX4_advance_11 ln_4_38 lp_4_38 (by simp),
  fun d L st N y l v => fk_g_putI rfl lf_4_19 (by decide) dX4_advance_14 rfl fk_at_28,
  fun d  x st h => fk_w_aloadn 0 [.ref x] dX4_advance_17 rfl,
  fun d  x st h => fk_w_aloadn 0 [.ref x] dX4_advance_18 rfl,
  fun d L st N y l => fk_g_getC rfl lf_4_9 (by decide) rfl dX4_advance_19 fk_at_28,
  fun d  x st h => fk_w_aloadn 0 [.ref x] dX4_advance_22 rfl,
  fun d L st N y l => fk_g_getI rfl lf_4_19 (by decide) dX4_advance_23 fk_at_28,
  fun d L st N y l i hi => fk_g_iald fk_at_29 fk_ln_29 (by decide) dX4_advance_26 hi,
  fun d L st N y l v => fk_g_putI rfl lf_4_22 (by decide) dX4_advance_27 rfl fk_at_28,
  fun d L h => fk_r_vret dX4_advance_30 rfl⟩
theorem dX4_isOneOf_0 : decode cX4_isOneOf 0 = .ok (.aload_n 0, 1) := by decide +kernel
theorem dX4_isOneOf_1 : decode cX4_isOneOf 1 = .ok (.getfield 22, 3) := by decide +kernel
theorem dX4_isOneOf_4 : decode cX4_isOneOf 4 = .ok (.ifCond .lt 19, 3) := by decide +kernel
theorem dX4_isOneOf_7 : decode cX4_isOneOf 7 = .ok (.aload_n 1, 1) := by decide +kernel
theorem dX4_isOneOf_8 : decode cX4_isOneOf 8 = .ok (.aload_n 0, 1) := by decide +kernel
theorem dX4_isOneOf_9 : decode cX4_isOneOf 9 = .ok (.getfield 22, 3) := by decide +kernel
theorem dX4_isOneOf_12 : decode cX4_isOneOf 12 = .ok (.i2c, 1) := by decide +kernel
theorem dX4_isOneOf_13 : decode cX4_isOneOf 13 = .ok (.invokevirtual 63, 3) := by decide +kernel
theorem dX4_isOneOf_16 : decode cX4_isOneOf 16 = .ok (.ifCond .lt 7, 3) := by decide +kernel
theorem dX4_isOneOf_19 : decode cX4_isOneOf 19 = .ok (.iconst 1, 1) := by decide +kernel
theorem dX4_isOneOf_20 : decode cX4_isOneOf 20 = .ok (.goto 4, 3) := by decide +kernel
theorem dX4_isOneOf_23 : decode cX4_isOneOf 23 = .ok (.iconst 0, 1) := by decide +kernel
theorem dX4_isOneOf_24 : decode cX4_isOneOf 24 = .ok (.ireturn, 1) := by decide +kernel
theorem rX4_isOneOf : (∀ (d : Nat) (a1 : Value) (x : Nat) (st : List Value) (h : fk_H), fk_ev d qX4_isOneOf 0 [.ref x, a1] st h = fk_ev d qX4_isOneOf 1 [.ref x, a1] (.ref x :: st) h) ∧
  (∀ (d : Nat) (L st : List Value) (N : Nat) (y : Nat → Nat → Int32) (l : Nat → Nat → Int64), fk_ev d qX4_isOneOf 1 L (.ref 28 :: st) (fk_E N y l) = fk_ev d qX4_isOneOf 4 L (.int (y 28 5) :: st) (fk_E N y l)) ∧
  (∀ (d : Nat) (L : List Value) (x : Int32) (st : List Value) (h : fk_H), fk_ev d qX4_isOneOf 4 L (.int x :: st) h = if x < nI 0 then fk_ev d qX4_isOneOf 23 L st h else fk_ev d qX4_isOneOf 7 L st h) ∧
  (∀ (d : Nat) (a0 : Value) (x : Nat) (st : List Value) (h : fk_H), fk_ev d qX4_isOneOf 7 [a0, .ref x] st h = fk_ev d qX4_isOneOf 8 [a0, .ref x] (.ref x :: st) h) ∧
  (∀ (d : Nat) (a1 : Value) (x : Nat) (st : List Value) (h : fk_H), fk_ev d qX4_isOneOf 8 [.ref x, a1] st h = fk_ev d qX4_isOneOf 9 [.ref x, a1] (.ref x :: st) h) ∧
  (∀ (d : Nat) (L st : List Value) (N : Nat) (y : Nat → Nat → Int32) (l : Nat → Nat → Int64), fk_ev d qX4_isOneOf 9 L (.ref 28 :: st) (fk_E N y l) = fk_ev d qX4_isOneOf 12 L (.int (y 28 5) :: st) (fk_E N y l)) ∧
  (∀ (d : Nat) (L : List Value) (x : Int32) (st : List Value) (h : fk_H), fk_ev d qX4_isOneOf 12 L (.int x :: st) h = fk_ev d qX4_isOneOf 13 L (.int ((x.toUInt32 % 65536).toInt32) :: st) h) ∧
  (∀ (d : Nat) (L : List Value) (x : Int32) (st : List Value) (h : fk_H), fk_ev d qX4_isOneOf 16 L (.int x :: st) h = if x < nI 0 then fk_ev d qX4_isOneOf 23 L st h else fk_ev d qX4_isOneOf 19 L st h) ∧
  (∀ (d : Nat) (L st : List Value) (h : fk_H), fk_ev d qX4_isOneOf 19 L st h = fk_ev d qX4_isOneOf 20 L (.int (nI 1) :: st) h) ∧
  (∀ (d : Nat) (L st : List Value) (h : fk_H), fk_ev d qX4_isOneOf 20 L st h = fk_ev d qX4_isOneOf 24 L st h) ∧
  (∀ (d : Nat) (L st : List Value) (h : fk_H), fk_ev d qX4_isOneOf 23 L st h = fk_ev d qX4_isOneOf 24 L (.int (nI 0) :: st) h) ∧
  (∀ (d : Nat) (L : List Value) (h : fk_H), fk_ev d qX4_isOneOf 24 L [.int (nI 0)] h = some (some (.int (nI 0)), h)) ∧
  (∀ (d : Nat) (L : List Value) (h : fk_H), fk_ev d qX4_isOneOf 24 L [.int (nI 1)] h = some (some (.int (nI 1)), h)) ∧
  (∀ (d : Nat) (L : List Value) (p : Prop) [Decidable p] (h : fk_H), fk_ev d qX4_isOneOf 24 L [.int (fk_b p)] h = some (some (.int (fk_b p)), h)) ∧
  (∀ (d : Nat) (L : List Value) (x : Int32) (h : fk_H), (x = nI 0 ∨ x = nI 1) → fk_ev d qX4_isOneOf 24 L [.int x] h = some (some (.int x), h)) := ⟨fun d a1 x st h => fk_w_aloadn 0 [.ref x, a1] dX4_isOneOf_0 rfl,
  fun d L st N y l => fk_g_getI rfl lf_4_22 (by decide) dX4_isOneOf_1 fk_at_28,
  fun d L x st h => fk_r_if_lt dX4_isOneOf_4 (by decide),
  fun d a0 x st h => fk_w_aloadn 1 [a0, .ref x] dX4_isOneOf_7 rfl,
  fun d a1 x st h => fk_w_aloadn 0 [.ref x, a1] dX4_isOneOf_8 rfl,
  fun d L st N y l => fk_g_getI rfl lf_4_22 (by decide) dX4_isOneOf_9 fk_at_28,
  fun d L x st h => fk_r_i2c dX4_isOneOf_12,
  fun d L x st h => fk_r_if_lt dX4_isOneOf_16 (by decide),
  fun d L st h => fk_w_iconst dX4_isOneOf_19 (by decide),
  fun d L st h => fk_r_goto dX4_isOneOf_20 (by decide),
  fun d L st h => fk_w_iconst dX4_isOneOf_23 (by decide),
  fun d L h => fk_r_ret dX4_isOneOf_24 (Or.inr (Or.inl ⟨rfl, by decide⟩)),
  fun d L h => fk_r_ret dX4_isOneOf_24 (Or.inr (Or.inl ⟨rfl, by decide⟩)),
  fun d L p _ h => fk_r_ret dX4_isOneOf_24 (Or.inr (Or.inl ⟨rfl, fk_b_01⟩)),
  fun d L x h hx => fk_r_ret dX4_isOneOf_24 (Or.inr (Or.inl ⟨rfl, hx⟩))⟩
theorem dX4_sign_0 : decode cX4_sign 0 = .ok (.aload_n 0, 1) := by decide +kernel
theorem dX4_sign_1 : decode cX4_sign 1 = .ok (.getfield 22, 3) := by decide +kernel
theorem dX4_sign_4 : decode cX4_sign 4 = .ok (.iload_n 1, 1) := by decide +kernel
theorem dX4_sign_5 : decode cX4_sign 5 = .ok (.if_icmp .eq 12, 3) := by decide +kernel
theorem dX4_sign_8 : decode cX4_sign 8 = .ok (.iconst 1, 1) := by decide +kernel
theorem dX4_sign_9 : decode cX4_sign 9 = .ok (.aload_n 0, 1) := by decide +kernel
theorem dX4_sign_10 : decode cX4_sign 10 = .ok (.getfield 19, 3) := by decide +kernel
theorem dX4_sign_13 : decode cX4_sign 13 = .ok (.invokestatic 60, 3) := by decide +kernel
theorem dX4_sign_16 : decode cX4_sign 16 = .ok (.ireturn, 1) := by decide +kernel
theorem dX4_sign_17 : decode cX4_sign 17 = .ok (.aload_n 0, 1) := by decide +kernel
theorem dX4_sign_18 : decode cX4_sign 18 = .ok (.invokevirtual 68, 3) := by decide +kernel
theorem dX4_sign_21 : decode cX4_sign 21 = .ok (.iconst 0, 1) := by decide +kernel
theorem dX4_sign_22 : decode cX4_sign 22 = .ok (.ireturn, 1) := by decide +kernel
theorem rX4_sign : (∀ (d : Nat) (a1 : Value) (x : Nat) (st : List Value) (h : fk_H), fk_ev d qX4_sign 0 [.ref x, a1] st h = fk_ev d qX4_sign 1 [.ref x, a1] (.ref x :: st) h) ∧
  (∀ (d : Nat) (L st : List Value) (N : Nat) (y : Nat → Nat → Int32) (l : Nat → Nat → Int64), fk_ev d qX4_sign 1 L (.ref 28 :: st) (fk_E N y l) = fk_ev d qX4_sign 4 L (.int (y 28 5) :: st) (fk_E N y l)) ∧
  (∀ (d : Nat) (a0 : Value) (x : Int32) (st : List Value) (h : fk_H), fk_ev d qX4_sign 4 [a0, .int x] st h = fk_ev d qX4_sign 5 [a0, .int x] (.int x :: st) h) ∧
  (∀ (d : Nat) (L : List Value) (x y : Int32) (st : List Value) (h : fk_H), fk_ev d qX4_sign 5 L (.int y :: .int x :: st) h = if x = y then fk_ev d qX4_sign 17 L st h else fk_ev d qX4_sign 8 L st h) ∧
  (∀ (d : Nat) (L st : List Value) (h : fk_H), fk_ev d qX4_sign 8 L st h = fk_ev d qX4_sign 9 L (.int (nI 1) :: st) h) ∧
  (∀ (d : Nat) (a1 : Value) (x : Nat) (st : List Value) (h : fk_H), fk_ev d qX4_sign 9 [.ref x, a1] st h = fk_ev d qX4_sign 10 [.ref x, a1] (.ref x :: st) h) ∧
  (∀ (d : Nat) (L st : List Value) (N : Nat) (y : Nat → Nat → Int32) (l : Nat → Nat → Int64), fk_ev d qX4_sign 10 L (.ref 28 :: st) (fk_E N y l) = fk_ev d qX4_sign 13 L (.int (y 28 4) :: st) (fk_E N y l)) ∧
  (∀ (d : Nat) (L : List Value) (x0 : Int32) (x1 : Int32)  (h : fk_H), fk_ev (d + 1) qX4_sign 13 L (.int x1 :: .int x0 :: []) h = (fk_ev d qX11_faultAt 0 [.int x0, .int x1] [] h).bind fun o => fk_ev (d + 1) qX4_sign 16 L (o.1.toList ++ []) o.2) ∧
  (∀ (d : Nat) (L : List Value) (x : Int32) (h : fk_H), fk_ev d qX4_sign 16 L [.int x] h = some (some (.int x), h)) ∧
  (∀ (d : Nat) (a1 : Value) (x : Nat) (st : List Value) (h : fk_H), fk_ev d qX4_sign 17 [.ref x, a1] st h = fk_ev d qX4_sign 18 [.ref x, a1] (.ref x :: st) h) ∧
  (∀ (d : Nat) (L : List Value)   (N : Nat) (y : Nat → Nat → Int32) (l : Nat → Nat → Int64), fk_ev (d + 1) qX4_sign 18 L (.ref 28 :: []) (fk_E N y l) = (fk_ev d qX4_advance 0 [.ref 28] [] (fk_E N y l)).bind fun o => fk_ev (d + 1) qX4_sign 21 L (o.1.toList ++ []) o.2) ∧
  (∀ (d : Nat) (L st : List Value) (h : fk_H), fk_ev d qX4_sign 21 L st h = fk_ev d qX4_sign 22 L (.int (nI 0) :: st) h) ∧
  (∀ (d : Nat) (L : List Value) (x : Int32) (h : fk_H), fk_ev d qX4_sign 22 L [.int x] h = some (some (.int x), h)) := ⟨fun d a1 x st h => fk_w_aloadn 0 [.ref x, a1] dX4_sign_0 rfl,
  fun d L st N y l => fk_g_getI rfl lf_4_22 (by decide) dX4_sign_1 fk_at_28,
  fun d a0 x st h => fk_w_iloadn 1 [a0, .int x] dX4_sign_4 rfl,
  fun d L x y st h => fk_r_icmp_eq dX4_sign_5 (by decide),
  fun d L st h => fk_w_iconst dX4_sign_8 (by decide),
  fun d a1 x st h => fk_w_aloadn 0 [.ref x, a1] dX4_sign_9 rfl,
  fun d L st N y l => fk_g_getI rfl lf_4_19 (by decide) dX4_sign_10 fk_at_28,
  fun d L x0 x1 h => fk_g_calls [.int x0, .int x1] [] rfl lm_4_60 dX4_sign_13 rfl ⟨rfl, by decide⟩ (by simp),
  fun d L x h => fk_r_ret dX4_sign_16 (Or.inl rfl),
  fun d a1 x st h => fk_w_aloadn 0 [.ref x, a1] dX4_sign_17 rfl,
  fun d L  N y l  => fk_g_call [] [] rfl lm_4_68 dX4_sign_18 rfl ⟨rfl, by decide⟩ (by simp) fk_at_28,
  fun d L st h => fk_w_iconst dX4_sign_21 (by decide),
  fun d L x h => fk_r_ret dX4_sign_22 (Or.inl rfl)⟩
theorem dX4_clause_0 : decode cX4_clause 0 = .ok (.aload_n 0, 1) := by decide +kernel
theorem dX4_clause_1 : decode cX4_clause 1 = .ok (.ldc 71, 2) := by decide +kernel
theorem dX4_clause_3 : decode cX4_clause 3 = .ok (.invokevirtual 73, 3) := by decide +kernel
theorem dX4_clause_6 : decode cX4_clause 6 = .ok (.ifCond .ne 12, 3) := by decide +kernel
theorem dX4_clause_9 : decode cX4_clause 9 = .ok (.iconst 1, 1) := by decide +kernel
theorem dX4_clause_10 : decode cX4_clause 10 = .ok (.aload_n 0, 1) := by decide +kernel
theorem dX4_clause_11 : decode cX4_clause 11 = .ok (.getfield 19, 3) := by decide +kernel
theorem dX4_clause_14 : decode cX4_clause 14 = .ok (.invokestatic 60, 3) := by decide +kernel
theorem dX4_clause_17 : decode cX4_clause 17 = .ok (.ireturn, 1) := by decide +kernel
theorem dX4_clause_18 : decode cX4_clause 18 = .ok (.aload_n 0, 1) := by decide +kernel
theorem dX4_clause_19 : decode cX4_clause 19 = .ok (.getfield 29, 3) := by decide +kernel
theorem dX4_clause_22 : decode cX4_clause 22 = .ok (.getfield 77, 3) := by decide +kernel
theorem dX4_clause_25 : decode cX4_clause 25 = .ok (.bipush 16, 2) := by decide +kernel
theorem dX4_clause_27 : decode cX4_clause 27 = .ok (.if_icmp .lt 12, 3) := by decide +kernel
theorem dX4_clause_30 : decode cX4_clause 30 = .ok (.iconst 4, 1) := by decide +kernel
theorem dX4_clause_31 : decode cX4_clause 31 = .ok (.aload_n 0, 1) := by decide +kernel
theorem dX4_clause_32 : decode cX4_clause 32 = .ok (.getfield 19, 3) := by decide +kernel
theorem dX4_clause_35 : decode cX4_clause 35 = .ok (.invokestatic 60, 3) := by decide +kernel
theorem dX4_clause_38 : decode cX4_clause 38 = .ok (.ireturn, 1) := by decide +kernel
theorem dX4_clause_39 : decode cX4_clause 39 = .ok (.aload_n 0, 1) := by decide +kernel
theorem dX4_clause_40 : decode cX4_clause 40 = .ok (.getfield 29, 3) := by decide +kernel
theorem dX4_clause_43 : decode cX4_clause 43 = .ok (.getfield 77, 3) := by decide +kernel
theorem dX4_clause_46 : decode cX4_clause 46 = .ok (.istore_n 1, 1) := by decide +kernel
theorem dX4_clause_47 : decode cX4_clause 47 = .ok (.aload_n 0, 1) := by decide +kernel
theorem dX4_clause_48 : decode cX4_clause 48 = .ok (.getfield 29, 3) := by decide +kernel
theorem dX4_clause_51 : decode cX4_clause 51 = .ok (.getfield 80, 3) := by decide +kernel
theorem dX4_clause_54 : decode cX4_clause 54 = .ok (.iload_n 1, 1) := by decide +kernel
theorem dX4_clause_55 : decode cX4_clause 55 = .ok (.aload_n 0, 1) := by decide +kernel
theorem dX4_clause_56 : decode cX4_clause 56 = .ok (.getfield 22, 3) := by decide +kernel
theorem dX4_clause_59 : decode cX4_clause 59 = .ok (.iastore, 1) := by decide +kernel
theorem dX4_clause_60 : decode cX4_clause 60 = .ok (.aload_n 0, 1) := by decide +kernel
theorem dX4_clause_61 : decode cX4_clause 61 = .ok (.getfield 29, 3) := by decide +kernel
theorem dX4_clause_64 : decode cX4_clause 64 = .ok (.getfield 83, 3) := by decide +kernel
theorem dX4_clause_67 : decode cX4_clause 67 = .ok (.iload_n 1, 1) := by decide +kernel
theorem dX4_clause_68 : decode cX4_clause 68 = .ok (.aload_n 0, 1) := by decide +kernel
theorem dX4_clause_69 : decode cX4_clause 69 = .ok (.getfield 29, 3) := by decide +kernel
theorem dX4_clause_72 : decode cX4_clause 72 = .ok (.getfield 86, 3) := by decide +kernel
theorem dX4_clause_75 : decode cX4_clause 75 = .ok (.iastore, 1) := by decide +kernel
theorem dX4_clause_76 : decode cX4_clause 76 = .ok (.aload_n 0, 1) := by decide +kernel
theorem dX4_clause_77 : decode cX4_clause 77 = .ok (.invokevirtual 68, 3) := by decide +kernel
theorem dX4_clause_80 : decode cX4_clause 80 = .ok (.iconst 0, 1) := by decide +kernel
theorem dX4_clause_81 : decode cX4_clause 81 = .ok (.istore_n 2, 1) := by decide +kernel
theorem dX4_clause_82 : decode cX4_clause 82 = .ok (.aload_n 0, 1) := by decide +kernel
theorem dX4_clause_83 : decode cX4_clause 83 = .ok (.getfield 29, 3) := by decide +kernel
theorem dX4_clause_86 : decode cX4_clause 86 = .ok (.getfield 80, 3) := by decide +kernel
theorem dX4_clause_89 : decode cX4_clause 89 = .ok (.iload_n 1, 1) := by decide +kernel
theorem dX4_clause_90 : decode cX4_clause 90 = .ok (.iaload, 1) := by decide +kernel
theorem dX4_clause_91 : decode cX4_clause 91 = .ok (.bipush 101, 2) := by decide +kernel
theorem dX4_clause_93 : decode cX4_clause 93 = .ok (.if_icmp .ne 15, 3) := by decide +kernel
theorem dX4_clause_96 : decode cX4_clause 96 = .ok (.aload_n 0, 1) := by decide +kernel
theorem dX4_clause_97 : decode cX4_clause 97 = .ok (.getfield 29, 3) := by decide +kernel
theorem dX4_clause_100 : decode cX4_clause 100 = .ok (.iconst 0, 1) := by decide +kernel
theorem dX4_clause_101 : decode cX4_clause 101 = .ok (.iconst 1, 1) := by decide +kernel
theorem dX4_clause_102 : decode cX4_clause 102 = .ok (.invokevirtual 89, 3) := by decide +kernel
theorem dX4_clause_105 : decode cX4_clause 105 = .ok (.goto 9, 3) := by decide +kernel
theorem dX4_clause_108 : decode cX4_clause 108 = .ok (.aload_n 0, 1) := by decide +kernel
theorem dX4_clause_109 : decode cX4_clause 109 = .ok (.iconst 0, 1) := by decide +kernel
theorem dX4_clause_110 : decode cX4_clause 110 = .ok (.invokevirtual 93, 3) := by decide +kernel
theorem dX4_clause_113 : decode cX4_clause 113 = .ok (.istore_n 2, 1) := by decide +kernel
theorem dX4_clause_114 : decode cX4_clause 114 = .ok (.iload_n 2, 1) := by decide +kernel
theorem dX4_clause_115 : decode cX4_clause 115 = .ok (.ifCond .eq 7, 3) := by decide +kernel
theorem dX4_clause_118 : decode cX4_clause 118 = .ok (.iload_n 2, 1) := by decide +kernel
theorem dX4_clause_119 : decode cX4_clause 119 = .ok (.goto 9, 3) := by decide +kernel
theorem dX4_clause_122 : decode cX4_clause 122 = .ok (.aload_n 0, 1) := by decide +kernel
theorem dX4_clause_123 : decode cX4_clause 123 = .ok (.bipush 40, 2) := by decide +kernel
theorem dX4_clause_125 : decode cX4_clause 125 = .ok (.invokevirtual 57, 3) := by decide +kernel
theorem dX4_clause_128 : decode cX4_clause 128 = .ok (.istore_n 2, 1) := by decide +kernel
theorem dX4_clause_129 : decode cX4_clause 129 = .ok (.aload_n 0, 1) := by decide +kernel
theorem dX4_clause_130 : decode cX4_clause 130 = .ok (.getfield 29, 3) := by decide +kernel
theorem dX4_clause_133 : decode cX4_clause 133 = .ok (.getfield 96, 3) := by decide +kernel
theorem dX4_clause_136 : decode cX4_clause 136 = .ok (.iload_n 1, 1) := by decide +kernel
theorem dX4_clause_137 : decode cX4_clause 137 = .ok (.aload_n 0, 1) := by decide +kernel
theorem dX4_clause_138 : decode cX4_clause 138 = .ok (.getfield 29, 3) := by decide +kernel
theorem dX4_clause_141 : decode cX4_clause 141 = .ok (.getfield 86, 3) := by decide +kernel
theorem dX4_clause_144 : decode cX4_clause 144 = .ok (.iastore, 1) := by decide +kernel
theorem dX4_clause_145 : decode cX4_clause 145 = .ok (.iload_n 2, 1) := by decide +kernel
theorem dX4_clause_146 : decode cX4_clause 146 = .ok (.ifCond .eq 7, 3) := by decide +kernel
theorem dX4_clause_149 : decode cX4_clause 149 = .ok (.iload_n 2, 1) := by decide +kernel
theorem dX4_clause_150 : decode cX4_clause 150 = .ok (.goto 8, 3) := by decide +kernel
theorem dX4_clause_153 : decode cX4_clause 153 = .ok (.aload_n 0, 1) := by decide +kernel
theorem dX4_clause_154 : decode cX4_clause 154 = .ok (.iconst 1, 1) := by decide +kernel
theorem dX4_clause_155 : decode cX4_clause 155 = .ok (.invokevirtual 99, 3) := by decide +kernel
theorem dX4_clause_158 : decode cX4_clause 158 = .ok (.istore_n 2, 1) := by decide +kernel
theorem dX4_clause_159 : decode cX4_clause 159 = .ok (.aload_n 0, 1) := by decide +kernel
theorem dX4_clause_160 : decode cX4_clause 160 = .ok (.getfield 29, 3) := by decide +kernel
theorem dX4_clause_163 : decode cX4_clause 163 = .ok (.getfield 102, 3) := by decide +kernel
theorem dX4_clause_166 : decode cX4_clause 166 = .ok (.iload_n 1, 1) := by decide +kernel
theorem dX4_clause_167 : decode cX4_clause 167 = .ok (.aload_n 0, 1) := by decide +kernel
theorem dX4_clause_168 : decode cX4_clause 168 = .ok (.getfield 29, 3) := by decide +kernel
theorem dX4_clause_171 : decode cX4_clause 171 = .ok (.getfield 86, 3) := by decide +kernel
theorem dX4_clause_174 : decode cX4_clause 174 = .ok (.iastore, 1) := by decide +kernel
theorem dX4_clause_175 : decode cX4_clause 175 = .ok (.aload_n 0, 1) := by decide +kernel
theorem dX4_clause_176 : decode cX4_clause 176 = .ok (.getfield 29, 3) := by decide +kernel
theorem dX4_clause_179 : decode cX4_clause 179 = .ok (.dup, 1) := by decide +kernel
theorem dX4_clause_180 : decode cX4_clause 180 = .ok (.getfield 77, 3) := by decide +kernel
theorem dX4_clause_183 : decode cX4_clause 183 = .ok (.iconst 1, 1) := by decide +kernel
theorem dX4_clause_184 : decode cX4_clause 184 = .ok (.iadd, 1) := by decide +kernel
theorem dX4_clause_185 : decode cX4_clause 185 = .ok (.putfield 77, 3) := by decide +kernel
theorem dX4_clause_188 : decode cX4_clause 188 = .ok (.iload_n 2, 1) := by decide +kernel
theorem dX4_clause_189 : decode cX4_clause 189 = .ok (.ifCond .eq 7, 3) := by decide +kernel
theorem dX4_clause_192 : decode cX4_clause 192 = .ok (.iload_n 2, 1) := by decide +kernel
theorem dX4_clause_193 : decode cX4_clause 193 = .ok (.goto 9, 3) := by decide +kernel
theorem dX4_clause_196 : decode cX4_clause 196 = .ok (.aload_n 0, 1) := by decide +kernel
theorem dX4_clause_197 : decode cX4_clause 197 = .ok (.bipush 41, 2) := by decide +kernel
theorem dX4_clause_199 : decode cX4_clause 199 = .ok (.invokevirtual 57, 3) := by decide +kernel
theorem dX4_clause_202 : decode cX4_clause 202 = .ok (.ireturn, 1) := by decide +kernel
theorem rX4_clause : (∀ (d : Nat) (a1 a2 : Value) (x : Nat) (st : List Value) (h : fk_H), fk_ev d qX4_clause 0 [.ref x, a1, a2] st h = fk_ev d qX4_clause 1 [.ref x, a1, a2] (.ref x :: st) h) ∧
  (∀ (d : Nat) (L : List Value) (x0 : Nat)  (N : Nat) (y : Nat → Nat → Int32) (l : Nat → Nat → Int64), fk_ev (d + 1) qX4_clause 3 L (.ref x0 :: .ref 28 :: []) (fk_E N y l) = (fk_ev d qX4_isOneOf 0 [.ref 28, .ref x0] [] (fk_E N y l)).bind fun o => fk_ev (d + 1) qX4_clause 6 L (o.1.toList ++ []) o.2) ∧
  (∀ (d : Nat) (L : List Value) (x : Int32) (st : List Value) (h : fk_H), fk_ev d qX4_clause 6 L (.int x :: st) h = if ¬ x = nI 0 then fk_ev d qX4_clause 18 L st h else fk_ev d qX4_clause 9 L st h) ∧
  (∀ (d : Nat) (L st : List Value) (h : fk_H), fk_ev d qX4_clause 9 L st h = fk_ev d qX4_clause 10 L (.int (nI 1) :: st) h) ∧
  (∀ (d : Nat) (a1 a2 : Value) (x : Nat) (st : List Value) (h : fk_H), fk_ev d qX4_clause 10 [.ref x, a1, a2] st h = fk_ev d qX4_clause 11 [.ref x, a1, a2] (.ref x :: st) h) ∧
  (∀ (d : Nat) (L st : List Value) (N : Nat) (y : Nat → Nat → Int32) (l : Nat → Nat → Int64), fk_ev d qX4_clause 11 L (.ref 28 :: st) (fk_E N y l) = fk_ev d qX4_clause 14 L (.int (y 28 4) :: st) (fk_E N y l)) ∧
  (∀ (d : Nat) (L : List Value) (x0 : Int32) (x1 : Int32)  (h : fk_H), fk_ev (d + 1) qX4_clause 14 L (.int x1 :: .int x0 :: []) h = (fk_ev d qX11_faultAt 0 [.int x0, .int x1] [] h).bind fun o => fk_ev (d + 1) qX4_clause 17 L (o.1.toList ++ []) o.2) ∧
  (∀ (d : Nat) (L : List Value) (x : Int32) (h : fk_H), fk_ev d qX4_clause 17 L [.int x] h = some (some (.int x), h)) ∧
  (∀ (d : Nat) (a1 a2 : Value) (x : Nat) (st : List Value) (h : fk_H), fk_ev d qX4_clause 18 [.ref x, a1, a2] st h = fk_ev d qX4_clause 19 [.ref x, a1, a2] (.ref x :: st) h) ∧
  (∀ (d : Nat) (L st : List Value) (N : Nat) (y : Nat → Nat → Int32) (l : Nat → Nat → Int64), fk_ev d qX4_clause 19 L (.ref 28 :: st) (fk_E N y l) = fk_ev d qX4_clause 22 L (.ref (y 28 2).toNatClampNeg :: st) (fk_E N y l)) ∧
  (∀ (d : Nat) (L st : List Value) (N : Nat) (y : Nat → Nat → Int32) (l : Nat → Nat → Int64) (c : Nat), fk_at c 3 → fk_ev d qX4_clause 22 L (.ref c :: st) (fk_E N y l) = fk_ev d qX4_clause 25 L (.int (y c 8) :: st) (fk_E N y l)) ∧
  (∀ (d : Nat) (L st : List Value) (h : fk_H), fk_ev d qX4_clause 25 L st h = fk_ev d qX4_clause 27 L (.int (nI 16) :: st) h) ∧
  (∀ (d : Nat) (L : List Value) (x y : Int32) (st : List Value) (h : fk_H), fk_ev d qX4_clause 27 L (.int y :: .int x :: st) h = if x < y then fk_ev d qX4_clause 39 L st h else fk_ev d qX4_clause 30 L st h) ∧
  (∀ (d : Nat) (L st : List Value) (h : fk_H), fk_ev d qX4_clause 30 L st h = fk_ev d qX4_clause 31 L (.int (nI 4) :: st) h) ∧
  (∀ (d : Nat) (a1 a2 : Value) (x : Nat) (st : List Value) (h : fk_H), fk_ev d qX4_clause 31 [.ref x, a1, a2] st h = fk_ev d qX4_clause 32 [.ref x, a1, a2] (.ref x :: st) h) ∧
  (∀ (d : Nat) (L st : List Value) (N : Nat) (y : Nat → Nat → Int32) (l : Nat → Nat → Int64), fk_ev d qX4_clause 32 L (.ref 28 :: st) (fk_E N y l) = fk_ev d qX4_clause 35 L (.int (y 28 4) :: st) (fk_E N y l)) ∧
  (∀ (d : Nat) (L : List Value) (x0 : Int32) (x1 : Int32)  (h : fk_H), fk_ev (d + 1) qX4_clause 35 L (.int x1 :: .int x0 :: []) h = (fk_ev d qX11_faultAt 0 [.int x0, .int x1] [] h).bind fun o => fk_ev (d + 1) qX4_clause 38 L (o.1.toList ++ []) o.2) ∧
  (∀ (d : Nat) (L : List Value) (x : Int32) (h : fk_H), fk_ev d qX4_clause 38 L [.int x] h = some (some (.int x), h)) ∧
  (∀ (d : Nat) (a1 a2 : Value) (x : Nat) (st : List Value) (h : fk_H), fk_ev d qX4_clause 39 [.ref x, a1, a2] st h = fk_ev d qX4_clause 40 [.ref x, a1, a2] (.ref x :: st) h) ∧
  (∀ (d : Nat) (L st : List Value) (N : Nat) (y : Nat → Nat → Int32) (l : Nat → Nat → Int64), fk_ev d qX4_clause 40 L (.ref 28 :: st) (fk_E N y l) = fk_ev d qX4_clause 43 L (.ref (y 28 2).toNatClampNeg :: st) (fk_E N y l)) ∧
  (∀ (d : Nat) (L st : List Value) (N : Nat) (y : Nat → Nat → Int32) (l : Nat → Nat → Int64) (c : Nat), fk_at c 3 → fk_ev d qX4_clause 43 L (.ref c :: st) (fk_E N y l) = fk_ev d qX4_clause 46 L (.int (y c 8) :: st) (fk_E N y l)) ∧
  (∀ (d : Nat) (a0 a1 a2 : Value) (x : Int32) (st : List Value) (h : fk_H), fk_ev d qX4_clause 46 [a0, a1, a2] (.int x :: st) h = fk_ev d qX4_clause 47 [a0, .int x, a2] st h) ∧
  (∀ (d : Nat) (a1 a2 : Value) (x : Nat) (st : List Value) (h : fk_H), fk_ev d qX4_clause 47 [.ref x, a1, a2] st h = fk_ev d qX4_clause 48 [.ref x, a1, a2] (.ref x :: st) h) ∧
  (∀ (d : Nat) (L st : List Value) (N : Nat) (y : Nat → Nat → Int32) (l : Nat → Nat → Int64), fk_ev d qX4_clause 48 L (.ref 28 :: st) (fk_E N y l) = fk_ev d qX4_clause 51 L (.ref (y 28 2).toNatClampNeg :: st) (fk_E N y l)) ∧
  (∀ (d : Nat) (L st : List Value) (N : Nat) (y : Nat → Nat → Int32) (l : Nat → Nat → Int64) (c : Nat), fk_at c 3 → fk_ev d qX4_clause 51 L (.ref c :: st) (fk_E N y l) = fk_ev d qX4_clause 54 L (.ref (fk_cr c 2) :: st) (fk_E N y l)) ∧
  (∀ (d : Nat) (a0 a2 : Value) (x : Int32) (st : List Value) (h : fk_H), fk_ev d qX4_clause 54 [a0, .int x, a2] st h = fk_ev d qX4_clause 55 [a0, .int x, a2] (.int x :: st) h) ∧
  (∀ (d : Nat) (a1 a2 : Value) (x : Nat) (st : List Value) (h : fk_H), fk_ev d qX4_clause 55 [.ref x, a1, a2] st h = fk_ev d qX4_clause 56 [.ref x, a1, a2] (.ref x :: st) h) ∧
  (∀ (d : Nat) (L st : List Value) (N : Nat) (y : Nat → Nat → Int32) (l : Nat → Nat → Int64), fk_ev d qX4_clause 56 L (.ref 28 :: st) (fk_E N y l) = fk_ev d qX4_clause 59 L (.int (y 28 5) :: st) (fk_E N y l)) ∧
  (∀ (d : Nat) (L st : List Value) (N : Nat) (y : Nat → Nat → Int32) (l : Nat → Nat → Int64) (c i : Nat) (v : Int32), fk_at c 20 → i < (fk_shp c).2 → (fk_shp c).2 < 2 ^ 31 → fk_ev d qX4_clause 59 L (.int v :: .int (nI i) :: .ref c :: st) (fk_E N y l) = fk_ev d qX4_clause 60 L st (fk_E N (fk_u y c i v) l)) ∧
  (∀ (d : Nat) (a1 a2 : Value) (x : Nat) (st : List Value) (h : fk_H), fk_ev d qX4_clause 60 [.ref x, a1, a2] st h = fk_ev d qX4_clause 61 [.ref x, a1, a2] (.ref x :: st) h) ∧
  (∀ (d : Nat) (L st : List Value) (N : Nat) (y : Nat → Nat → Int32) (l : Nat → Nat → Int64), fk_ev d qX4_clause 61 L (.ref 28 :: st) (fk_E N y l) = fk_ev d qX4_clause 64 L (.ref (y 28 2).toNatClampNeg :: st) (fk_E N y l)) ∧
  (∀ (d : Nat) (L st : List Value) (N : Nat) (y : Nat → Nat → Int32) (l : Nat → Nat → Int64) (c : Nat), fk_at c 3 → fk_ev d qX4_clause 64 L (.ref c :: st) (fk_E N y l) = fk_ev d qX4_clause 67 L (.ref (fk_cr c 3) :: st) (fk_E N y l)) ∧
  (∀ (d : Nat) (a0 a2 : Value) (x : Int32) (st : List Value) (h : fk_H), fk_ev d qX4_clause 67 [a0, .int x, a2] st h = fk_ev d qX4_clause 68 [a0, .int x, a2] (.int x :: st) h) ∧
  (∀ (d : Nat) (a1 a2 : Value) (x : Nat) (st : List Value) (h : fk_H), fk_ev d qX4_clause 68 [.ref x, a1, a2] st h = fk_ev d qX4_clause 69 [.ref x, a1, a2] (.ref x :: st) h) ∧
  (∀ (d : Nat) (L st : List Value) (N : Nat) (y : Nat → Nat → Int32) (l : Nat → Nat → Int64), fk_ev d qX4_clause 69 L (.ref 28 :: st) (fk_E N y l) = fk_ev d qX4_clause 72 L (.ref (y 28 2).toNatClampNeg :: st) (fk_E N y l)) ∧
  (∀ (d : Nat) (L st : List Value) (N : Nat) (y : Nat → Nat → Int32) (l : Nat → Nat → Int64) (c : Nat), fk_at c 3 → fk_ev d qX4_clause 72 L (.ref c :: st) (fk_E N y l) = fk_ev d qX4_clause 75 L (.int (y c 7) :: st) (fk_E N y l)) ∧
  (∀ (d : Nat) (L st : List Value) (N : Nat) (y : Nat → Nat → Int32) (l : Nat → Nat → Int64) (c i : Nat) (v : Int32), fk_at c 20 → i < (fk_shp c).2 → (fk_shp c).2 < 2 ^ 31 → fk_ev d qX4_clause 75 L (.int v :: .int (nI i) :: .ref c :: st) (fk_E N y l) = fk_ev d qX4_clause 76 L st (fk_E N (fk_u y c i v) l)) ∧
  (∀ (d : Nat) (a1 a2 : Value) (x : Nat) (st : List Value) (h : fk_H), fk_ev d qX4_clause 76 [.ref x, a1, a2] st h = fk_ev d qX4_clause 77 [.ref x, a1, a2] (.ref x :: st) h) ∧
  (∀ (d : Nat) (L : List Value)   (N : Nat) (y : Nat → Nat → Int32) (l : Nat → Nat → Int64), fk_ev (d + 1) qX4_clause 77 L (.ref 28 :: []) (fk_E N y l) = (fk_ev d qX4_advance 0 [.ref 28] [] (fk_E N y l)).bind fun o => fk_ev (d + 1) qX4_clause 80 L (o.1.toList ++ []) o.2) ∧
  (∀ (d : Nat) (L st : List Value) (h : fk_H), fk_ev d qX4_clause 80 L st h = fk_ev d qX4_clause 81 L (.int (nI 0) :: st) h) ∧
  (∀ (d : Nat) (a0 a1 a2 : Value) (x : Int32) (st : List Value) (h : fk_H), fk_ev d qX4_clause 81 [a0, a1, a2] (.int x :: st) h = fk_ev d qX4_clause 82 [a0, a1, .int x] st h) ∧
  (∀ (d : Nat) (a1 a2 : Value) (x : Nat) (st : List Value) (h : fk_H), fk_ev d qX4_clause 82 [.ref x, a1, a2] st h = fk_ev d qX4_clause 83 [.ref x, a1, a2] (.ref x :: st) h) ∧
  (∀ (d : Nat) (L st : List Value) (N : Nat) (y : Nat → Nat → Int32) (l : Nat → Nat → Int64), fk_ev d qX4_clause 83 L (.ref 28 :: st) (fk_E N y l) = fk_ev d qX4_clause 86 L (.ref (y 28 2).toNatClampNeg :: st) (fk_E N y l)) ∧
  (∀ (d : Nat) (L st : List Value) (N : Nat) (y : Nat → Nat → Int32) (l : Nat → Nat → Int64) (c : Nat), fk_at c 3 → fk_ev d qX4_clause 86 L (.ref c :: st) (fk_E N y l) = fk_ev d qX4_clause 89 L (.ref (fk_cr c 2) :: st) (fk_E N y l)) ∧
  (∀ (d : Nat) (a0 a2 : Value) (x : Int32) (st : List Value) (h : fk_H), fk_ev d qX4_clause 89 [a0, .int x, a2] st h = fk_ev d qX4_clause 90 [a0, .int x, a2] (.int x :: st) h) ∧
  (∀ (d : Nat) (L st : List Value) (N : Nat) (y : Nat → Nat → Int32) (l : Nat → Nat → Int64) (c i : Nat), fk_at c 20 → i < (fk_shp c).2 → (fk_shp c).2 < 2 ^ 31 → fk_ev d qX4_clause 90 L (.int (nI i) :: .ref c :: st) (fk_E N y l) = fk_ev d qX4_clause 91 L (.int (y c i) :: st) (fk_E N y l)) ∧
  (∀ (d : Nat) (L st : List Value) (h : fk_H), fk_ev d qX4_clause 91 L st h = fk_ev d qX4_clause 93 L (.int (nI 101) :: st) h) ∧
  (∀ (d : Nat) (L : List Value) (x y : Int32) (st : List Value) (h : fk_H), fk_ev d qX4_clause 93 L (.int y :: .int x :: st) h = if ¬ x = y then fk_ev d qX4_clause 108 L st h else fk_ev d qX4_clause 96 L st h) ∧
  (∀ (d : Nat) (a1 a2 : Value) (x : Nat) (st : List Value) (h : fk_H), fk_ev d qX4_clause 96 [.ref x, a1, a2] st h = fk_ev d qX4_clause 97 [.ref x, a1, a2] (.ref x :: st) h) ∧
  (∀ (d : Nat) (L st : List Value) (N : Nat) (y : Nat → Nat → Int32) (l : Nat → Nat → Int64), fk_ev d qX4_clause 97 L (.ref 28 :: st) (fk_E N y l) = fk_ev d qX4_clause 100 L (.ref (y 28 2).toNatClampNeg :: st) (fk_E N y l)) ∧
  (∀ (d : Nat) (L st : List Value) (h : fk_H), fk_ev d qX4_clause 100 L st h = fk_ev d qX4_clause 101 L (.int (nI 0) :: st) h) ∧
  (∀ (d : Nat) (L st : List Value) (h : fk_H), fk_ev d qX4_clause 101 L st h = fk_ev d qX4_clause 102 L (.int (nI 1) :: st) h) ∧
  (∀ (d : Nat) (L : List Value) (x0 : Int32) (x1 : Int32)  (N : Nat) (y : Nat → Nat → Int32) (l : Nat → Nat → Int64) (c : Nat), fk_at c 3 → fk_ev (d + 1) qX4_clause 102 L (.int x1 :: .int x0 :: .ref c :: []) (fk_E N y l) = (fk_ev d qX3_add 0 [.ref c, .int x0, .int x1] [] (fk_E N y l)).bind fun o => fk_ev (d + 1) qX4_clause 105 L (o.1.toList ++ []) o.2) ∧
  (∀ (d : Nat) (L st : List Value) (h : fk_H), fk_ev d qX4_clause 105 L st h = fk_ev d qX4_clause 114 L st h) ∧
  (∀ (d : Nat) (a1 a2 : Value) (x : Nat) (st : List Value) (h : fk_H), fk_ev d qX4_clause 108 [.ref x, a1, a2] st h = fk_ev d qX4_clause 109 [.ref x, a1, a2] (.ref x :: st) h) ∧
  (∀ (d : Nat) (L st : List Value) (h : fk_H), fk_ev d qX4_clause 109 L st h = fk_ev d qX4_clause 110 L (.int (nI 0) :: st) h) ∧
  (∀ (d : Nat) (L : List Value) (x0 : Int32)  (N : Nat) (y : Nat → Nat → Int32) (l : Nat → Nat → Int64), fk_ev (d + 1) qX4_clause 110 L (.int x0 :: .ref 28 :: []) (fk_E N y l) = (fk_ev d qX4_sum 0 [.ref 28, .int x0, .null, .null] [] (fk_E N y l)).bind fun o => fk_ev (d + 1) qX4_clause 113 L (o.1.toList ++ []) o.2) ∧
  (∀ (d : Nat) (a0 a1 a2 : Value) (x : Int32) (st : List Value) (h : fk_H), fk_ev d qX4_clause 113 [a0, a1, a2] (.int x :: st) h = fk_ev d qX4_clause 114 [a0, a1, .int x] st h) ∧
  (∀ (d : Nat) (a0 a1 : Value) (x : Int32) (st : List Value) (h : fk_H), fk_ev d qX4_clause 114 [a0, a1, .int x] st h = fk_ev d qX4_clause 115 [a0, a1, .int x] (.int x :: st) h) ∧
  (∀ (d : Nat) (L : List Value) (x : Int32) (st : List Value) (h : fk_H), fk_ev d qX4_clause 115 L (.int x :: st) h = if x = nI 0 then fk_ev d qX4_clause 122 L st h else fk_ev d qX4_clause 118 L st h) ∧
  (∀ (d : Nat) (a0 a1 : Value) (x : Int32) (st : List Value) (h : fk_H), fk_ev d qX4_clause 118 [a0, a1, .int x] st h = fk_ev d qX4_clause 119 [a0, a1, .int x] (.int x :: st) h) ∧
  (∀ (d : Nat) (L st : List Value) (h : fk_H), fk_ev d qX4_clause 119 L st h = fk_ev d qX4_clause 128 L st h) ∧
  (∀ (d : Nat) (a1 a2 : Value) (x : Nat) (st : List Value) (h : fk_H), fk_ev d qX4_clause 122 [.ref x, a1, a2] st h = fk_ev d qX4_clause 123 [.ref x, a1, a2] (.ref x :: st) h) ∧
  (∀ (d : Nat) (L st : List Value) (h : fk_H), fk_ev d qX4_clause 123 L st h = fk_ev d qX4_clause 125 L (.int (nI 40) :: st) h) ∧
  (∀ (d : Nat) (L : List Value) (x0 : Int32)  (N : Nat) (y : Nat → Nat → Int32) (l : Nat → Nat → Int64), fk_ev (d + 1) qX4_clause 125 L (.int x0 :: .ref 28 :: []) (fk_E N y l) = (fk_ev d qX4_sign 0 [.ref 28, .int x0] [] (fk_E N y l)).bind fun o => fk_ev (d + 1) qX4_clause 128 L (o.1.toList ++ []) o.2) ∧
  (∀ (d : Nat) (a0 a1 a2 : Value) (x : Int32) (st : List Value) (h : fk_H), fk_ev d qX4_clause 128 [a0, a1, a2] (.int x :: st) h = fk_ev d qX4_clause 129 [a0, a1, .int x] st h) ∧
  (∀ (d : Nat) (a1 a2 : Value) (x : Nat) (st : List Value) (h : fk_H), fk_ev d qX4_clause 129 [.ref x, a1, a2] st h = fk_ev d qX4_clause 130 [.ref x, a1, a2] (.ref x :: st) h) ∧
  (∀ (d : Nat) (L st : List Value) (N : Nat) (y : Nat → Nat → Int32) (l : Nat → Nat → Int64), fk_ev d qX4_clause 130 L (.ref 28 :: st) (fk_E N y l) = fk_ev d qX4_clause 133 L (.ref (y 28 2).toNatClampNeg :: st) (fk_E N y l)) ∧
  (∀ (d : Nat) (L st : List Value) (N : Nat) (y : Nat → Nat → Int32) (l : Nat → Nat → Int64) (c : Nat), fk_at c 3 → fk_ev d qX4_clause 133 L (.ref c :: st) (fk_E N y l) = fk_ev d qX4_clause 136 L (.ref (fk_cr c 4) :: st) (fk_E N y l)) ∧
  (∀ (d : Nat) (a0 a2 : Value) (x : Int32) (st : List Value) (h : fk_H), fk_ev d qX4_clause 136 [a0, .int x, a2] st h = fk_ev d qX4_clause 137 [a0, .int x, a2] (.int x :: st) h) ∧
  (∀ (d : Nat) (a1 a2 : Value) (x : Nat) (st : List Value) (h : fk_H), fk_ev d qX4_clause 137 [.ref x, a1, a2] st h = fk_ev d qX4_clause 138 [.ref x, a1, a2] (.ref x :: st) h) ∧
  (∀ (d : Nat) (L st : List Value) (N : Nat) (y : Nat → Nat → Int32) (l : Nat → Nat → Int64), fk_ev d qX4_clause 138 L (.ref 28 :: st) (fk_E N y l) = fk_ev d qX4_clause 141 L (.ref (y 28 2).toNatClampNeg :: st) (fk_E N y l)) ∧
  (∀ (d : Nat) (L st : List Value) (N : Nat) (y : Nat → Nat → Int32) (l : Nat → Nat → Int64) (c : Nat), fk_at c 3 → fk_ev d qX4_clause 141 L (.ref c :: st) (fk_E N y l) = fk_ev d qX4_clause 144 L (.int (y c 7) :: st) (fk_E N y l)) ∧
  (∀ (d : Nat) (L st : List Value) (N : Nat) (y : Nat → Nat → Int32) (l : Nat → Nat → Int64) (c i : Nat) (v : Int32), fk_at c 20 → i < (fk_shp c).2 → (fk_shp c).2 < 2 ^ 31 → fk_ev d qX4_clause 144 L (.int v :: .int (nI i) :: .ref c :: st) (fk_E N y l) = fk_ev d qX4_clause 145 L st (fk_E N (fk_u y c i v) l)) ∧
  (∀ (d : Nat) (a0 a1 : Value) (x : Int32) (st : List Value) (h : fk_H), fk_ev d qX4_clause 145 [a0, a1, .int x] st h = fk_ev d qX4_clause 146 [a0, a1, .int x] (.int x :: st) h) ∧
  (∀ (d : Nat) (L : List Value) (x : Int32) (st : List Value) (h : fk_H), fk_ev d qX4_clause 146 L (.int x :: st) h = if x = nI 0 then fk_ev d qX4_clause 153 L st h else fk_ev d qX4_clause 149 L st h) ∧
  (∀ (d : Nat) (a0 a1 : Value) (x : Int32) (st : List Value) (h : fk_H), fk_ev d qX4_clause 149 [a0, a1, .int x] st h = fk_ev d qX4_clause 150 [a0, a1, .int x] (.int x :: st) h) ∧
  (∀ (d : Nat) (L st : List Value) (h : fk_H), fk_ev d qX4_clause 150 L st h = fk_ev d qX4_clause 158 L st h) ∧
  (∀ (d : Nat) (a1 a2 : Value) (x : Nat) (st : List Value) (h : fk_H), fk_ev d qX4_clause 153 [.ref x, a1, a2] st h = fk_ev d qX4_clause 154 [.ref x, a1, a2] (.ref x :: st) h) ∧
  (∀ (d : Nat) (L st : List Value) (h : fk_H), fk_ev d qX4_clause 154 L st h = fk_ev d qX4_clause 155 L (.int (nI 1) :: st) h) ∧
  (∀ (d : Nat) (L : List Value) (x0 : Int32)  (N : Nat) (y : Nat → Nat → Int32) (l : Nat → Nat → Int64), fk_ev (d + 1) qX4_clause 155 L (.int x0 :: .ref 28 :: []) (fk_E N y l) = (fk_ev d qX4_anyOf 0 [.ref 28, .int x0, .null, .null] [] (fk_E N y l)).bind fun o => fk_ev (d + 1) qX4_clause 158 L (o.1.toList ++ []) o.2) ∧
  (∀ (d : Nat) (a0 a1 a2 : Value) (x : Int32) (st : List Value) (h : fk_H), fk_ev d qX4_clause 158 [a0, a1, a2] (.int x :: st) h = fk_ev d qX4_clause 159 [a0, a1, .int x] st h) ∧
  (∀ (d : Nat) (a1 a2 : Value) (x : Nat) (st : List Value) (h : fk_H), fk_ev d qX4_clause 159 [.ref x, a1, a2] st h = fk_ev d qX4_clause 160 [.ref x, a1, a2] (.ref x :: st) h) ∧
  (∀ (d : Nat) (L st : List Value) (N : Nat) (y : Nat → Nat → Int32) (l : Nat → Nat → Int64), fk_ev d qX4_clause 160 L (.ref 28 :: st) (fk_E N y l) = fk_ev d qX4_clause 163 L (.ref (y 28 2).toNatClampNeg :: st) (fk_E N y l)) ∧
  (∀ (d : Nat) (L st : List Value) (N : Nat) (y : Nat → Nat → Int32) (l : Nat → Nat → Int64) (c : Nat), fk_at c 3 → fk_ev d qX4_clause 163 L (.ref c :: st) (fk_E N y l) = fk_ev d qX4_clause 166 L (.ref (fk_cr c 5) :: st) (fk_E N y l)) ∧
  (∀ (d : Nat) (a0 a2 : Value) (x : Int32) (st : List Value) (h : fk_H), fk_ev d qX4_clause 166 [a0, .int x, a2] st h = fk_ev d qX4_clause 167 [a0, .int x, a2] (.int x :: st) h) ∧
  (∀ (d : Nat) (a1 a2 : Value) (x : Nat) (st : List Value) (h : fk_H), fk_ev d qX4_clause 167 [.ref x, a1, a2] st h = fk_ev d qX4_clause 168 [.ref x, a1, a2] (.ref x :: st) h) ∧
  (∀ (d : Nat) (L st : List Value) (N : Nat) (y : Nat → Nat → Int32) (l : Nat → Nat → Int64), fk_ev d qX4_clause 168 L (.ref 28 :: st) (fk_E N y l) = fk_ev d qX4_clause 171 L (.ref (y 28 2).toNatClampNeg :: st) (fk_E N y l)) ∧
  (∀ (d : Nat) (L st : List Value) (N : Nat) (y : Nat → Nat → Int32) (l : Nat → Nat → Int64) (c : Nat), fk_at c 3 → fk_ev d qX4_clause 171 L (.ref c :: st) (fk_E N y l) = fk_ev d qX4_clause 174 L (.int (y c 7) :: st) (fk_E N y l)) ∧
  (∀ (d : Nat) (L st : List Value) (N : Nat) (y : Nat → Nat → Int32) (l : Nat → Nat → Int64) (c i : Nat) (v : Int32), fk_at c 20 → i < (fk_shp c).2 → (fk_shp c).2 < 2 ^ 31 → fk_ev d qX4_clause 174 L (.int v :: .int (nI i) :: .ref c :: st) (fk_E N y l) = fk_ev d qX4_clause 175 L st (fk_E N (fk_u y c i v) l)) ∧
  (∀ (d : Nat) (a1 a2 : Value) (x : Nat) (st : List Value) (h : fk_H), fk_ev d qX4_clause 175 [.ref x, a1, a2] st h = fk_ev d qX4_clause 176 [.ref x, a1, a2] (.ref x :: st) h) ∧
  (∀ (d : Nat) (L st : List Value) (N : Nat) (y : Nat → Nat → Int32) (l : Nat → Nat → Int64), fk_ev d qX4_clause 176 L (.ref 28 :: st) (fk_E N y l) = fk_ev d qX4_clause 179 L (.ref (y 28 2).toNatClampNeg :: st) (fk_E N y l)) ∧
  (∀ (d : Nat) (L : List Value) (x : Nat) (st : List Value) (h : fk_H), fk_ev d qX4_clause 179 L (.ref x :: st) h = fk_ev d qX4_clause 180 L (.ref x :: .ref x :: st) h) ∧
  (∀ (d : Nat) (L st : List Value) (N : Nat) (y : Nat → Nat → Int32) (l : Nat → Nat → Int64) (c : Nat), fk_at c 3 → fk_ev d qX4_clause 180 L (.ref c :: st) (fk_E N y l) = fk_ev d qX4_clause 183 L (.int (y c 8) :: st) (fk_E N y l)) ∧
  (∀ (d : Nat) (L st : List Value) (h : fk_H), fk_ev d qX4_clause 183 L st h = fk_ev d qX4_clause 184 L (.int (nI 1) :: st) h) ∧
  (∀ (d : Nat) (L : List Value) (x y : Int32) (st : List Value) (h : fk_H), fk_ev d qX4_clause 184 L (.int y :: .int x :: st) h = fk_ev d qX4_clause 185 L (.int (x + y) :: st) h) ∧
  (∀ (d : Nat) (L st : List Value) (N : Nat) (y : Nat → Nat → Int32) (l : Nat → Nat → Int64) (c : Nat) (v : Int32), fk_at c 3 → fk_ev d qX4_clause 185 L (.int v :: .ref c :: st) (fk_E N y l) = fk_ev d qX4_clause 188 L st (fk_E N (fk_u y c 8 v) l)) ∧
  (∀ (d : Nat) (a0 a1 : Value) (x : Int32) (st : List Value) (h : fk_H), fk_ev d qX4_clause 188 [a0, a1, .int x] st h = fk_ev d qX4_clause 189 [a0, a1, .int x] (.int x :: st) h) ∧
  (∀ (d : Nat) (L : List Value) (x : Int32) (st : List Value) (h : fk_H), fk_ev d qX4_clause 189 L (.int x :: st) h = if x = nI 0 then fk_ev d qX4_clause 196 L st h else fk_ev d qX4_clause 192 L st h) ∧
  (∀ (d : Nat) (a0 a1 : Value) (x : Int32) (st : List Value) (h : fk_H), fk_ev d qX4_clause 192 [a0, a1, .int x] st h = fk_ev d qX4_clause 193 [a0, a1, .int x] (.int x :: st) h) ∧
  (∀ (d : Nat) (L st : List Value) (h : fk_H), fk_ev d qX4_clause 193 L st h = fk_ev d qX4_clause 202 L st h) ∧
  (∀ (d : Nat) (a1 a2 : Value) (x : Nat) (st : List Value) (h : fk_H), fk_ev d qX4_clause 196 [.ref x, a1, a2] st h = fk_ev d qX4_clause 197 [.ref x, a1, a2] (.ref x :: st) h) ∧
  (∀ (d : Nat) (L st : List Value) (h : fk_H), fk_ev d qX4_clause 197 L st h = fk_ev d qX4_clause 199 L (.int (nI 41) :: st) h) ∧
  (∀ (d : Nat) (L : List Value) (x0 : Int32)  (N : Nat) (y : Nat → Nat → Int32) (l : Nat → Nat → Int64), fk_ev (d + 1) qX4_clause 199 L (.int x0 :: .ref 28 :: []) (fk_E N y l) = (fk_ev d qX4_sign 0 [.ref 28, .int x0] [] (fk_E N y l)).bind fun o => fk_ev (d + 1) qX4_clause 202 L (o.1.toList ++ []) o.2) ∧
  (∀ (d : Nat) (L : List Value) (x : Int32) (h : fk_H), fk_ev d qX4_clause 202 L [.int x] h = some (some (.int x), h)) := ⟨fun d a1 a2 x st h => fk_w_aloadn 0 [.ref x, a1, a2] dX4_clause_0 rfl,
  fun d L x0 N y l  => fk_g_call [.ref x0] [] rfl lm_4_73 dX4_clause_3 rfl ⟨rfl, by decide⟩ (by simp) fk_at_28,
  fun d L x st h => fk_r_if_ne dX4_clause_6 (by decide),
  fun d L st h => fk_w_iconst dX4_clause_9 (by decide),
  fun d a1 a2 x st h => fk_w_aloadn 0 [.ref x, a1, a2] dX4_clause_10 rfl,
  fun d L st N y l => fk_g_getI rfl lf_4_19 (by decide) dX4_clause_11 fk_at_28,
  fun d L x0 x1 h => fk_g_calls [.int x0, .int x1] [] rfl lm_4_60 dX4_clause_14 rfl ⟨rfl, by decide⟩ (by simp),
  fun d L x h => fk_r_ret dX4_clause_17 (Or.inl rfl),
  fun d a1 a2 x st h => fk_w_aloadn 0 [.ref x, a1, a2] dX4_clause_18 rfl,
  fun d L st N y l => fk_g_getM rfl lf_4_29 (by decide) dX4_clause_19 fk_at_28,
  fun d L st N y l c hc => fk_g_getI rfl lf_4_77 (by decide) dX4_clause_22 hc,
  fun d L st h => fk_w_bipush dX4_clause_25 (by decide),
  fun d L x y st h => fk_r_icmp_lt dX4_clause_27 (by decide),
  fun d L st h => fk_w_iconst dX4_clause_30 (by decide),
  fun d a1 a2 x st h => fk_w_aloadn 0 [.ref x, a1, a2] dX4_clause_31 rfl,
  fun d L st N y l => fk_g_getI rfl lf_4_19 (by decide) dX4_clause_32 fk_at_28,
  fun d L x0 x1 h => fk_g_calls [.int x0, .int x1] [] rfl lm_4_60 dX4_clause_35 rfl ⟨rfl, by decide⟩ (by simp),
  fun d L x h => fk_r_ret dX4_clause_38 (Or.inl rfl),
  fun d a1 a2 x st h => fk_w_aloadn 0 [.ref x, a1, a2] dX4_clause_39 rfl,
  fun d L st N y l => fk_g_getM rfl lf_4_29 (by decide) dX4_clause_40 fk_at_28,
  fun d L st N y l c hc => fk_g_getI rfl lf_4_77 (by decide) dX4_clause_43 hc,
  fun d a0 a1 a2 x st h => fk_w_istoren 1 3 [] [a0, a1, a2] [a0, .int x, a2] dX4_clause_46 rfl rfl (by decide) rfl,
  fun d a1 a2 x st h => fk_w_aloadn 0 [.ref x, a1, a2] dX4_clause_47 rfl,
  fun d L st N y l => fk_g_getM rfl lf_4_29 (by decide) dX4_clause_48 fk_at_28,
  fun d L st N y l c hc => fk_g_getC rfl lf_4_80 (by decide) rfl dX4_clause_51 hc,
  fun d a0 a2 x st h => fk_w_iloadn 1 [a0, .int x, a2] dX4_clause_54 rfl,
  fun d a1 a2 x st h => fk_w_aloadn 0 [.ref x, a1, a2] dX4_clause_55 rfl,
  fun d L st N y l => fk_g_getI rfl lf_4_22 (by decide) dX4_clause_56 fk_at_28,
  fun d L st N y l c i v hc hi hl => fk_h_iast dX4_clause_59 hc hi hl,
  fun d a1 a2 x st h => fk_w_aloadn 0 [.ref x, a1, a2] dX4_clause_60 rfl,
  fun d L st N y l => fk_g_getM rfl lf_4_29 (by decide) dX4_clause_61 fk_at_28,
  fun d L st N y l c hc => fk_g_getC rfl lf_4_83 (by decide) rfl dX4_clause_64 hc,
  fun d a0 a2 x st h => fk_w_iloadn 1 [a0, .int x, a2] dX4_clause_67 rfl,
  fun d a1 a2 x st h => fk_w_aloadn 0 [.ref x, a1, a2] dX4_clause_68 rfl,
  fun d L st N y l => fk_g_getM rfl lf_4_29 (by decide) dX4_clause_69 fk_at_28,
  fun d L st N y l c hc => fk_g_getI rfl lf_4_86 (by decide) dX4_clause_72 hc,
  fun d L st N y l c i v hc hi hl => fk_h_iast dX4_clause_75 hc hi hl,
  fun d a1 a2 x st h => fk_w_aloadn 0 [.ref x, a1, a2] dX4_clause_76 rfl,
  fun d L  N y l  => fk_g_call [] [] rfl lm_4_68 dX4_clause_77 rfl ⟨rfl, by decide⟩ (by simp) fk_at_28,
  fun d L st h => fk_w_iconst dX4_clause_80 (by decide),
  fun d a0 a1 a2 x st h => fk_w_istoren 2 3 [] [a0, a1, a2] [a0, a1, .int x] dX4_clause_81 rfl rfl (by decide) rfl,
  fun d a1 a2 x st h => fk_w_aloadn 0 [.ref x, a1, a2] dX4_clause_82 rfl,
  fun d L st N y l => fk_g_getM rfl lf_4_29 (by decide) dX4_clause_83 fk_at_28,
  fun d L st N y l c hc => fk_g_getC rfl lf_4_80 (by decide) rfl dX4_clause_86 hc,
  fun d a0 a2 x st h => fk_w_iloadn 1 [a0, .int x, a2] dX4_clause_89 rfl,
  fun d L st N y l c i hc hi hl => fk_h_iald dX4_clause_90 hc hi hl,
  fun d L st h => fk_w_bipush dX4_clause_91 (by decide),
  fun d L x y st h => fk_r_icmp_ne dX4_clause_93 (by decide),
  fun d a1 a2 x st h => fk_w_aloadn 0 [.ref x, a1, a2] dX4_clause_96 rfl,
  fun d L st N y l => fk_g_getM rfl lf_4_29 (by decide) dX4_clause_97 fk_at_28,
  fun d L st h => fk_w_iconst dX4_clause_100 (by decide),
  fun d L st h => fk_w_iconst dX4_clause_101 (by decide),
  fun d L x0 x1 N y l c hc => fk_g_call [.int x0, .int x1] [] rfl lm_4_89 dX4_clause_102 rfl ⟨rfl, by decide⟩ (by simp) hc,
  fun d L st h => fk_r_goto dX4_clause_105 (by decide),
  fun d a1 a2 x st h => fk_w_aloadn 0 [.ref x, a1, a2] dX4_clause_108 rfl,
  fun d L st h => fk_w_iconst dX4_clause_109 (by decide),
  fun d L x0 N y l  => fk_g_call [.int x0] [] rfl lm_4_93 dX4_clause_110 rfl ⟨rfl, by decide⟩ (by simp) fk_at_28,
  fun d a0 a1 a2 x st h => fk_w_istoren 2 3 [] [a0, a1, a2] [a0, a1, .int x] dX4_clause_113 rfl rfl (by decide) rfl,
  fun d a0 a1 x st h => fk_w_iloadn 2 [a0, a1, .int x] dX4_clause_114 rfl,
  fun d L x st h => fk_r_if_eq dX4_clause_115 (by decide),
  fun d a0 a1 x st h => fk_w_iloadn 2 [a0, a1, .int x] dX4_clause_118 rfl,
  fun d L st h => fk_r_goto dX4_clause_119 (by decide),
  fun d a1 a2 x st h => fk_w_aloadn 0 [.ref x, a1, a2] dX4_clause_122 rfl,
  fun d L st h => fk_w_bipush dX4_clause_123 (by decide),
  fun d L x0 N y l  => fk_g_call [.int x0] [] rfl lm_4_57 dX4_clause_125 rfl ⟨rfl, by decide⟩ (by simp) fk_at_28,
  fun d a0 a1 a2 x st h => fk_w_istoren 2 3 [] [a0, a1, a2] [a0, a1, .int x] dX4_clause_128 rfl rfl (by decide) rfl,
  fun d a1 a2 x st h => fk_w_aloadn 0 [.ref x, a1, a2] dX4_clause_129 rfl,
  fun d L st N y l => fk_g_getM rfl lf_4_29 (by decide) dX4_clause_130 fk_at_28,
  fun d L st N y l c hc => fk_g_getC rfl lf_4_96 (by decide) rfl dX4_clause_133 hc,
  fun d a0 a2 x st h => fk_w_iloadn 1 [a0, .int x, a2] dX4_clause_136 rfl,
  fun d a1 a2 x st h => fk_w_aloadn 0 [.ref x, a1, a2] dX4_clause_137 rfl,
  fun d L st N y l => fk_g_getM rfl lf_4_29 (by decide) dX4_clause_138 fk_at_28,
  fun d L st N y l c hc => fk_g_getI rfl lf_4_86 (by decide) dX4_clause_141 hc,
  fun d L st N y l c i v hc hi hl => fk_h_iast dX4_clause_144 hc hi hl,
  fun d a0 a1 x st h => fk_w_iloadn 2 [a0, a1, .int x] dX4_clause_145 rfl,
  fun d L x st h => fk_r_if_eq dX4_clause_146 (by decide),
  fun d a0 a1 x st h => fk_w_iloadn 2 [a0, a1, .int x] dX4_clause_149 rfl,
  fun d L st h => fk_r_goto dX4_clause_150 (by decide),
  fun d a1 a2 x st h => fk_w_aloadn 0 [.ref x, a1, a2] dX4_clause_153 rfl,
  fun d L st h => fk_w_iconst dX4_clause_154 (by decide),
  fun d L x0 N y l  => fk_g_call [.int x0] [] rfl lm_4_99 dX4_clause_155 rfl ⟨rfl, by decide⟩ (by simp) fk_at_28,
  fun d a0 a1 a2 x st h => fk_w_istoren 2 3 [] [a0, a1, a2] [a0, a1, .int x] dX4_clause_158 rfl rfl (by decide) rfl,
  fun d a1 a2 x st h => fk_w_aloadn 0 [.ref x, a1, a2] dX4_clause_159 rfl,
  fun d L st N y l => fk_g_getM rfl lf_4_29 (by decide) dX4_clause_160 fk_at_28,
  fun d L st N y l c hc => fk_g_getC rfl lf_4_102 (by decide) rfl dX4_clause_163 hc,
  fun d a0 a2 x st h => fk_w_iloadn 1 [a0, .int x, a2] dX4_clause_166 rfl,
  fun d a1 a2 x st h => fk_w_aloadn 0 [.ref x, a1, a2] dX4_clause_167 rfl,
  fun d L st N y l => fk_g_getM rfl lf_4_29 (by decide) dX4_clause_168 fk_at_28,
  fun d L st N y l c hc => fk_g_getI rfl lf_4_86 (by decide) dX4_clause_171 hc,
  fun d L st N y l c i v hc hi hl => fk_h_iast dX4_clause_174 hc hi hl,
  fun d a1 a2 x st h => fk_w_aloadn 0 [.ref x, a1, a2] dX4_clause_175 rfl,
  fun d L st N y l => fk_g_getM rfl lf_4_29 (by decide) dX4_clause_176 fk_at_28,
  fun d L x st h => fk_r_dup_ref dX4_clause_179,
  fun d L st N y l c hc => fk_g_getI rfl lf_4_77 (by decide) dX4_clause_180 hc,
  fun d L st h => fk_w_iconst dX4_clause_183 (by decide),
  fun d L x y st h => fk_r_iadd dX4_clause_184,
  fun d L st N y l c v hc => fk_g_putI rfl lf_4_77 (by decide) dX4_clause_185 rfl hc,
  fun d a0 a1 x st h => fk_w_iloadn 2 [a0, a1, .int x] dX4_clause_188 rfl,
  fun d L x st h => fk_r_if_eq dX4_clause_189 (by decide),
  fun d a0 a1 x st h => fk_w_iloadn 2 [a0, a1, .int x] dX4_clause_192 rfl,
  fun d L st h => fk_r_goto dX4_clause_193 (by decide),
  fun d a1 a2 x st h => fk_w_aloadn 0 [.ref x, a1, a2] dX4_clause_196 rfl,
  fun d L st h => fk_w_bipush dX4_clause_197 (by decide),
  fun d L x0 N y l  => fk_g_call [.int x0] [] rfl lm_4_57 dX4_clause_199 rfl ⟨rfl, by decide⟩ (by simp) fk_at_28,
  fun d L x h => fk_r_ret dX4_clause_202 (Or.inl rfl)⟩
theorem dX4_land_0 : decode cX4_land 0 = .ok (.iload_n 1, 1) := by decide +kernel
theorem dX4_land_1 : decode cX4_land 1 = .ok (.istore_n 3, 1) := by decide +kernel
theorem dX4_land_2 : decode cX4_land 2 = .ok (.iload_n 3, 1) := by decide +kernel
theorem dX4_land_3 : decode cX4_land 3 = .ok (.aload_n 0, 1) := by decide +kernel
theorem dX4_land_4 : decode cX4_land 4 = .ok (.getfield 29, 3) := by decide +kernel
theorem dX4_land_7 : decode cX4_land 7 = .ok (.getfield 86, 3) := by decide +kernel
theorem dX4_land_10 : decode cX4_land 10 = .ok (.if_icmp .ge 50, 3) := by decide +kernel
theorem dX4_land_13 : decode cX4_land 13 = .ok (.aload_n 0, 1) := by decide +kernel
theorem dX4_land_14 : decode cX4_land 14 = .ok (.getfield 29, 3) := by decide +kernel
theorem dX4_land_17 : decode cX4_land 17 = .ok (.getfield 105, 3) := by decide +kernel
theorem dX4_land_20 : decode cX4_land 20 = .ok (.iload_n 3, 1) := by decide +kernel
theorem dX4_land_21 : decode cX4_land 21 = .ok (.iaload, 1) := by decide +kernel
theorem dX4_land_22 : decode cX4_land 22 = .ok (.iload_n 2, 1) := by decide +kernel
theorem dX4_land_23 : decode cX4_land 23 = .ok (.if_icmp .ne 31, 3) := by decide +kernel
theorem dX4_land_26 : decode cX4_land 26 = .ok (.aload_n 0, 1) := by decide +kernel
theorem dX4_land_27 : decode cX4_land 27 = .ok (.getfield 29, 3) := by decide +kernel
theorem dX4_land_30 : decode cX4_land 30 = .ok (.getfield 108, 3) := by decide +kernel
theorem dX4_land_33 : decode cX4_land 33 = .ok (.iload_n 3, 1) := by decide +kernel
theorem dX4_land_34 : decode cX4_land 34 = .ok (.iaload, 1) := by decide +kernel
theorem dX4_land_35 : decode cX4_land 35 = .ok (.ifCond .ge 19, 3) := by decide +kernel
theorem dX4_land_38 : decode cX4_land 38 = .ok (.aload_n 0, 1) := by decide +kernel
theorem dX4_land_39 : decode cX4_land 39 = .ok (.getfield 29, 3) := by decide +kernel
theorem dX4_land_42 : decode cX4_land 42 = .ok (.getfield 108, 3) := by decide +kernel
theorem dX4_land_45 : decode cX4_land 45 = .ok (.iload_n 3, 1) := by decide +kernel
theorem dX4_land_46 : decode cX4_land 46 = .ok (.aload_n 0, 1) := by decide +kernel
theorem dX4_land_47 : decode cX4_land 47 = .ok (.getfield 29, 3) := by decide +kernel
theorem dX4_land_50 : decode cX4_land 50 = .ok (.getfield 86, 3) := by decide +kernel
theorem dX4_land_53 : decode cX4_land 53 = .ok (.iastore, 1) := by decide +kernel
theorem dX4_land_54 : decode cX4_land 54 = .ok (.iinc 3 1, 3) := by decide +kernel
theorem dX4_land_57 : decode cX4_land 57 = .ok (.goto (-55), 3) := by decide +kernel
theorem dX4_land_60 : decode cX4_land 60 = .ok (.return_, 1) := by decide +kernel
theorem rX4_land : (∀ (d : Nat) (a0 a2 a3 : Value) (x : Int32) (st : List Value) (h : fk_H), fk_ev d qX4_land 0 [a0, .int x, a2, a3] st h = fk_ev d qX4_land 1 [a0, .int x, a2, a3] (.int x :: st) h) ∧
  (∀ (d : Nat) (a0 a1 a2 a3 : Value) (x : Int32) (st : List Value) (h : fk_H), fk_ev d qX4_land 1 [a0, a1, a2, a3] (.int x :: st) h = fk_ev d qX4_land 2 [a0, a1, a2, .int x] st h) ∧
  (∀ (d : Nat) (a1 a2 a3 : Value) (x : Nat) (st : List Value) (h : fk_H), fk_ev d qX4_land 3 [.ref x, a1, a2, a3] st h = fk_ev d qX4_land 4 [.ref x, a1, a2, a3] (.ref x :: st) h) ∧
  (∀ (d : Nat) (L st : List Value) (N : Nat) (y : Nat → Nat → Int32) (l : Nat → Nat → Int64), fk_ev d qX4_land 4 L (.ref 28 :: st) (fk_E N y l) = fk_ev d qX4_land 7 L (.ref (y 28 2).toNatClampNeg :: st) (fk_E N y l)) ∧
  (∀ (d : Nat) (L st : List Value) (N : Nat) (y : Nat → Nat → Int32) (l : Nat → Nat → Int64) (c : Nat), fk_at c 3 → fk_ev d qX4_land 7 L (.ref c :: st) (fk_E N y l) = fk_ev d qX4_land 10 L (.int (y c 7) :: st) (fk_E N y l)) ∧
  (∀ (d : Nat) (L : List Value) (x y : Int32) (st : List Value) (h : fk_H), fk_ev d qX4_land 10 L (.int y :: .int x :: st) h = if y ≤ x then fk_ev d qX4_land 60 L st h else fk_ev d qX4_land 13 L st h) ∧
  (∀ (d : Nat) (a1 a2 a3 : Value) (x : Nat) (st : List Value) (h : fk_H), fk_ev d qX4_land 13 [.ref x, a1, a2, a3] st h = fk_ev d qX4_land 14 [.ref x, a1, a2, a3] (.ref x :: st) h) ∧
  (∀ (d : Nat) (L st : List Value) (N : Nat) (y : Nat → Nat → Int32) (l : Nat → Nat → Int64), fk_ev d qX4_land 14 L (.ref 28 :: st) (fk_E N y l) = fk_ev d qX4_land 17 L (.ref (y 28 2).toNatClampNeg :: st) (fk_E N y l)) ∧
  (∀ (d : Nat) (L st : List Value) (N : Nat) (y : Nat → Nat → Int32) (l : Nat → Nat → Int64) (c : Nat), fk_at c 3 → fk_ev d qX4_land 17 L (.ref c :: st) (fk_E N y l) = fk_ev d qX4_land 20 L (.ref (fk_cr c 0) :: st) (fk_E N y l)) ∧
  (∀ (d : Nat) (a0 a1 a2 : Value) (x : Int32) (st : List Value) (h : fk_H), fk_ev d qX4_land 20 [a0, a1, a2, .int x] st h = fk_ev d qX4_land 21 [a0, a1, a2, .int x] (.int x :: st) h) ∧
  (∀ (d : Nat) (L st : List Value) (N : Nat) (y : Nat → Nat → Int32) (l : Nat → Nat → Int64) (c i : Nat), fk_at c 20 → i < (fk_shp c).2 → (fk_shp c).2 < 2 ^ 31 → fk_ev d qX4_land 21 L (.int (nI i) :: .ref c :: st) (fk_E N y l) = fk_ev d qX4_land 22 L (.int (y c i) :: st) (fk_E N y l)) ∧
  (∀ (d : Nat) (a0 a1 a3 : Value) (x : Int32) (st : List Value) (h : fk_H), fk_ev d qX4_land 22 [a0, a1, .int x, a3] st h = fk_ev d qX4_land 23 [a0, a1, .int x, a3] (.int x :: st) h) ∧
  (∀ (d : Nat) (L : List Value) (x y : Int32) (st : List Value) (h : fk_H), fk_ev d qX4_land 23 L (.int y :: .int x :: st) h = if ¬ x = y then fk_ev d qX4_land 54 L st h else fk_ev d qX4_land 26 L st h) ∧
  (∀ (d : Nat) (a1 a2 a3 : Value) (x : Nat) (st : List Value) (h : fk_H), fk_ev d qX4_land 26 [.ref x, a1, a2, a3] st h = fk_ev d qX4_land 27 [.ref x, a1, a2, a3] (.ref x :: st) h) ∧
  (∀ (d : Nat) (L st : List Value) (N : Nat) (y : Nat → Nat → Int32) (l : Nat → Nat → Int64), fk_ev d qX4_land 27 L (.ref 28 :: st) (fk_E N y l) = fk_ev d qX4_land 30 L (.ref (y 28 2).toNatClampNeg :: st) (fk_E N y l)) ∧
  (∀ (d : Nat) (L st : List Value) (N : Nat) (y : Nat → Nat → Int32) (l : Nat → Nat → Int64) (c : Nat), fk_at c 3 → fk_ev d qX4_land 30 L (.ref c :: st) (fk_E N y l) = fk_ev d qX4_land 33 L (.ref (fk_cr c 1) :: st) (fk_E N y l)) ∧
  (∀ (d : Nat) (a0 a1 a2 : Value) (x : Int32) (st : List Value) (h : fk_H), fk_ev d qX4_land 33 [a0, a1, a2, .int x] st h = fk_ev d qX4_land 34 [a0, a1, a2, .int x] (.int x :: st) h) ∧
  (∀ (d : Nat) (L st : List Value) (N : Nat) (y : Nat → Nat → Int32) (l : Nat → Nat → Int64) (c i : Nat), fk_at c 20 → i < (fk_shp c).2 → (fk_shp c).2 < 2 ^ 31 → fk_ev d qX4_land 34 L (.int (nI i) :: .ref c :: st) (fk_E N y l) = fk_ev d qX4_land 35 L (.int (y c i) :: st) (fk_E N y l)) ∧
  (∀ (d : Nat) (L : List Value) (x : Int32) (st : List Value) (h : fk_H), fk_ev d qX4_land 35 L (.int x :: st) h = if nI 0 ≤ x then fk_ev d qX4_land 54 L st h else fk_ev d qX4_land 38 L st h) ∧
  (∀ (d : Nat) (a1 a2 a3 : Value) (x : Nat) (st : List Value) (h : fk_H), fk_ev d qX4_land 38 [.ref x, a1, a2, a3] st h = fk_ev d qX4_land 39 [.ref x, a1, a2, a3] (.ref x :: st) h) ∧
  (∀ (d : Nat) (L st : List Value) (N : Nat) (y : Nat → Nat → Int32) (l : Nat → Nat → Int64), fk_ev d qX4_land 39 L (.ref 28 :: st) (fk_E N y l) = fk_ev d qX4_land 42 L (.ref (y 28 2).toNatClampNeg :: st) (fk_E N y l)) ∧
  (∀ (d : Nat) (L st : List Value) (N : Nat) (y : Nat → Nat → Int32) (l : Nat → Nat → Int64) (c : Nat), fk_at c 3 → fk_ev d qX4_land 42 L (.ref c :: st) (fk_E N y l) = fk_ev d qX4_land 45 L (.ref (fk_cr c 1) :: st) (fk_E N y l)) ∧
  (∀ (d : Nat) (a0 a1 a2 : Value) (x : Int32) (st : List Value) (h : fk_H), fk_ev d qX4_land 45 [a0, a1, a2, .int x] st h = fk_ev d qX4_land 46 [a0, a1, a2, .int x] (.int x :: st) h) ∧
  (∀ (d : Nat) (a1 a2 a3 : Value) (x : Nat) (st : List Value) (h : fk_H), fk_ev d qX4_land 46 [.ref x, a1, a2, a3] st h = fk_ev d qX4_land 47 [.ref x, a1, a2, a3] (.ref x :: st) h) ∧
  (∀ (d : Nat) (L st : List Value) (N : Nat) (y : Nat → Nat → Int32) (l : Nat → Nat → Int64), fk_ev d qX4_land 47 L (.ref 28 :: st) (fk_E N y l) = fk_ev d qX4_land 50 L (.ref (y 28 2).toNatClampNeg :: st) (fk_E N y l)) ∧
  (∀ (d : Nat) (L st : List Value) (N : Nat) (y : Nat → Nat → Int32) (l : Nat → Nat → Int64) (c : Nat), fk_at c 3 → fk_ev d qX4_land 50 L (.ref c :: st) (fk_E N y l) = fk_ev d qX4_land 53 L (.int (y c 7) :: st) (fk_E N y l)) ∧
  (∀ (d : Nat) (L st : List Value) (N : Nat) (y : Nat → Nat → Int32) (l : Nat → Nat → Int64) (c i : Nat) (v : Int32), fk_at c 20 → i < (fk_shp c).2 → (fk_shp c).2 < 2 ^ 31 → fk_ev d qX4_land 53 L (.int v :: .int (nI i) :: .ref c :: st) (fk_E N y l) = fk_ev d qX4_land 54 L st (fk_E N (fk_u y c i v) l)) ∧
  (∀ (d : Nat) (a0 a1 a2 : Value) (x : Int32) (st : List Value) (h : fk_H), fk_ev d qX4_land 54 [a0, a1, a2, .int x] st h = fk_ev d qX4_land 57 [a0, a1, a2, .int (x + nI 1)] st h) ∧
  (∀ (d : Nat) (L st : List Value) (h : fk_H), fk_ev d qX4_land 57 L st h = fk_ev d qX4_land 2 L st h) ∧
  (∀ (d : Nat) (L : List Value) (h : fk_H), fk_ev d qX4_land 60 L [] h = some (none, h)) := ⟨fun d a0 a2 a3 x st h => fk_w_iloadn 1 [a0, .int x, a2, a3] dX4_land_0 rfl,
  fun d a0 a1 a2 a3 x st h => fk_w_istoren 3 4 [] [a0, a1, a2, a3] [a0, a1, a2, .int x] dX4_land_1 rfl rfl (by decide) rfl,
  fun d a1 a2 a3 x st h => fk_w_aloadn 0 [.ref x, a1, a2, a3] dX4_land_3 rfl,
  fun d L st N y l => fk_g_getM rfl lf_4_29 (by decide) dX4_land_4 fk_at_28,
  fun d L st N y l c hc => fk_g_getI rfl lf_4_86 (by decide) dX4_land_7 hc,
  fun d L x y st h => fk_r_icmp_ge dX4_land_10 (by decide),
  fun d a1 a2 a3 x st h => fk_w_aloadn 0 [.ref x, a1, a2, a3] dX4_land_13 rfl,
  fun d L st N y l => fk_g_getM rfl lf_4_29 (by decide) dX4_land_14 fk_at_28,
  fun d L st N y l c hc => fk_g_getC rfl lf_4_105 (by decide) rfl dX4_land_17 hc,
  fun d a0 a1 a2 x st h => fk_w_iloadn 3 [a0, a1, a2, .int x] dX4_land_20 rfl,
  fun d L st N y l c i hc hi hl => fk_h_iald dX4_land_21 hc hi hl,
  fun d a0 a1 a3 x st h => fk_w_iloadn 2 [a0, a1, .int x, a3] dX4_land_22 rfl,
  fun d L x y st h => fk_r_icmp_ne dX4_land_23 (by decide),
  fun d a1 a2 a3 x st h => fk_w_aloadn 0 [.ref x, a1, a2, a3] dX4_land_26 rfl,
  fun d L st N y l => fk_g_getM rfl lf_4_29 (by decide) dX4_land_27 fk_at_28,
  fun d L st N y l c hc => fk_g_getC rfl lf_4_108 (by decide) rfl dX4_land_30 hc,
  fun d a0 a1 a2 x st h => fk_w_iloadn 3 [a0, a1, a2, .int x] dX4_land_33 rfl,
  fun d L st N y l c i hc hi hl => fk_h_iald dX4_land_34 hc hi hl,
  fun d L x st h => fk_r_if_ge dX4_land_35 (by decide),
  fun d a1 a2 a3 x st h => fk_w_aloadn 0 [.ref x, a1, a2, a3] dX4_land_38 rfl,
  fun d L st N y l => fk_g_getM rfl lf_4_29 (by decide) dX4_land_39 fk_at_28,
  fun d L st N y l c hc => fk_g_getC rfl lf_4_108 (by decide) rfl dX4_land_42 hc,
  fun d a0 a1 a2 x st h => fk_w_iloadn 3 [a0, a1, a2, .int x] dX4_land_45 rfl,
  fun d a1 a2 a3 x st h => fk_w_aloadn 0 [.ref x, a1, a2, a3] dX4_land_46 rfl,
  fun d L st N y l => fk_g_getM rfl lf_4_29 (by decide) dX4_land_47 fk_at_28,
  fun d L st N y l c hc => fk_g_getI rfl lf_4_86 (by decide) dX4_land_50 hc,
  fun d L st N y l c i v hc hi hl => fk_h_iast dX4_land_53 hc hi hl,
  fun d a0 a1 a2 x st h => fk_w_iinc 3 4 (1) [] [a0, a1, a2, .int x] [a0, a1, a2, .int (x + nI 1)] dX4_land_54 rfl rfl rfl (by decide) rfl,
  fun d L st h => fk_r_goto dX4_land_57 (by decide),
  fun d L h => fk_r_vret dX4_land_60 rfl⟩
theorem hX4_land_2 : ∀ (d : Nat) (a0 a1 a2 : Value) (x : Int32) (st : List Value) (h : fk_H), fk_ev d qX4_land 2 [a0, a1, a2, .int x] st h = fk_ev d qX4_land 3 [a0, a1, a2, .int x] (.int x :: st) h := fun d a0 a1 a2 x st h => fk_w_iloadn 3 [a0, a1, a2, .int x] dX4_land_2 rfl
theorem dX4_anyOf_0 : decode cX4_anyOf 0 = .ok (.aload_n 0, 1) := by decide +kernel
theorem dX4_anyOf_1 : decode cX4_anyOf 1 = .ok (.getfield 29, 3) := by decide +kernel
theorem dX4_anyOf_4 : decode cX4_anyOf 4 = .ok (.getfield 86, 3) := by decide +kernel
theorem dX4_anyOf_7 : decode cX4_anyOf 7 = .ok (.istore_n 2, 1) := by decide +kernel
theorem dX4_anyOf_8 : decode cX4_anyOf 8 = .ok (.aload_n 0, 1) := by decide +kernel
theorem dX4_anyOf_9 : decode cX4_anyOf 9 = .ok (.iload_n 1, 1) := by decide +kernel
theorem dX4_anyOf_10 : decode cX4_anyOf 10 = .ok (.invokevirtual 111, 3) := by decide +kernel
theorem dX4_anyOf_13 : decode cX4_anyOf 13 = .ok (.istore_n 3, 1) := by decide +kernel
theorem dX4_anyOf_14 : decode cX4_anyOf 14 = .ok (.iload_n 3, 1) := by decide +kernel
theorem dX4_anyOf_15 : decode cX4_anyOf 15 = .ok (.ifCond .ne 45, 3) := by decide +kernel
theorem dX4_anyOf_18 : decode cX4_anyOf 18 = .ok (.aload_n 0, 1) := by decide +kernel
theorem dX4_anyOf_19 : decode cX4_anyOf 19 = .ok (.getfield 19, 3) := by decide +kernel
theorem dX4_anyOf_22 : decode cX4_anyOf 22 = .ok (.aload_n 0, 1) := by decide +kernel
theorem dX4_anyOf_23 : decode cX4_anyOf 23 = .ok (.getfield 15, 3) := by decide +kernel
theorem dX4_anyOf_26 : decode cX4_anyOf 26 = .ok (.if_icmp .ge 34, 3) := by decide +kernel
theorem dX4_anyOf_29 : decode cX4_anyOf 29 = .ok (.aload_n 0, 1) := by decide +kernel
theorem dX4_anyOf_30 : decode cX4_anyOf 30 = .ok (.getfield 22, 3) := by decide +kernel
theorem dX4_anyOf_33 : decode cX4_anyOf 33 = .ok (.bipush 124, 2) := by decide +kernel
theorem dX4_anyOf_35 : decode cX4_anyOf 35 = .ok (.if_icmp .ne 25, 3) := by decide +kernel
theorem dX4_anyOf_38 : decode cX4_anyOf 38 = .ok (.aload_n 0, 1) := by decide +kernel
theorem dX4_anyOf_39 : decode cX4_anyOf 39 = .ok (.invokevirtual 68, 3) := by decide +kernel
theorem dX4_anyOf_42 : decode cX4_anyOf 42 = .ok (.aload_n 0, 1) := by decide +kernel
theorem dX4_anyOf_43 : decode cX4_anyOf 43 = .ok (.getfield 29, 3) := by decide +kernel
theorem dX4_anyOf_46 : decode cX4_anyOf 46 = .ok (.iconst 4, 1) := by decide +kernel
theorem dX4_anyOf_47 : decode cX4_anyOf 47 = .ok (.iconst (-1), 1) := by decide +kernel
theorem dX4_anyOf_48 : decode cX4_anyOf 48 = .ok (.invokevirtual 89, 3) := by decide +kernel
theorem dX4_anyOf_51 : decode cX4_anyOf 51 = .ok (.aload_n 0, 1) := by decide +kernel
theorem dX4_anyOf_52 : decode cX4_anyOf 52 = .ok (.iload_n 1, 1) := by decide +kernel
theorem dX4_anyOf_53 : decode cX4_anyOf 53 = .ok (.invokevirtual 111, 3) := by decide +kernel
theorem dX4_anyOf_56 : decode cX4_anyOf 56 = .ok (.istore_n 3, 1) := by decide +kernel
theorem dX4_anyOf_57 : decode cX4_anyOf 57 = .ok (.goto (-43), 3) := by decide +kernel
theorem dX4_anyOf_60 : decode cX4_anyOf 60 = .ok (.aload_n 0, 1) := by decide +kernel
theorem dX4_anyOf_61 : decode cX4_anyOf 61 = .ok (.iload_n 2, 1) := by decide +kernel
theorem dX4_anyOf_62 : decode cX4_anyOf 62 = .ok (.iconst 4, 1) := by decide +kernel
theorem dX4_anyOf_63 : decode cX4_anyOf 63 = .ok (.invokevirtual 114, 3) := by decide +kernel
theorem dX4_anyOf_66 : decode cX4_anyOf 66 = .ok (.iload_n 3, 1) := by decide +kernel
theorem dX4_anyOf_67 : decode cX4_anyOf 67 = .ok (.ireturn, 1) := by decide +kernel
theorem rX4_anyOf : (∀ (d : Nat) (a1 a2 a3 : Value) (x : Nat) (st : List Value) (h : fk_H), fk_ev d qX4_anyOf 0 [.ref x, a1, a2, a3] st h = fk_ev d qX4_anyOf 1 [.ref x, a1, a2, a3] (.ref x :: st) h) ∧
  (∀ (d : Nat) (L st : List Value) (N : Nat) (y : Nat → Nat → Int32) (l : Nat → Nat → Int64), fk_ev d qX4_anyOf 1 L (.ref 28 :: st) (fk_E N y l) = fk_ev d qX4_anyOf 4 L (.ref (y 28 2).toNatClampNeg :: st) (fk_E N y l)) ∧
  (∀ (d : Nat) (L st : List Value) (N : Nat) (y : Nat → Nat → Int32) (l : Nat → Nat → Int64) (c : Nat), fk_at c 3 → fk_ev d qX4_anyOf 4 L (.ref c :: st) (fk_E N y l) = fk_ev d qX4_anyOf 7 L (.int (y c 7) :: st) (fk_E N y l)) ∧
  (∀ (d : Nat) (a0 a1 a2 a3 : Value) (x : Int32) (st : List Value) (h : fk_H), fk_ev d qX4_anyOf 7 [a0, a1, a2, a3] (.int x :: st) h = fk_ev d qX4_anyOf 8 [a0, a1, .int x, a3] st h) ∧
  (∀ (d : Nat) (a1 a2 a3 : Value) (x : Nat) (st : List Value) (h : fk_H), fk_ev d qX4_anyOf 8 [.ref x, a1, a2, a3] st h = fk_ev d qX4_anyOf 9 [.ref x, a1, a2, a3] (.ref x :: st) h) ∧
  (∀ (d : Nat) (a0 a2 a3 : Value) (x : Int32) (st : List Value) (h : fk_H), fk_ev d qX4_anyOf 9 [a0, .int x, a2, a3] st h = fk_ev d qX4_anyOf 10 [a0, .int x, a2, a3] (.int x :: st) h) ∧
  (∀ (d : Nat) (L : List Value) (x0 : Int32)  (N : Nat) (y : Nat → Nat → Int32) (l : Nat → Nat → Int64), fk_ev (d + 1) qX4_anyOf 10 L (.int x0 :: .ref 28 :: []) (fk_E N y l) = (fk_ev d qX4_allOf 0 [.ref 28, .int x0, .null, .null] [] (fk_E N y l)).bind fun o => fk_ev (d + 1) qX4_anyOf 13 L (o.1.toList ++ []) o.2) ∧
  (∀ (d : Nat) (a0 a1 a2 a3 : Value) (x : Int32) (st : List Value) (h : fk_H), fk_ev d qX4_anyOf 13 [a0, a1, a2, a3] (.int x :: st) h = fk_ev d qX4_anyOf 14 [a0, a1, a2, .int x] st h) ∧
  (∀ (d : Nat) (L : List Value) (x : Int32) (st : List Value) (h : fk_H), fk_ev d qX4_anyOf 15 L (.int x :: st) h = if ¬ x = nI 0 then fk_ev d qX4_anyOf 60 L st h else fk_ev d qX4_anyOf 18 L st h) ∧
  (∀ (d : Nat) (a1 a2 a3 : Value) (x : Nat) (st : List Value) (h : fk_H), fk_ev d qX4_anyOf 18 [.ref x, a1, a2, a3] st h = fk_ev d qX4_anyOf 19 [.ref x, a1, a2, a3] (.ref x :: st) h) ∧
  (∀ (d : Nat) (L st : List Value) (N : Nat) (y : Nat → Nat → Int32) (l : Nat → Nat → Int64), fk_ev d qX4_anyOf 19 L (.ref 28 :: st) (fk_E N y l) = fk_ev d qX4_anyOf 22 L (.int (y 28 4) :: st) (fk_E N y l)) ∧
  (∀ (d : Nat) (a1 a2 a3 : Value) (x : Nat) (st : List Value) (h : fk_H), fk_ev d qX4_anyOf 22 [.ref x, a1, a2, a3] st h = fk_ev d qX4_anyOf 23 [.ref x, a1, a2, a3] (.ref x :: st) h) ∧
  (∀ (d : Nat) (L st : List Value) (N : Nat) (y : Nat → Nat → Int32) (l : Nat → Nat → Int64), fk_ev d qX4_anyOf 23 L (.ref 28 :: st) (fk_E N y l) = fk_ev d qX4_anyOf 26 L (.int (y 28 3) :: st) (fk_E N y l)) ∧
  (∀ (d : Nat) (L : List Value) (x y : Int32) (st : List Value) (h : fk_H), fk_ev d qX4_anyOf 26 L (.int y :: .int x :: st) h = if y ≤ x then fk_ev d qX4_anyOf 60 L st h else fk_ev d qX4_anyOf 29 L st h) ∧
  (∀ (d : Nat) (a1 a2 a3 : Value) (x : Nat) (st : List Value) (h : fk_H), fk_ev d qX4_anyOf 29 [.ref x, a1, a2, a3] st h = fk_ev d qX4_anyOf 30 [.ref x, a1, a2, a3] (.ref x :: st) h) ∧
  (∀ (d : Nat) (L st : List Value) (N : Nat) (y : Nat → Nat → Int32) (l : Nat → Nat → Int64), fk_ev d qX4_anyOf 30 L (.ref 28 :: st) (fk_E N y l) = fk_ev d qX4_anyOf 33 L (.int (y 28 5) :: st) (fk_E N y l)) ∧
  (∀ (d : Nat) (L st : List Value) (h : fk_H), fk_ev d qX4_anyOf 33 L st h = fk_ev d qX4_anyOf 35 L (.int (nI 124) :: st) h) ∧
  (∀ (d : Nat) (L : List Value) (x y : Int32) (st : List Value) (h : fk_H), fk_ev d qX4_anyOf 35 L (.int y :: .int x :: st) h = if ¬ x = y then fk_ev d qX4_anyOf 60 L st h else fk_ev d qX4_anyOf 38 L st h) ∧
  (∀ (d : Nat) (a1 a2 a3 : Value) (x : Nat) (st : List Value) (h : fk_H), fk_ev d qX4_anyOf 38 [.ref x, a1, a2, a3] st h = fk_ev d qX4_anyOf 39 [.ref x, a1, a2, a3] (.ref x :: st) h) ∧
  (∀ (d : Nat) (L : List Value)   (N : Nat) (y : Nat → Nat → Int32) (l : Nat → Nat → Int64), fk_ev (d + 1) qX4_anyOf 39 L (.ref 28 :: []) (fk_E N y l) = (fk_ev d qX4_advance 0 [.ref 28] [] (fk_E N y l)).bind fun o => fk_ev (d + 1) qX4_anyOf 42 L (o.1.toList ++ []) o.2) ∧
  (∀ (d : Nat) (a1 a2 a3 : Value) (x : Nat) (st : List Value) (h : fk_H), fk_ev d qX4_anyOf 42 [.ref x, a1, a2, a3] st h = fk_ev d qX4_anyOf 43 [.ref x, a1, a2, a3] (.ref x :: st) h) ∧
  (∀ (d : Nat) (L st : List Value) (N : Nat) (y : Nat → Nat → Int32) (l : Nat → Nat → Int64), fk_ev d qX4_anyOf 43 L (.ref 28 :: st) (fk_E N y l) = fk_ev d qX4_anyOf 46 L (.ref (y 28 2).toNatClampNeg :: st) (fk_E N y l)) ∧
  (∀ (d : Nat) (L st : List Value) (h : fk_H), fk_ev d qX4_anyOf 46 L st h = fk_ev d qX4_anyOf 47 L (.int (nI 4) :: st) h) ∧
  (∀ (d : Nat) (L st : List Value) (h : fk_H), fk_ev d qX4_anyOf 47 L st h = fk_ev d qX4_anyOf 48 L (.int ((-1 : Int32)) :: st) h) ∧
  (∀ (d : Nat) (L : List Value) (x0 : Int32) (x1 : Int32)  (N : Nat) (y : Nat → Nat → Int32) (l : Nat → Nat → Int64) (c : Nat), fk_at c 3 → fk_ev (d + 1) qX4_anyOf 48 L (.int x1 :: .int x0 :: .ref c :: []) (fk_E N y l) = (fk_ev d qX3_add 0 [.ref c, .int x0, .int x1] [] (fk_E N y l)).bind fun o => fk_ev (d + 1) qX4_anyOf 51 L (o.1.toList ++ []) o.2) ∧
  (∀ (d : Nat) (a1 a2 a3 : Value) (x : Nat) (st : List Value) (h : fk_H), fk_ev d qX4_anyOf 51 [.ref x, a1, a2, a3] st h = fk_ev d qX4_anyOf 52 [.ref x, a1, a2, a3] (.ref x :: st) h) ∧
  (∀ (d : Nat) (a0 a2 a3 : Value) (x : Int32) (st : List Value) (h : fk_H), fk_ev d qX4_anyOf 52 [a0, .int x, a2, a3] st h = fk_ev d qX4_anyOf 53 [a0, .int x, a2, a3] (.int x :: st) h) ∧
  (∀ (d : Nat) (L : List Value) (x0 : Int32)  (N : Nat) (y : Nat → Nat → Int32) (l : Nat → Nat → Int64), fk_ev (d + 1) qX4_anyOf 53 L (.int x0 :: .ref 28 :: []) (fk_E N y l) = (fk_ev d qX4_allOf 0 [.ref 28, .int x0, .null, .null] [] (fk_E N y l)).bind fun o => fk_ev (d + 1) qX4_anyOf 56 L (o.1.toList ++ []) o.2) ∧
  (∀ (d : Nat) (a0 a1 a2 a3 : Value) (x : Int32) (st : List Value) (h : fk_H), fk_ev d qX4_anyOf 56 [a0, a1, a2, a3] (.int x :: st) h = fk_ev d qX4_anyOf 57 [a0, a1, a2, .int x] st h) ∧
  (∀ (d : Nat) (L st : List Value) (h : fk_H), fk_ev d qX4_anyOf 57 L st h = fk_ev d qX4_anyOf 14 L st h) ∧
  (∀ (d : Nat) (a1 a2 a3 : Value) (x : Nat) (st : List Value) (h : fk_H), fk_ev d qX4_anyOf 60 [.ref x, a1, a2, a3] st h = fk_ev d qX4_anyOf 61 [.ref x, a1, a2, a3] (.ref x :: st) h) ∧
  (∀ (d : Nat) (a0 a1 a3 : Value) (x : Int32) (st : List Value) (h : fk_H), fk_ev d qX4_anyOf 61 [a0, a1, .int x, a3] st h = fk_ev d qX4_anyOf 62 [a0, a1, .int x, a3] (.int x :: st) h) ∧
  (∀ (d : Nat) (L st : List Value) (h : fk_H), fk_ev d qX4_anyOf 62 L st h = fk_ev d qX4_anyOf 63 L (.int (nI 4) :: st) h) ∧
  (∀ (d : Nat) (L : List Value) (x0 : Int32) (x1 : Int32)  (N : Nat) (y : Nat → Nat → Int32) (l : Nat → Nat → Int64), fk_ev (d + 1) qX4_anyOf 63 L (.int x1 :: .int x0 :: .ref 28 :: []) (fk_E N y l) = (fk_ev d qX4_land 0 [.ref 28, .int x0, .int x1, .null] [] (fk_E N y l)).bind fun o => fk_ev (d + 1) qX4_anyOf 66 L (o.1.toList ++ []) o.2) ∧
  (∀ (d : Nat) (a0 a1 a2 : Value) (x : Int32) (st : List Value) (h : fk_H), fk_ev d qX4_anyOf 66 [a0, a1, a2, .int x] st h = fk_ev d qX4_anyOf 67 [a0, a1, a2, .int x] (.int x :: st) h) ∧
  (∀ (d : Nat) (L : List Value) (x : Int32) (h : fk_H), fk_ev d qX4_anyOf 67 L [.int x] h = some (some (.int x), h)) := ⟨fun d a1 a2 a3 x st h => fk_w_aloadn 0 [.ref x, a1, a2, a3] dX4_anyOf_0 rfl,
  fun d L st N y l => fk_g_getM rfl lf_4_29 (by decide) dX4_anyOf_1 fk_at_28,
  fun d L st N y l c hc => fk_g_getI rfl lf_4_86 (by decide) dX4_anyOf_4 hc,
  fun d a0 a1 a2 a3 x st h => fk_w_istoren 2 4 [] [a0, a1, a2, a3] [a0, a1, .int x, a3] dX4_anyOf_7 rfl rfl (by decide) rfl,
  fun d a1 a2 a3 x st h => fk_w_aloadn 0 [.ref x, a1, a2, a3] dX4_anyOf_8 rfl,
  fun d a0 a2 a3 x st h => fk_w_iloadn 1 [a0, .int x, a2, a3] dX4_anyOf_9 rfl,
  fun d L x0 N y l  => fk_g_call [.int x0] [] rfl lm_4_111 dX4_anyOf_10 rfl ⟨rfl, by decide⟩ (by simp) fk_at_28,
  fun d a0 a1 a2 a3 x st h => fk_w_istoren 3 4 [] [a0, a1, a2, a3] [a0, a1, a2, .int x] dX4_anyOf_13 rfl rfl (by decide) rfl,
  fun d L x st h => fk_r_if_ne dX4_anyOf_15 (by decide),
  fun d a1 a2 a3 x st h => fk_w_aloadn 0 [.ref x, a1, a2, a3] dX4_anyOf_18 rfl,
  fun d L st N y l => fk_g_getI rfl lf_4_19 (by decide) dX4_anyOf_19 fk_at_28,
  fun d a1 a2 a3 x st h => fk_w_aloadn 0 [.ref x, a1, a2, a3] dX4_anyOf_22 rfl,
  fun d L st N y l => fk_g_getI rfl lf_4_15 (by decide) dX4_anyOf_23 fk_at_28,
  fun d L x y st h => fk_r_icmp_ge dX4_anyOf_26 (by decide),
  fun d a1 a2 a3 x st h => fk_w_aloadn 0 [.ref x, a1, a2, a3] dX4_anyOf_29 rfl,
  fun d L st N y l => fk_g_getI rfl lf_4_22 (by decide) dX4_anyOf_30 fk_at_28,
  fun d L st h => fk_w_bipush dX4_anyOf_33 (by decide),
  fun d L x y st h => fk_r_icmp_ne dX4_anyOf_35 (by decide),
  fun d a1 a2 a3 x st h => fk_w_aloadn 0 [.ref x, a1, a2, a3] dX4_anyOf_38 rfl,
  fun d L  N y l  => fk_g_call [] [] rfl lm_4_68 dX4_anyOf_39 rfl ⟨rfl, by decide⟩ (by simp) fk_at_28,
  fun d a1 a2 a3 x st h => fk_w_aloadn 0 [.ref x, a1, a2, a3] dX4_anyOf_42 rfl,
  fun d L st N y l => fk_g_getM rfl lf_4_29 (by decide) dX4_anyOf_43 fk_at_28,
  fun d L st h => fk_w_iconst dX4_anyOf_46 (by decide),
  fun d L st h => fk_w_iconst dX4_anyOf_47 (by decide),
  fun d L x0 x1 N y l c hc => fk_g_call [.int x0, .int x1] [] rfl lm_4_89 dX4_anyOf_48 rfl ⟨rfl, by decide⟩ (by simp) hc,
  fun d a1 a2 a3 x st h => fk_w_aloadn 0 [.ref x, a1, a2, a3] dX4_anyOf_51 rfl,
  fun d a0 a2 a3 x st h => fk_w_iloadn 1 [a0, .int x, a2, a3] dX4_anyOf_52 rfl,
  fun d L x0 N y l  => fk_g_call [.int x0] [] rfl lm_4_111 dX4_anyOf_53 rfl ⟨rfl, by decide⟩ (by simp) fk_at_28,
  fun d a0 a1 a2 a3 x st h => fk_w_istoren 3 4 [] [a0, a1, a2, a3] [a0, a1, a2, .int x] dX4_anyOf_56 rfl rfl (by decide) rfl,
  fun d L st h => fk_r_goto dX4_anyOf_57 (by decide),
  fun d a1 a2 a3 x st h => fk_w_aloadn 0 [.ref x, a1, a2, a3] dX4_anyOf_60 rfl,
  fun d a0 a1 a3 x st h => fk_w_iloadn 2 [a0, a1, .int x, a3] dX4_anyOf_61 rfl,
  fun d L st h => fk_w_iconst dX4_anyOf_62 (by decide),
  fun d L x0 x1 N y l  => fk_g_call [.int x0, .int x1] [] rfl lm_4_114 dX4_anyOf_63 rfl ⟨rfl, by decide⟩ (by simp) fk_at_28,
  fun d a0 a1 a2 x st h => fk_w_iloadn 3 [a0, a1, a2, .int x] dX4_anyOf_66 rfl,
  fun d L x h => fk_r_ret dX4_anyOf_67 (Or.inl rfl)⟩
theorem hX4_anyOf_14 : ∀ (d : Nat) (a0 a1 a2 : Value) (x : Int32) (st : List Value) (h : fk_H), fk_ev d qX4_anyOf 14 [a0, a1, a2, .int x] st h = fk_ev d qX4_anyOf 15 [a0, a1, a2, .int x] (.int x :: st) h := fun d a0 a1 a2 x st h => fk_w_iloadn 3 [a0, a1, a2, .int x] dX4_anyOf_14 rfl
theorem dX4_allOf_0 : decode cX4_allOf 0 = .ok (.aload_n 0, 1) := by decide +kernel
theorem dX4_allOf_1 : decode cX4_allOf 1 = .ok (.getfield 29, 3) := by decide +kernel
theorem dX4_allOf_4 : decode cX4_allOf 4 = .ok (.getfield 86, 3) := by decide +kernel
theorem dX4_allOf_7 : decode cX4_allOf 7 = .ok (.istore_n 2, 1) := by decide +kernel
theorem dX4_allOf_8 : decode cX4_allOf 8 = .ok (.aload_n 0, 1) := by decide +kernel
theorem dX4_allOf_9 : decode cX4_allOf 9 = .ok (.iload_n 1, 1) := by decide +kernel
theorem dX4_allOf_10 : decode cX4_allOf 10 = .ok (.invokevirtual 117, 3) := by decide +kernel
theorem dX4_allOf_13 : decode cX4_allOf 13 = .ok (.istore_n 3, 1) := by decide +kernel
theorem dX4_allOf_14 : decode cX4_allOf 14 = .ok (.iload_n 3, 1) := by decide +kernel
theorem dX4_allOf_15 : decode cX4_allOf 15 = .ok (.ifCond .ne 45, 3) := by decide +kernel
theorem dX4_allOf_18 : decode cX4_allOf 18 = .ok (.aload_n 0, 1) := by decide +kernel
theorem dX4_allOf_19 : decode cX4_allOf 19 = .ok (.getfield 19, 3) := by decide +kernel
theorem dX4_allOf_22 : decode cX4_allOf 22 = .ok (.aload_n 0, 1) := by decide +kernel
theorem dX4_allOf_23 : decode cX4_allOf 23 = .ok (.getfield 15, 3) := by decide +kernel
theorem dX4_allOf_26 : decode cX4_allOf 26 = .ok (.if_icmp .ge 34, 3) := by decide +kernel
theorem dX4_allOf_29 : decode cX4_allOf 29 = .ok (.aload_n 0, 1) := by decide +kernel
theorem dX4_allOf_30 : decode cX4_allOf 30 = .ok (.getfield 22, 3) := by decide +kernel
theorem dX4_allOf_33 : decode cX4_allOf 33 = .ok (.bipush 38, 2) := by decide +kernel
theorem dX4_allOf_35 : decode cX4_allOf 35 = .ok (.if_icmp .ne 25, 3) := by decide +kernel
theorem dX4_allOf_38 : decode cX4_allOf 38 = .ok (.aload_n 0, 1) := by decide +kernel
theorem dX4_allOf_39 : decode cX4_allOf 39 = .ok (.invokevirtual 68, 3) := by decide +kernel
theorem dX4_allOf_42 : decode cX4_allOf 42 = .ok (.aload_n 0, 1) := by decide +kernel
theorem dX4_allOf_43 : decode cX4_allOf 43 = .ok (.getfield 29, 3) := by decide +kernel
theorem dX4_allOf_46 : decode cX4_allOf 46 = .ok (.iconst 3, 1) := by decide +kernel
theorem dX4_allOf_47 : decode cX4_allOf 47 = .ok (.iconst (-1), 1) := by decide +kernel
theorem dX4_allOf_48 : decode cX4_allOf 48 = .ok (.invokevirtual 89, 3) := by decide +kernel
theorem dX4_allOf_51 : decode cX4_allOf 51 = .ok (.aload_n 0, 1) := by decide +kernel
theorem dX4_allOf_52 : decode cX4_allOf 52 = .ok (.iload_n 1, 1) := by decide +kernel
theorem dX4_allOf_53 : decode cX4_allOf 53 = .ok (.invokevirtual 117, 3) := by decide +kernel
theorem dX4_allOf_56 : decode cX4_allOf 56 = .ok (.istore_n 3, 1) := by decide +kernel
theorem dX4_allOf_57 : decode cX4_allOf 57 = .ok (.goto (-43), 3) := by decide +kernel
theorem dX4_allOf_60 : decode cX4_allOf 60 = .ok (.aload_n 0, 1) := by decide +kernel
theorem dX4_allOf_61 : decode cX4_allOf 61 = .ok (.iload_n 2, 1) := by decide +kernel
theorem dX4_allOf_62 : decode cX4_allOf 62 = .ok (.iconst 3, 1) := by decide +kernel
theorem dX4_allOf_63 : decode cX4_allOf 63 = .ok (.invokevirtual 114, 3) := by decide +kernel
theorem dX4_allOf_66 : decode cX4_allOf 66 = .ok (.iload_n 3, 1) := by decide +kernel
theorem dX4_allOf_67 : decode cX4_allOf 67 = .ok (.ireturn, 1) := by decide +kernel
theorem rX4_allOf : (∀ (d : Nat) (a1 a2 a3 : Value) (x : Nat) (st : List Value) (h : fk_H), fk_ev d qX4_allOf 0 [.ref x, a1, a2, a3] st h = fk_ev d qX4_allOf 1 [.ref x, a1, a2, a3] (.ref x :: st) h) ∧
  (∀ (d : Nat) (L st : List Value) (N : Nat) (y : Nat → Nat → Int32) (l : Nat → Nat → Int64), fk_ev d qX4_allOf 1 L (.ref 28 :: st) (fk_E N y l) = fk_ev d qX4_allOf 4 L (.ref (y 28 2).toNatClampNeg :: st) (fk_E N y l)) ∧
  (∀ (d : Nat) (L st : List Value) (N : Nat) (y : Nat → Nat → Int32) (l : Nat → Nat → Int64) (c : Nat), fk_at c 3 → fk_ev d qX4_allOf 4 L (.ref c :: st) (fk_E N y l) = fk_ev d qX4_allOf 7 L (.int (y c 7) :: st) (fk_E N y l)) ∧
  (∀ (d : Nat) (a0 a1 a2 a3 : Value) (x : Int32) (st : List Value) (h : fk_H), fk_ev d qX4_allOf 7 [a0, a1, a2, a3] (.int x :: st) h = fk_ev d qX4_allOf 8 [a0, a1, .int x, a3] st h) ∧
  (∀ (d : Nat) (a1 a2 a3 : Value) (x : Nat) (st : List Value) (h : fk_H), fk_ev d qX4_allOf 8 [.ref x, a1, a2, a3] st h = fk_ev d qX4_allOf 9 [.ref x, a1, a2, a3] (.ref x :: st) h) ∧
  (∀ (d : Nat) (a0 a2 a3 : Value) (x : Int32) (st : List Value) (h : fk_H), fk_ev d qX4_allOf 9 [a0, .int x, a2, a3] st h = fk_ev d qX4_allOf 10 [a0, .int x, a2, a3] (.int x :: st) h) ∧
  (∀ (d : Nat) (L : List Value) (x0 : Int32)  (N : Nat) (y : Nat → Nat → Int32) (l : Nat → Nat → Int64), fk_ev (d + 1) qX4_allOf 10 L (.int x0 :: .ref 28 :: []) (fk_E N y l) = (fk_ev d qX4_piece 0 [.ref 28, .int x0, .null, .null, .null] [] (fk_E N y l)).bind fun o => fk_ev (d + 1) qX4_allOf 13 L (o.1.toList ++ []) o.2) ∧
  (∀ (d : Nat) (a0 a1 a2 a3 : Value) (x : Int32) (st : List Value) (h : fk_H), fk_ev d qX4_allOf 13 [a0, a1, a2, a3] (.int x :: st) h = fk_ev d qX4_allOf 14 [a0, a1, a2, .int x] st h) ∧
  (∀ (d : Nat) (L : List Value) (x : Int32) (st : List Value) (h : fk_H), fk_ev d qX4_allOf 15 L (.int x :: st) h = if ¬ x = nI 0 then fk_ev d qX4_allOf 60 L st h else fk_ev d qX4_allOf 18 L st h) ∧
  (∀ (d : Nat) (a1 a2 a3 : Value) (x : Nat) (st : List Value) (h : fk_H), fk_ev d qX4_allOf 18 [.ref x, a1, a2, a3] st h = fk_ev d qX4_allOf 19 [.ref x, a1, a2, a3] (.ref x :: st) h) ∧
  (∀ (d : Nat) (L st : List Value) (N : Nat) (y : Nat → Nat → Int32) (l : Nat → Nat → Int64), fk_ev d qX4_allOf 19 L (.ref 28 :: st) (fk_E N y l) = fk_ev d qX4_allOf 22 L (.int (y 28 4) :: st) (fk_E N y l)) ∧
  (∀ (d : Nat) (a1 a2 a3 : Value) (x : Nat) (st : List Value) (h : fk_H), fk_ev d qX4_allOf 22 [.ref x, a1, a2, a3] st h = fk_ev d qX4_allOf 23 [.ref x, a1, a2, a3] (.ref x :: st) h) ∧
  (∀ (d : Nat) (L st : List Value) (N : Nat) (y : Nat → Nat → Int32) (l : Nat → Nat → Int64), fk_ev d qX4_allOf 23 L (.ref 28 :: st) (fk_E N y l) = fk_ev d qX4_allOf 26 L (.int (y 28 3) :: st) (fk_E N y l)) ∧
  (∀ (d : Nat) (L : List Value) (x y : Int32) (st : List Value) (h : fk_H), fk_ev d qX4_allOf 26 L (.int y :: .int x :: st) h = if y ≤ x then fk_ev d qX4_allOf 60 L st h else fk_ev d qX4_allOf 29 L st h) ∧
  (∀ (d : Nat) (a1 a2 a3 : Value) (x : Nat) (st : List Value) (h : fk_H), fk_ev d qX4_allOf 29 [.ref x, a1, a2, a3] st h = fk_ev d qX4_allOf 30 [.ref x, a1, a2, a3] (.ref x :: st) h) ∧
  (∀ (d : Nat) (L st : List Value) (N : Nat) (y : Nat → Nat → Int32) (l : Nat → Nat → Int64), fk_ev d qX4_allOf 30 L (.ref 28 :: st) (fk_E N y l) = fk_ev d qX4_allOf 33 L (.int (y 28 5) :: st) (fk_E N y l)) ∧
  (∀ (d : Nat) (L st : List Value) (h : fk_H), fk_ev d qX4_allOf 33 L st h = fk_ev d qX4_allOf 35 L (.int (nI 38) :: st) h) ∧
  (∀ (d : Nat) (L : List Value) (x y : Int32) (st : List Value) (h : fk_H), fk_ev d qX4_allOf 35 L (.int y :: .int x :: st) h = if ¬ x = y then fk_ev d qX4_allOf 60 L st h else fk_ev d qX4_allOf 38 L st h) ∧
  (∀ (d : Nat) (a1 a2 a3 : Value) (x : Nat) (st : List Value) (h : fk_H), fk_ev d qX4_allOf 38 [.ref x, a1, a2, a3] st h = fk_ev d qX4_allOf 39 [.ref x, a1, a2, a3] (.ref x :: st) h) ∧
  (∀ (d : Nat) (L : List Value)   (N : Nat) (y : Nat → Nat → Int32) (l : Nat → Nat → Int64), fk_ev (d + 1) qX4_allOf 39 L (.ref 28 :: []) (fk_E N y l) = (fk_ev d qX4_advance 0 [.ref 28] [] (fk_E N y l)).bind fun o => fk_ev (d + 1) qX4_allOf 42 L (o.1.toList ++ []) o.2) ∧
  (∀ (d : Nat) (a1 a2 a3 : Value) (x : Nat) (st : List Value) (h : fk_H), fk_ev d qX4_allOf 42 [.ref x, a1, a2, a3] st h = fk_ev d qX4_allOf 43 [.ref x, a1, a2, a3] (.ref x :: st) h) ∧
  (∀ (d : Nat) (L st : List Value) (N : Nat) (y : Nat → Nat → Int32) (l : Nat → Nat → Int64), fk_ev d qX4_allOf 43 L (.ref 28 :: st) (fk_E N y l) = fk_ev d qX4_allOf 46 L (.ref (y 28 2).toNatClampNeg :: st) (fk_E N y l)) ∧
  (∀ (d : Nat) (L st : List Value) (h : fk_H), fk_ev d qX4_allOf 46 L st h = fk_ev d qX4_allOf 47 L (.int (nI 3) :: st) h) ∧
  (∀ (d : Nat) (L st : List Value) (h : fk_H), fk_ev d qX4_allOf 47 L st h = fk_ev d qX4_allOf 48 L (.int ((-1 : Int32)) :: st) h) ∧
  (∀ (d : Nat) (L : List Value) (x0 : Int32) (x1 : Int32)  (N : Nat) (y : Nat → Nat → Int32) (l : Nat → Nat → Int64) (c : Nat), fk_at c 3 → fk_ev (d + 1) qX4_allOf 48 L (.int x1 :: .int x0 :: .ref c :: []) (fk_E N y l) = (fk_ev d qX3_add 0 [.ref c, .int x0, .int x1] [] (fk_E N y l)).bind fun o => fk_ev (d + 1) qX4_allOf 51 L (o.1.toList ++ []) o.2) ∧
  (∀ (d : Nat) (a1 a2 a3 : Value) (x : Nat) (st : List Value) (h : fk_H), fk_ev d qX4_allOf 51 [.ref x, a1, a2, a3] st h = fk_ev d qX4_allOf 52 [.ref x, a1, a2, a3] (.ref x :: st) h) ∧
  (∀ (d : Nat) (a0 a2 a3 : Value) (x : Int32) (st : List Value) (h : fk_H), fk_ev d qX4_allOf 52 [a0, .int x, a2, a3] st h = fk_ev d qX4_allOf 53 [a0, .int x, a2, a3] (.int x :: st) h) ∧
  (∀ (d : Nat) (L : List Value) (x0 : Int32)  (N : Nat) (y : Nat → Nat → Int32) (l : Nat → Nat → Int64), fk_ev (d + 1) qX4_allOf 53 L (.int x0 :: .ref 28 :: []) (fk_E N y l) = (fk_ev d qX4_piece 0 [.ref 28, .int x0, .null, .null, .null] [] (fk_E N y l)).bind fun o => fk_ev (d + 1) qX4_allOf 56 L (o.1.toList ++ []) o.2) ∧
  (∀ (d : Nat) (a0 a1 a2 a3 : Value) (x : Int32) (st : List Value) (h : fk_H), fk_ev d qX4_allOf 56 [a0, a1, a2, a3] (.int x :: st) h = fk_ev d qX4_allOf 57 [a0, a1, a2, .int x] st h) ∧
  (∀ (d : Nat) (L st : List Value) (h : fk_H), fk_ev d qX4_allOf 57 L st h = fk_ev d qX4_allOf 14 L st h) ∧
  (∀ (d : Nat) (a1 a2 a3 : Value) (x : Nat) (st : List Value) (h : fk_H), fk_ev d qX4_allOf 60 [.ref x, a1, a2, a3] st h = fk_ev d qX4_allOf 61 [.ref x, a1, a2, a3] (.ref x :: st) h) ∧
  (∀ (d : Nat) (a0 a1 a3 : Value) (x : Int32) (st : List Value) (h : fk_H), fk_ev d qX4_allOf 61 [a0, a1, .int x, a3] st h = fk_ev d qX4_allOf 62 [a0, a1, .int x, a3] (.int x :: st) h) ∧
  (∀ (d : Nat) (L st : List Value) (h : fk_H), fk_ev d qX4_allOf 62 L st h = fk_ev d qX4_allOf 63 L (.int (nI 3) :: st) h) ∧
  (∀ (d : Nat) (L : List Value) (x0 : Int32) (x1 : Int32)  (N : Nat) (y : Nat → Nat → Int32) (l : Nat → Nat → Int64), fk_ev (d + 1) qX4_allOf 63 L (.int x1 :: .int x0 :: .ref 28 :: []) (fk_E N y l) = (fk_ev d qX4_land 0 [.ref 28, .int x0, .int x1, .null] [] (fk_E N y l)).bind fun o => fk_ev (d + 1) qX4_allOf 66 L (o.1.toList ++ []) o.2) ∧
  (∀ (d : Nat) (a0 a1 a2 : Value) (x : Int32) (st : List Value) (h : fk_H), fk_ev d qX4_allOf 66 [a0, a1, a2, .int x] st h = fk_ev d qX4_allOf 67 [a0, a1, a2, .int x] (.int x :: st) h) ∧
  (∀ (d : Nat) (L : List Value) (x : Int32) (h : fk_H), fk_ev d qX4_allOf 67 L [.int x] h = some (some (.int x), h)) := ⟨fun d a1 a2 a3 x st h => fk_w_aloadn 0 [.ref x, a1, a2, a3] dX4_allOf_0 rfl,
  fun d L st N y l => fk_g_getM rfl lf_4_29 (by decide) dX4_allOf_1 fk_at_28,
  fun d L st N y l c hc => fk_g_getI rfl lf_4_86 (by decide) dX4_allOf_4 hc,
  fun d a0 a1 a2 a3 x st h => fk_w_istoren 2 4 [] [a0, a1, a2, a3] [a0, a1, .int x, a3] dX4_allOf_7 rfl rfl (by decide) rfl,
  fun d a1 a2 a3 x st h => fk_w_aloadn 0 [.ref x, a1, a2, a3] dX4_allOf_8 rfl,
  fun d a0 a2 a3 x st h => fk_w_iloadn 1 [a0, .int x, a2, a3] dX4_allOf_9 rfl,
  fun d L x0 N y l  => fk_g_call [.int x0] [] rfl lm_4_117 dX4_allOf_10 rfl ⟨rfl, by decide⟩ (by simp) fk_at_28,
  fun d a0 a1 a2 a3 x st h => fk_w_istoren 3 4 [] [a0, a1, a2, a3] [a0, a1, a2, .int x] dX4_allOf_13 rfl rfl (by decide) rfl,
  fun d L x st h => fk_r_if_ne dX4_allOf_15 (by decide),
  fun d a1 a2 a3 x st h => fk_w_aloadn 0 [.ref x, a1, a2, a3] dX4_allOf_18 rfl,
  fun d L st N y l => fk_g_getI rfl lf_4_19 (by decide) dX4_allOf_19 fk_at_28,
  fun d a1 a2 a3 x st h => fk_w_aloadn 0 [.ref x, a1, a2, a3] dX4_allOf_22 rfl,
  fun d L st N y l => fk_g_getI rfl lf_4_15 (by decide) dX4_allOf_23 fk_at_28,
  fun d L x y st h => fk_r_icmp_ge dX4_allOf_26 (by decide),
  fun d a1 a2 a3 x st h => fk_w_aloadn 0 [.ref x, a1, a2, a3] dX4_allOf_29 rfl,
  fun d L st N y l => fk_g_getI rfl lf_4_22 (by decide) dX4_allOf_30 fk_at_28,
  fun d L st h => fk_w_bipush dX4_allOf_33 (by decide),
  fun d L x y st h => fk_r_icmp_ne dX4_allOf_35 (by decide),
  fun d a1 a2 a3 x st h => fk_w_aloadn 0 [.ref x, a1, a2, a3] dX4_allOf_38 rfl,
  fun d L  N y l  => fk_g_call [] [] rfl lm_4_68 dX4_allOf_39 rfl ⟨rfl, by decide⟩ (by simp) fk_at_28,
  fun d a1 a2 a3 x st h => fk_w_aloadn 0 [.ref x, a1, a2, a3] dX4_allOf_42 rfl,
  fun d L st N y l => fk_g_getM rfl lf_4_29 (by decide) dX4_allOf_43 fk_at_28,
  fun d L st h => fk_w_iconst dX4_allOf_46 (by decide),
  fun d L st h => fk_w_iconst dX4_allOf_47 (by decide),
  fun d L x0 x1 N y l c hc => fk_g_call [.int x0, .int x1] [] rfl lm_4_89 dX4_allOf_48 rfl ⟨rfl, by decide⟩ (by simp) hc,
  fun d a1 a2 a3 x st h => fk_w_aloadn 0 [.ref x, a1, a2, a3] dX4_allOf_51 rfl,
  fun d a0 a2 a3 x st h => fk_w_iloadn 1 [a0, .int x, a2, a3] dX4_allOf_52 rfl,
  fun d L x0 N y l  => fk_g_call [.int x0] [] rfl lm_4_117 dX4_allOf_53 rfl ⟨rfl, by decide⟩ (by simp) fk_at_28,
  fun d a0 a1 a2 a3 x st h => fk_w_istoren 3 4 [] [a0, a1, a2, a3] [a0, a1, a2, .int x] dX4_allOf_56 rfl rfl (by decide) rfl,
  fun d L st h => fk_r_goto dX4_allOf_57 (by decide),
  fun d a1 a2 a3 x st h => fk_w_aloadn 0 [.ref x, a1, a2, a3] dX4_allOf_60 rfl,
  fun d a0 a1 a3 x st h => fk_w_iloadn 2 [a0, a1, .int x, a3] dX4_allOf_61 rfl,
  fun d L st h => fk_w_iconst dX4_allOf_62 (by decide),
  fun d L x0 x1 N y l  => fk_g_call [.int x0, .int x1] [] rfl lm_4_114 dX4_allOf_63 rfl ⟨rfl, by decide⟩ (by simp) fk_at_28,
  fun d a0 a1 a2 x st h => fk_w_iloadn 3 [a0, a1, a2, .int x] dX4_allOf_66 rfl,
  fun d L x h => fk_r_ret dX4_allOf_67 (Or.inl rfl)⟩
theorem hX4_allOf_14 : ∀ (d : Nat) (a0 a1 a2 : Value) (x : Int32) (st : List Value) (h : fk_H), fk_ev d qX4_allOf 14 [a0, a1, a2, .int x] st h = fk_ev d qX4_allOf 15 [a0, a1, a2, .int x] (.int x :: st) h := fun d a0 a1 a2 x st h => fk_w_iloadn 3 [a0, a1, a2, .int x] dX4_allOf_14 rfl
theorem dX4_piece_0 : decode cX4_piece 0 = .ok (.aload_n 0, 1) := by decide +kernel
theorem dX4_piece_1 : decode cX4_piece 1 = .ok (.getfield 22, 3) := by decide +kernel
theorem dX4_piece_4 : decode cX4_piece 4 = .ok (.bipush 33, 2) := by decide +kernel
theorem dX4_piece_6 : decode cX4_piece 6 = .ok (.if_icmp .ne 7, 3) := by decide +kernel
theorem dX4_piece_9 : decode cX4_piece 9 = .ok (.iconst 1, 1) := by decide +kernel
theorem dX4_piece_10 : decode cX4_piece 10 = .ok (.goto 4, 3) := by decide +kernel
theorem dX4_piece_13 : decode cX4_piece 13 = .ok (.iconst 0, 1) := by decide +kernel
theorem dX4_piece_14 : decode cX4_piece 14 = .ok (.istore_n 2, 1) := by decide +kernel
theorem dX4_piece_15 : decode cX4_piece 15 = .ok (.iload_n 2, 1) := by decide +kernel
theorem dX4_piece_16 : decode cX4_piece 16 = .ok (.ifCond .ne 12, 3) := by decide +kernel
theorem dX4_piece_19 : decode cX4_piece 19 = .ok (.aload_n 0, 1) := by decide +kernel
theorem dX4_piece_20 : decode cX4_piece 20 = .ok (.getfield 22, 3) := by decide +kernel
theorem dX4_piece_23 : decode cX4_piece 23 = .ok (.bipush 40, 2) := by decide +kernel
theorem dX4_piece_25 : decode cX4_piece 25 = .ok (.if_icmp .ne 74, 3) := by decide +kernel
theorem dX4_piece_28 : decode cX4_piece 28 = .ok (.iload_n 1, 1) := by decide +kernel
theorem dX4_piece_29 : decode cX4_piece 29 = .ok (.bipush 6, 2) := by decide +kernel
theorem dX4_piece_31 : decode cX4_piece 31 = .ok (.if_icmp .lt 12, 3) := by decide +kernel
theorem dX4_piece_34 : decode cX4_piece 34 = .ok (.iconst 5, 1) := by decide +kernel
theorem dX4_piece_35 : decode cX4_piece 35 = .ok (.aload_n 0, 1) := by decide +kernel
theorem dX4_piece_36 : decode cX4_piece 36 = .ok (.getfield 19, 3) := by decide +kernel
theorem dX4_piece_39 : decode cX4_piece 39 = .ok (.invokestatic 60, 3) := by decide +kernel
theorem dX4_piece_42 : decode cX4_piece 42 = .ok (.ireturn, 1) := by decide +kernel
theorem dX4_piece_43 : decode cX4_piece 43 = .ok (.aload_n 0, 1) := by decide +kernel
theorem dX4_piece_44 : decode cX4_piece 44 = .ok (.invokevirtual 68, 3) := by decide +kernel
theorem dX4_piece_47 : decode cX4_piece 47 = .ok (.iload_n 2, 1) := by decide +kernel
theorem dX4_piece_48 : decode cX4_piece 48 = .ok (.ifCond .eq 13, 3) := by decide +kernel
theorem dX4_piece_51 : decode cX4_piece 51 = .ok (.aload_n 0, 1) := by decide +kernel
theorem dX4_piece_52 : decode cX4_piece 52 = .ok (.iload_n 1, 1) := by decide +kernel
theorem dX4_piece_53 : decode cX4_piece 53 = .ok (.iconst 1, 1) := by decide +kernel
theorem dX4_piece_54 : decode cX4_piece 54 = .ok (.iadd, 1) := by decide +kernel
theorem dX4_piece_55 : decode cX4_piece 55 = .ok (.invokevirtual 117, 3) := by decide +kernel
theorem dX4_piece_58 : decode cX4_piece 58 = .ok (.goto 10, 3) := by decide +kernel
theorem dX4_piece_61 : decode cX4_piece 61 = .ok (.aload_n 0, 1) := by decide +kernel
theorem dX4_piece_62 : decode cX4_piece 62 = .ok (.iload_n 1, 1) := by decide +kernel
theorem dX4_piece_63 : decode cX4_piece 63 = .ok (.iconst 1, 1) := by decide +kernel
theorem dX4_piece_64 : decode cX4_piece 64 = .ok (.iadd, 1) := by decide +kernel
theorem dX4_piece_65 : decode cX4_piece 65 = .ok (.invokevirtual 99, 3) := by decide +kernel
theorem dX4_piece_68 : decode cX4_piece 68 = .ok (.istore_n 3, 1) := by decide +kernel
theorem dX4_piece_69 : decode cX4_piece 69 = .ok (.iload_n 2, 1) := by decide +kernel
theorem dX4_piece_70 : decode cX4_piece 70 = .ok (.ifCond .eq 14, 3) := by decide +kernel
theorem dX4_piece_73 : decode cX4_piece 73 = .ok (.aload_n 0, 1) := by decide +kernel
theorem dX4_piece_74 : decode cX4_piece 74 = .ok (.getfield 29, 3) := by decide +kernel
theorem dX4_piece_77 : decode cX4_piece 77 = .ok (.iconst 2, 1) := by decide +kernel
theorem dX4_piece_78 : decode cX4_piece 78 = .ok (.iconst 0, 1) := by decide +kernel
theorem dX4_piece_79 : decode cX4_piece 79 = .ok (.invokevirtual 89, 3) := by decide +kernel
theorem dX4_piece_82 : decode cX4_piece 82 = .ok (.iload_n 3, 1) := by decide +kernel
theorem dX4_piece_83 : decode cX4_piece 83 = .ok (.ireturn, 1) := by decide +kernel
theorem dX4_piece_84 : decode cX4_piece 84 = .ok (.iload_n 3, 1) := by decide +kernel
theorem dX4_piece_85 : decode cX4_piece 85 = .ok (.ifCond .eq 7, 3) := by decide +kernel
theorem dX4_piece_88 : decode cX4_piece 88 = .ok (.iload_n 3, 1) := by decide +kernel
theorem dX4_piece_89 : decode cX4_piece 89 = .ok (.goto 9, 3) := by decide +kernel
theorem dX4_piece_92 : decode cX4_piece 92 = .ok (.aload_n 0, 1) := by decide +kernel
theorem dX4_piece_93 : decode cX4_piece 93 = .ok (.bipush 41, 2) := by decide +kernel
theorem dX4_piece_95 : decode cX4_piece 95 = .ok (.invokevirtual 57, 3) := by decide +kernel
theorem dX4_piece_98 : decode cX4_piece 98 = .ok (.ireturn, 1) := by decide +kernel
theorem dX4_piece_99 : decode cX4_piece 99 = .ok (.aload_n 0, 1) := by decide +kernel
theorem dX4_piece_100 : decode cX4_piece 100 = .ok (.iload_n 1, 1) := by decide +kernel
theorem dX4_piece_101 : decode cX4_piece 101 = .ok (.invokevirtual 93, 3) := by decide +kernel
theorem dX4_piece_104 : decode cX4_piece 104 = .ok (.istore_n 3, 1) := by decide +kernel
theorem dX4_piece_105 : decode cX4_piece 105 = .ok (.iload_n 3, 1) := by decide +kernel
theorem dX4_piece_106 : decode cX4_piece 106 = .ok (.ifCond .eq 5, 3) := by decide +kernel
theorem dX4_piece_109 : decode cX4_piece 109 = .ok (.iload_n 3, 1) := by decide +kernel
theorem dX4_piece_110 : decode cX4_piece 110 = .ok (.ireturn, 1) := by decide +kernel
theorem dX4_piece_111 : decode cX4_piece 111 = .ok (.aload_n 0, 1) := by decide +kernel
theorem dX4_piece_112 : decode cX4_piece 112 = .ok (.ldc 120, 2) := by decide +kernel
theorem dX4_piece_114 : decode cX4_piece 114 = .ok (.invokevirtual 73, 3) := by decide +kernel
theorem dX4_piece_117 : decode cX4_piece 117 = .ok (.ifCond .ne 12, 3) := by decide +kernel
theorem dX4_piece_120 : decode cX4_piece 120 = .ok (.iconst 1, 1) := by decide +kernel
theorem dX4_piece_121 : decode cX4_piece 121 = .ok (.aload_n 0, 1) := by decide +kernel
theorem dX4_piece_122 : decode cX4_piece 122 = .ok (.getfield 19, 3) := by decide +kernel
theorem dX4_piece_125 : decode cX4_piece 125 = .ok (.invokestatic 60, 3) := by decide +kernel
theorem dX4_piece_128 : decode cX4_piece 128 = .ok (.ireturn, 1) := by decide +kernel
theorem dX4_piece_129 : decode cX4_piece 129 = .ok (.aload_n 0, 1) := by decide +kernel
theorem dX4_piece_130 : decode cX4_piece 130 = .ok (.getfield 22, 3) := by decide +kernel
theorem dX4_piece_133 : decode cX4_piece 133 = .ok (.istore 4, 2) := by decide +kernel
theorem dX4_piece_135 : decode cX4_piece 135 = .ok (.aload_n 0, 1) := by decide +kernel
theorem dX4_piece_136 : decode cX4_piece 136 = .ok (.invokevirtual 68, 3) := by decide +kernel
theorem dX4_piece_139 : decode cX4_piece 139 = .ok (.aload_n 0, 1) := by decide +kernel
theorem dX4_piece_140 : decode cX4_piece 140 = .ok (.iload_n 1, 1) := by decide +kernel
theorem dX4_piece_141 : decode cX4_piece 141 = .ok (.invokevirtual 93, 3) := by decide +kernel
theorem dX4_piece_144 : decode cX4_piece 144 = .ok (.istore_n 3, 1) := by decide +kernel
theorem dX4_piece_145 : decode cX4_piece 145 = .ok (.aload_n 0, 1) := by decide +kernel
theorem dX4_piece_146 : decode cX4_piece 146 = .ok (.getfield 29, 3) := by decide +kernel
theorem dX4_piece_149 : decode cX4_piece 149 = .ok (.iload 4, 2) := by decide +kernel
theorem dX4_piece_151 : decode cX4_piece 151 = .ok (.iconst 0, 1) := by decide +kernel
theorem dX4_piece_152 : decode cX4_piece 152 = .ok (.invokevirtual 89, 3) := by decide +kernel
theorem dX4_piece_155 : decode cX4_piece 155 = .ok (.iload_n 3, 1) := by decide +kernel
theorem dX4_piece_156 : decode cX4_piece 156 = .ok (.ireturn, 1) := by decide +kernel
theorem rX4_piece : (∀ (d : Nat) (a1 a2 a3 a4 : Value) (x : Nat) (st : List Value) (h : fk_H), fk_ev d qX4_piece 0 [.ref x, a1, a2, a3, a4] st h = fk_ev d qX4_piece 1 [.ref x, a1, a2, a3, a4] (.ref x :: st) h) ∧
  (∀ (d : Nat) (L st : List Value) (N : Nat) (y : Nat → Nat → Int32) (l : Nat → Nat → Int64), fk_ev d qX4_piece 1 L (.ref 28 :: st) (fk_E N y l) = fk_ev d qX4_piece 4 L (.int (y 28 5) :: st) (fk_E N y l)) ∧
  (∀ (d : Nat) (L st : List Value) (h : fk_H), fk_ev d qX4_piece 4 L st h = fk_ev d qX4_piece 6 L (.int (nI 33) :: st) h) ∧
  (∀ (d : Nat) (L : List Value) (x y : Int32) (st : List Value) (h : fk_H), fk_ev d qX4_piece 6 L (.int y :: .int x :: st) h = if ¬ x = y then fk_ev d qX4_piece 13 L st h else fk_ev d qX4_piece 9 L st h) ∧
  (∀ (d : Nat) (L st : List Value) (h : fk_H), fk_ev d qX4_piece 9 L st h = fk_ev d qX4_piece 10 L (.int (nI 1) :: st) h) ∧
  (∀ (d : Nat) (L st : List Value) (h : fk_H), fk_ev d qX4_piece 10 L st h = fk_ev d qX4_piece 14 L st h) ∧
  (∀ (d : Nat) (L st : List Value) (h : fk_H), fk_ev d qX4_piece 13 L st h = fk_ev d qX4_piece 14 L (.int (nI 0) :: st) h) ∧
  (∀ (d : Nat) (a0 a1 a2 a3 a4 : Value) (x : Int32) (st : List Value) (h : fk_H), fk_ev d qX4_piece 14 [a0, a1, a2, a3, a4] (.int x :: st) h = fk_ev d qX4_piece 15 [a0, a1, .int x, a3, a4] st h) ∧
  (∀ (d : Nat) (a0 a1 a3 a4 : Value) (x : Int32) (st : List Value) (h : fk_H), fk_ev d qX4_piece 15 [a0, a1, .int x, a3, a4] st h = fk_ev d qX4_piece 16 [a0, a1, .int x, a3, a4] (.int x :: st) h) ∧
  (∀ (d : Nat) (L : List Value) (x : Int32) (st : List Value) (h : fk_H), fk_ev d qX4_piece 16 L (.int x :: st) h = if ¬ x = nI 0 then fk_ev d qX4_piece 28 L st h else fk_ev d qX4_piece 19 L st h) ∧
  (∀ (d : Nat) (a1 a2 a3 a4 : Value) (x : Nat) (st : List Value) (h : fk_H), fk_ev d qX4_piece 19 [.ref x, a1, a2, a3, a4] st h = fk_ev d qX4_piece 20 [.ref x, a1, a2, a3, a4] (.ref x :: st) h) ∧
  (∀ (d : Nat) (L st : List Value) (N : Nat) (y : Nat → Nat → Int32) (l : Nat → Nat → Int64), fk_ev d qX4_piece 20 L (.ref 28 :: st) (fk_E N y l) = fk_ev d qX4_piece 23 L (.int (y 28 5) :: st) (fk_E N y l)) ∧
  (∀ (d : Nat) (L st : List Value) (h : fk_H), fk_ev d qX4_piece 23 L st h = fk_ev d qX4_piece 25 L (.int (nI 40) :: st) h) ∧
  (∀ (d : Nat) (L : List Value) (x y : Int32) (st : List Value) (h : fk_H), fk_ev d qX4_piece 25 L (.int y :: .int x :: st) h = if ¬ x = y then fk_ev d qX4_piece 99 L st h else fk_ev d qX4_piece 28 L st h) ∧
  (∀ (d : Nat) (a0 a2 a3 a4 : Value) (x : Int32) (st : List Value) (h : fk_H), fk_ev d qX4_piece 28 [a0, .int x, a2, a3, a4] st h = fk_ev d qX4_piece 29 [a0, .int x, a2, a3, a4] (.int x :: st) h) ∧
  (∀ (d : Nat) (L st : List Value) (h : fk_H), fk_ev d qX4_piece 29 L st h = fk_ev d qX4_piece 31 L (.int (nI 6) :: st) h) ∧
  (∀ (d : Nat) (L : List Value) (x y : Int32) (st : List Value) (h : fk_H), fk_ev d qX4_piece 31 L (.int y :: .int x :: st) h = if x < y then fk_ev d qX4_piece 43 L st h else fk_ev d qX4_piece 34 L st h) ∧
  (∀ (d : Nat) (L st : List Value) (h : fk_H), fk_ev d qX4_piece 34 L st h = fk_ev d qX4_piece 35 L (.int (nI 5) :: st) h) ∧
  (∀ (d : Nat) (a1 a2 a3 a4 : Value) (x : Nat) (st : List Value) (h : fk_H), fk_ev d qX4_piece 35 [.ref x, a1, a2, a3, a4] st h = fk_ev d qX4_piece 36 [.ref x, a1, a2, a3, a4] (.ref x :: st) h) ∧
  (∀ (d : Nat) (L st : List Value) (N : Nat) (y : Nat → Nat → Int32) (l : Nat → Nat → Int64), fk_ev d qX4_piece 36 L (.ref 28 :: st) (fk_E N y l) = fk_ev d qX4_piece 39 L (.int (y 28 4) :: st) (fk_E N y l)) ∧
  (∀ (d : Nat) (L : List Value) (x0 : Int32) (x1 : Int32)  (h : fk_H), fk_ev (d + 1) qX4_piece 39 L (.int x1 :: .int x0 :: []) h = (fk_ev d qX11_faultAt 0 [.int x0, .int x1] [] h).bind fun o => fk_ev (d + 1) qX4_piece 42 L (o.1.toList ++ []) o.2) ∧
  (∀ (d : Nat) (L : List Value) (x : Int32) (h : fk_H), fk_ev d qX4_piece 42 L [.int x] h = some (some (.int x), h)) ∧
  (∀ (d : Nat) (a1 a2 a3 a4 : Value) (x : Nat) (st : List Value) (h : fk_H), fk_ev d qX4_piece 43 [.ref x, a1, a2, a3, a4] st h = fk_ev d qX4_piece 44 [.ref x, a1, a2, a3, a4] (.ref x :: st) h) ∧
  (∀ (d : Nat) (L : List Value)   (N : Nat) (y : Nat → Nat → Int32) (l : Nat → Nat → Int64), fk_ev (d + 1) qX4_piece 44 L (.ref 28 :: []) (fk_E N y l) = (fk_ev d qX4_advance 0 [.ref 28] [] (fk_E N y l)).bind fun o => fk_ev (d + 1) qX4_piece 47 L (o.1.toList ++ []) o.2) ∧
  (∀ (d : Nat) (a0 a1 a3 a4 : Value) (x : Int32) (st : List Value) (h : fk_H), fk_ev d qX4_piece 47 [a0, a1, .int x, a3, a4] st h = fk_ev d qX4_piece 48 [a0, a1, .int x, a3, a4] (.int x :: st) h) ∧
  (∀ (d : Nat) (L : List Value) (x : Int32) (st : List Value) (h : fk_H), fk_ev d qX4_piece 48 L (.int x :: st) h = if x = nI 0 then fk_ev d qX4_piece 61 L st h else fk_ev d qX4_piece 51 L st h) ∧
  (∀ (d : Nat) (a1 a2 a3 a4 : Value) (x : Nat) (st : List Value) (h : fk_H), fk_ev d qX4_piece 51 [.ref x, a1, a2, a3, a4] st h = fk_ev d qX4_piece 52 [.ref x, a1, a2, a3, a4] (.ref x :: st) h) ∧
  (∀ (d : Nat) (a0 a2 a3 a4 : Value) (x : Int32) (st : List Value) (h : fk_H), fk_ev d qX4_piece 52 [a0, .int x, a2, a3, a4] st h = fk_ev d qX4_piece 53 [a0, .int x, a2, a3, a4] (.int x :: st) h) ∧
  (∀ (d : Nat) (L st : List Value) (h : fk_H), fk_ev d qX4_piece 53 L st h = fk_ev d qX4_piece 54 L (.int (nI 1) :: st) h) ∧
  (∀ (d : Nat) (L : List Value) (x y : Int32) (st : List Value) (h : fk_H), fk_ev d qX4_piece 54 L (.int y :: .int x :: st) h = fk_ev d qX4_piece 55 L (.int (x + y) :: st) h) ∧
  (∀ (d : Nat) (L : List Value) (x0 : Int32)  (N : Nat) (y : Nat → Nat → Int32) (l : Nat → Nat → Int64), fk_ev (d + 1) qX4_piece 55 L (.int x0 :: .ref 28 :: []) (fk_E N y l) = (fk_ev d qX4_piece 0 [.ref 28, .int x0, .null, .null, .null] [] (fk_E N y l)).bind fun o => fk_ev (d + 1) qX4_piece 58 L (o.1.toList ++ []) o.2) ∧
  (∀ (d : Nat) (L st : List Value) (h : fk_H), fk_ev d qX4_piece 58 L st h = fk_ev d qX4_piece 68 L st h) ∧
  (∀ (d : Nat) (a1 a2 a3 a4 : Value) (x : Nat) (st : List Value) (h : fk_H), fk_ev d qX4_piece 61 [.ref x, a1, a2, a3, a4] st h = fk_ev d qX4_piece 62 [.ref x, a1, a2, a3, a4] (.ref x :: st) h) ∧
  (∀ (d : Nat) (a0 a2 a3 a4 : Value) (x : Int32) (st : List Value) (h : fk_H), fk_ev d qX4_piece 62 [a0, .int x, a2, a3, a4] st h = fk_ev d qX4_piece 63 [a0, .int x, a2, a3, a4] (.int x :: st) h) ∧
  (∀ (d : Nat) (L st : List Value) (h : fk_H), fk_ev d qX4_piece 63 L st h = fk_ev d qX4_piece 64 L (.int (nI 1) :: st) h) ∧
  (∀ (d : Nat) (L : List Value) (x y : Int32) (st : List Value) (h : fk_H), fk_ev d qX4_piece 64 L (.int y :: .int x :: st) h = fk_ev d qX4_piece 65 L (.int (x + y) :: st) h) ∧
  (∀ (d : Nat) (L : List Value) (x0 : Int32)  (N : Nat) (y : Nat → Nat → Int32) (l : Nat → Nat → Int64), fk_ev (d + 1) qX4_piece 65 L (.int x0 :: .ref 28 :: []) (fk_E N y l) = (fk_ev d qX4_anyOf 0 [.ref 28, .int x0, .null, .null] [] (fk_E N y l)).bind fun o => fk_ev (d + 1) qX4_piece 68 L (o.1.toList ++ []) o.2) ∧
  (∀ (d : Nat) (a0 a1 a2 a3 a4 : Value) (x : Int32) (st : List Value) (h : fk_H), fk_ev d qX4_piece 68 [a0, a1, a2, a3, a4] (.int x :: st) h = fk_ev d qX4_piece 69 [a0, a1, a2, .int x, a4] st h) ∧
  (∀ (d : Nat) (a0 a1 a3 a4 : Value) (x : Int32) (st : List Value) (h : fk_H), fk_ev d qX4_piece 69 [a0, a1, .int x, a3, a4] st h = fk_ev d qX4_piece 70 [a0, a1, .int x, a3, a4] (.int x :: st) h) ∧
  (∀ (d : Nat) (L : List Value) (x : Int32) (st : List Value) (h : fk_H), fk_ev d qX4_piece 70 L (.int x :: st) h = if x = nI 0 then fk_ev d qX4_piece 84 L st h else fk_ev d qX4_piece 73 L st h) ∧
  (∀ (d : Nat) (a1 a2 a3 a4 : Value) (x : Nat) (st : List Value) (h : fk_H), fk_ev d qX4_piece 73 [.ref x, a1, a2, a3, a4] st h = fk_ev d qX4_piece 74 [.ref x, a1, a2, a3, a4] (.ref x :: st) h) ∧
  (∀ (d : Nat) (L st : List Value) (N : Nat) (y : Nat → Nat → Int32) (l : Nat → Nat → Int64), fk_ev d qX4_piece 74 L (.ref 28 :: st) (fk_E N y l) = fk_ev d qX4_piece 77 L (.ref (y 28 2).toNatClampNeg :: st) (fk_E N y l)) ∧
  (∀ (d : Nat) (L st : List Value) (h : fk_H), fk_ev d qX4_piece 77 L st h = fk_ev d qX4_piece 78 L (.int (nI 2) :: st) h) ∧
  (∀ (d : Nat) (L st : List Value) (h : fk_H), fk_ev d qX4_piece 78 L st h = fk_ev d qX4_piece 79 L (.int (nI 0) :: st) h) ∧
  (∀ (d : Nat) (L : List Value) (x0 : Int32) (x1 : Int32)  (N : Nat) (y : Nat → Nat → Int32) (l : Nat → Nat → Int64) (c : Nat), fk_at c 3 → fk_ev (d + 1) qX4_piece 79 L (.int x1 :: .int x0 :: .ref c :: []) (fk_E N y l) = (fk_ev d qX3_add 0 [.ref c, .int x0, .int x1] [] (fk_E N y l)).bind fun o => fk_ev (d + 1) qX4_piece 82 L (o.1.toList ++ []) o.2) ∧
  (∀ (d : Nat) (a0 a1 a2 a4 : Value) (x : Int32) (st : List Value) (h : fk_H), fk_ev d qX4_piece 82 [a0, a1, a2, .int x, a4] st h = fk_ev d qX4_piece 83 [a0, a1, a2, .int x, a4] (.int x :: st) h) ∧
  (∀ (d : Nat) (L : List Value) (x : Int32) (h : fk_H), fk_ev d qX4_piece 83 L [.int x] h = some (some (.int x), h)) ∧
  (∀ (d : Nat) (a0 a1 a2 a4 : Value) (x : Int32) (st : List Value) (h : fk_H), fk_ev d qX4_piece 84 [a0, a1, a2, .int x, a4] st h = fk_ev d qX4_piece 85 [a0, a1, a2, .int x, a4] (.int x :: st) h) ∧
  (∀ (d : Nat) (L : List Value) (x : Int32) (st : List Value) (h : fk_H), fk_ev d qX4_piece 85 L (.int x :: st) h = if x = nI 0 then fk_ev d qX4_piece 92 L st h else fk_ev d qX4_piece 88 L st h) ∧
  (∀ (d : Nat) (a0 a1 a2 a4 : Value) (x : Int32) (st : List Value) (h : fk_H), fk_ev d qX4_piece 88 [a0, a1, a2, .int x, a4] st h = fk_ev d qX4_piece 89 [a0, a1, a2, .int x, a4] (.int x :: st) h) ∧
  (∀ (d : Nat) (L st : List Value) (h : fk_H), fk_ev d qX4_piece 89 L st h = fk_ev d qX4_piece 98 L st h) ∧
  (∀ (d : Nat) (a1 a2 a3 a4 : Value) (x : Nat) (st : List Value) (h : fk_H), fk_ev d qX4_piece 92 [.ref x, a1, a2, a3, a4] st h = fk_ev d qX4_piece 93 [.ref x, a1, a2, a3, a4] (.ref x :: st) h) ∧
  (∀ (d : Nat) (L st : List Value) (h : fk_H), fk_ev d qX4_piece 93 L st h = fk_ev d qX4_piece 95 L (.int (nI 41) :: st) h) ∧
  (∀ (d : Nat) (L : List Value) (x0 : Int32)  (N : Nat) (y : Nat → Nat → Int32) (l : Nat → Nat → Int64), fk_ev (d + 1) qX4_piece 95 L (.int x0 :: .ref 28 :: []) (fk_E N y l) = (fk_ev d qX4_sign 0 [.ref 28, .int x0] [] (fk_E N y l)).bind fun o => fk_ev (d + 1) qX4_piece 98 L (o.1.toList ++ []) o.2) ∧
  (∀ (d : Nat) (L : List Value) (x : Int32) (h : fk_H), fk_ev d qX4_piece 98 L [.int x] h = some (some (.int x), h)) ∧
  (∀ (d : Nat) (a1 a2 a3 a4 : Value) (x : Nat) (st : List Value) (h : fk_H), fk_ev d qX4_piece 99 [.ref x, a1, a2, a3, a4] st h = fk_ev d qX4_piece 100 [.ref x, a1, a2, a3, a4] (.ref x :: st) h) ∧
  (∀ (d : Nat) (a0 a2 a3 a4 : Value) (x : Int32) (st : List Value) (h : fk_H), fk_ev d qX4_piece 100 [a0, .int x, a2, a3, a4] st h = fk_ev d qX4_piece 101 [a0, .int x, a2, a3, a4] (.int x :: st) h) ∧
  (∀ (d : Nat) (L : List Value) (x0 : Int32)  (N : Nat) (y : Nat → Nat → Int32) (l : Nat → Nat → Int64), fk_ev (d + 1) qX4_piece 101 L (.int x0 :: .ref 28 :: []) (fk_E N y l) = (fk_ev d qX4_sum 0 [.ref 28, .int x0, .null, .null] [] (fk_E N y l)).bind fun o => fk_ev (d + 1) qX4_piece 104 L (o.1.toList ++ []) o.2) ∧
  (∀ (d : Nat) (a0 a1 a2 a3 a4 : Value) (x : Int32) (st : List Value) (h : fk_H), fk_ev d qX4_piece 104 [a0, a1, a2, a3, a4] (.int x :: st) h = fk_ev d qX4_piece 105 [a0, a1, a2, .int x, a4] st h) ∧
  (∀ (d : Nat) (a0 a1 a2 a4 : Value) (x : Int32) (st : List Value) (h : fk_H), fk_ev d qX4_piece 105 [a0, a1, a2, .int x, a4] st h = fk_ev d qX4_piece 106 [a0, a1, a2, .int x, a4] (.int x :: st) h) ∧
  (∀ (d : Nat) (L : List Value) (x : Int32) (st : List Value) (h : fk_H), fk_ev d qX4_piece 106 L (.int x :: st) h = if x = nI 0 then fk_ev d qX4_piece 111 L st h else fk_ev d qX4_piece 109 L st h) ∧
  (∀ (d : Nat) (a0 a1 a2 a4 : Value) (x : Int32) (st : List Value) (h : fk_H), fk_ev d qX4_piece 109 [a0, a1, a2, .int x, a4] st h = fk_ev d qX4_piece 110 [a0, a1, a2, .int x, a4] (.int x :: st) h) ∧
  (∀ (d : Nat) (L : List Value) (x : Int32) (h : fk_H), fk_ev d qX4_piece 110 L [.int x] h = some (some (.int x), h)) ∧
  (∀ (d : Nat) (a1 a2 a3 a4 : Value) (x : Nat) (st : List Value) (h : fk_H), fk_ev d qX4_piece 111 [.ref x, a1, a2, a3, a4] st h = fk_ev d qX4_piece 112 [.ref x, a1, a2, a3, a4] (.ref x :: st) h) ∧
  (∀ (d : Nat) (L : List Value) (x0 : Nat)  (N : Nat) (y : Nat → Nat → Int32) (l : Nat → Nat → Int64), fk_ev (d + 1) qX4_piece 114 L (.ref x0 :: .ref 28 :: []) (fk_E N y l) = (fk_ev d qX4_isOneOf 0 [.ref 28, .ref x0] [] (fk_E N y l)).bind fun o => fk_ev (d + 1) qX4_piece 117 L (o.1.toList ++ []) o.2) ∧
  (∀ (d : Nat) (L : List Value) (x : Int32) (st : List Value) (h : fk_H), fk_ev d qX4_piece 117 L (.int x :: st) h = if ¬ x = nI 0 then fk_ev d qX4_piece 129 L st h else fk_ev d qX4_piece 120 L st h) ∧
  (∀ (d : Nat) (L st : List Value) (h : fk_H), fk_ev d qX4_piece 120 L st h = fk_ev d qX4_piece 121 L (.int (nI 1) :: st) h) ∧
  (∀ (d : Nat) (a1 a2 a3 a4 : Value) (x : Nat) (st : List Value) (h : fk_H), fk_ev d qX4_piece 121 [.ref x, a1, a2, a3, a4] st h = fk_ev d qX4_piece 122 [.ref x, a1, a2, a3, a4] (.ref x :: st) h) ∧
  (∀ (d : Nat) (L st : List Value) (N : Nat) (y : Nat → Nat → Int32) (l : Nat → Nat → Int64), fk_ev d qX4_piece 122 L (.ref 28 :: st) (fk_E N y l) = fk_ev d qX4_piece 125 L (.int (y 28 4) :: st) (fk_E N y l)) ∧
  (∀ (d : Nat) (L : List Value) (x0 : Int32) (x1 : Int32)  (h : fk_H), fk_ev (d + 1) qX4_piece 125 L (.int x1 :: .int x0 :: []) h = (fk_ev d qX11_faultAt 0 [.int x0, .int x1] [] h).bind fun o => fk_ev (d + 1) qX4_piece 128 L (o.1.toList ++ []) o.2) ∧
  (∀ (d : Nat) (L : List Value) (x : Int32) (h : fk_H), fk_ev d qX4_piece 128 L [.int x] h = some (some (.int x), h)) ∧
  (∀ (d : Nat) (a1 a2 a3 a4 : Value) (x : Nat) (st : List Value) (h : fk_H), fk_ev d qX4_piece 129 [.ref x, a1, a2, a3, a4] st h = fk_ev d qX4_piece 130 [.ref x, a1, a2, a3, a4] (.ref x :: st) h) ∧
  (∀ (d : Nat) (L st : List Value) (N : Nat) (y : Nat → Nat → Int32) (l : Nat → Nat → Int64), fk_ev d qX4_piece 130 L (.ref 28 :: st) (fk_E N y l) = fk_ev d qX4_piece 133 L (.int (y 28 5) :: st) (fk_E N y l)) ∧
  (∀ (d : Nat) (a0 a1 a2 a3 a4 : Value) (x : Int32) (st : List Value) (h : fk_H), fk_ev d qX4_piece 133 [a0, a1, a2, a3, a4] (.int x :: st) h = fk_ev d qX4_piece 135 [a0, a1, a2, a3, .int x] st h) ∧
  (∀ (d : Nat) (a1 a2 a3 a4 : Value) (x : Nat) (st : List Value) (h : fk_H), fk_ev d qX4_piece 135 [.ref x, a1, a2, a3, a4] st h = fk_ev d qX4_piece 136 [.ref x, a1, a2, a3, a4] (.ref x :: st) h) ∧
  (∀ (d : Nat) (L : List Value)   (N : Nat) (y : Nat → Nat → Int32) (l : Nat → Nat → Int64), fk_ev (d + 1) qX4_piece 136 L (.ref 28 :: []) (fk_E N y l) = (fk_ev d qX4_advance 0 [.ref 28] [] (fk_E N y l)).bind fun o => fk_ev (d + 1) qX4_piece 139 L (o.1.toList ++ []) o.2) ∧
  (∀ (d : Nat) (a1 a2 a3 a4 : Value) (x : Nat) (st : List Value) (h : fk_H), fk_ev d qX4_piece 139 [.ref x, a1, a2, a3, a4] st h = fk_ev d qX4_piece 140 [.ref x, a1, a2, a3, a4] (.ref x :: st) h) ∧
  (∀ (d : Nat) (a0 a2 a3 a4 : Value) (x : Int32) (st : List Value) (h : fk_H), fk_ev d qX4_piece 140 [a0, .int x, a2, a3, a4] st h = fk_ev d qX4_piece 141 [a0, .int x, a2, a3, a4] (.int x :: st) h) ∧
  (∀ (d : Nat) (L : List Value) (x0 : Int32)  (N : Nat) (y : Nat → Nat → Int32) (l : Nat → Nat → Int64), fk_ev (d + 1) qX4_piece 141 L (.int x0 :: .ref 28 :: []) (fk_E N y l) = (fk_ev d qX4_sum 0 [.ref 28, .int x0, .null, .null] [] (fk_E N y l)).bind fun o => fk_ev (d + 1) qX4_piece 144 L (o.1.toList ++ []) o.2) ∧
  (∀ (d : Nat) (a0 a1 a2 a3 a4 : Value) (x : Int32) (st : List Value) (h : fk_H), fk_ev d qX4_piece 144 [a0, a1, a2, a3, a4] (.int x :: st) h = fk_ev d qX4_piece 145 [a0, a1, a2, .int x, a4] st h) ∧
  (∀ (d : Nat) (a1 a2 a3 a4 : Value) (x : Nat) (st : List Value) (h : fk_H), fk_ev d qX4_piece 145 [.ref x, a1, a2, a3, a4] st h = fk_ev d qX4_piece 146 [.ref x, a1, a2, a3, a4] (.ref x :: st) h) ∧
  (∀ (d : Nat) (L st : List Value) (N : Nat) (y : Nat → Nat → Int32) (l : Nat → Nat → Int64), fk_ev d qX4_piece 146 L (.ref 28 :: st) (fk_E N y l) = fk_ev d qX4_piece 149 L (.ref (y 28 2).toNatClampNeg :: st) (fk_E N y l)) ∧
  (∀ (d : Nat) (a0 a1 a2 a3 : Value) (x : Int32) (st : List Value) (h : fk_H), fk_ev d qX4_piece 149 [a0, a1, a2, a3, .int x] st h = fk_ev d qX4_piece 151 [a0, a1, a2, a3, .int x] (.int x :: st) h) ∧
  (∀ (d : Nat) (L st : List Value) (h : fk_H), fk_ev d qX4_piece 151 L st h = fk_ev d qX4_piece 152 L (.int (nI 0) :: st) h) ∧
  (∀ (d : Nat) (L : List Value) (x0 : Int32) (x1 : Int32)  (N : Nat) (y : Nat → Nat → Int32) (l : Nat → Nat → Int64) (c : Nat), fk_at c 3 → fk_ev (d + 1) qX4_piece 152 L (.int x1 :: .int x0 :: .ref c :: []) (fk_E N y l) = (fk_ev d qX3_add 0 [.ref c, .int x0, .int x1] [] (fk_E N y l)).bind fun o => fk_ev (d + 1) qX4_piece 155 L (o.1.toList ++ []) o.2) ∧
  (∀ (d : Nat) (a0 a1 a2 a4 : Value) (x : Int32) (st : List Value) (h : fk_H), fk_ev d qX4_piece 155 [a0, a1, a2, .int x, a4] st h = fk_ev d qX4_piece 156 [a0, a1, a2, .int x, a4] (.int x :: st) h) ∧
  (∀ (d : Nat) (L : List Value) (x : Int32) (h : fk_H), fk_ev d qX4_piece 156 L [.int x] h = some (some (.int x), h)) := ⟨fun d a1 a2 a3 a4 x st h => fk_w_aloadn 0 [.ref x, a1, a2, a3, a4] dX4_piece_0 rfl,
  fun d L st N y l => fk_g_getI rfl lf_4_22 (by decide) dX4_piece_1 fk_at_28,
  fun d L st h => fk_w_bipush dX4_piece_4 (by decide),
  fun d L x y st h => fk_r_icmp_ne dX4_piece_6 (by decide),
  fun d L st h => fk_w_iconst dX4_piece_9 (by decide),
  fun d L st h => fk_r_goto dX4_piece_10 (by decide),
  fun d L st h => fk_w_iconst dX4_piece_13 (by decide),
  fun d a0 a1 a2 a3 a4 x st h => fk_w_istoren 2 5 [] [a0, a1, a2, a3, a4] [a0, a1, .int x, a3, a4] dX4_piece_14 rfl rfl (by decide) rfl,
  fun d a0 a1 a3 a4 x st h => fk_w_iloadn 2 [a0, a1, .int x, a3, a4] dX4_piece_15 rfl,
  fun d L x st h => fk_r_if_ne dX4_piece_16 (by decide),
  fun d a1 a2 a3 a4 x st h => fk_w_aloadn 0 [.ref x, a1, a2, a3, a4] dX4_piece_19 rfl,
  fun d L st N y l => fk_g_getI rfl lf_4_22 (by decide) dX4_piece_20 fk_at_28,
  fun d L st h => fk_w_bipush dX4_piece_23 (by decide),
  fun d L x y st h => fk_r_icmp_ne dX4_piece_25 (by decide),
  fun d a0 a2 a3 a4 x st h => fk_w_iloadn 1 [a0, .int x, a2, a3, a4] dX4_piece_28 rfl,
  fun d L st h => fk_w_bipush dX4_piece_29 (by decide),
  fun d L x y st h => fk_r_icmp_lt dX4_piece_31 (by decide),
  fun d L st h => fk_w_iconst dX4_piece_34 (by decide),
  fun d a1 a2 a3 a4 x st h => fk_w_aloadn 0 [.ref x, a1, a2, a3, a4] dX4_piece_35 rfl,
  fun d L st N y l => fk_g_getI rfl lf_4_19 (by decide) dX4_piece_36 fk_at_28,
  fun d L x0 x1 h => fk_g_calls [.int x0, .int x1] [] rfl lm_4_60 dX4_piece_39 rfl ⟨rfl, by decide⟩ (by simp),
  fun d L x h => fk_r_ret dX4_piece_42 (Or.inl rfl),
  fun d a1 a2 a3 a4 x st h => fk_w_aloadn 0 [.ref x, a1, a2, a3, a4] dX4_piece_43 rfl,
  fun d L  N y l  => fk_g_call [] [] rfl lm_4_68 dX4_piece_44 rfl ⟨rfl, by decide⟩ (by simp) fk_at_28,
  fun d a0 a1 a3 a4 x st h => fk_w_iloadn 2 [a0, a1, .int x, a3, a4] dX4_piece_47 rfl,
  fun d L x st h => fk_r_if_eq dX4_piece_48 (by decide),
  fun d a1 a2 a3 a4 x st h => fk_w_aloadn 0 [.ref x, a1, a2, a3, a4] dX4_piece_51 rfl,
  fun d a0 a2 a3 a4 x st h => fk_w_iloadn 1 [a0, .int x, a2, a3, a4] dX4_piece_52 rfl,
  fun d L st h => fk_w_iconst dX4_piece_53 (by decide),
  fun d L x y st h => fk_r_iadd dX4_piece_54,
  fun d L x0 N y l  => fk_g_call [.int x0] [] rfl lm_4_117 dX4_piece_55 rfl ⟨rfl, by decide⟩ (by simp) fk_at_28,
  fun d L st h => fk_r_goto dX4_piece_58 (by decide),
  fun d a1 a2 a3 a4 x st h => fk_w_aloadn 0 [.ref x, a1, a2, a3, a4] dX4_piece_61 rfl,
  fun d a0 a2 a3 a4 x st h => fk_w_iloadn 1 [a0, .int x, a2, a3, a4] dX4_piece_62 rfl,
  fun d L st h => fk_w_iconst dX4_piece_63 (by decide),
  fun d L x y st h => fk_r_iadd dX4_piece_64,
  fun d L x0 N y l  => fk_g_call [.int x0] [] rfl lm_4_99 dX4_piece_65 rfl ⟨rfl, by decide⟩ (by simp) fk_at_28,
  fun d a0 a1 a2 a3 a4 x st h => fk_w_istoren 3 5 [] [a0, a1, a2, a3, a4] [a0, a1, a2, .int x, a4] dX4_piece_68 rfl rfl (by decide) rfl,
  fun d a0 a1 a3 a4 x st h => fk_w_iloadn 2 [a0, a1, .int x, a3, a4] dX4_piece_69 rfl,
  fun d L x st h => fk_r_if_eq dX4_piece_70 (by decide),
  fun d a1 a2 a3 a4 x st h => fk_w_aloadn 0 [.ref x, a1, a2, a3, a4] dX4_piece_73 rfl,
  fun d L st N y l => fk_g_getM rfl lf_4_29 (by decide) dX4_piece_74 fk_at_28,
  fun d L st h => fk_w_iconst dX4_piece_77 (by decide),
  fun d L st h => fk_w_iconst dX4_piece_78 (by decide),
  fun d L x0 x1 N y l c hc => fk_g_call [.int x0, .int x1] [] rfl lm_4_89 dX4_piece_79 rfl ⟨rfl, by decide⟩ (by simp) hc,
  fun d a0 a1 a2 a4 x st h => fk_w_iloadn 3 [a0, a1, a2, .int x, a4] dX4_piece_82 rfl,
  fun d L x h => fk_r_ret dX4_piece_83 (Or.inl rfl),
  fun d a0 a1 a2 a4 x st h => fk_w_iloadn 3 [a0, a1, a2, .int x, a4] dX4_piece_84 rfl,
  fun d L x st h => fk_r_if_eq dX4_piece_85 (by decide),
  fun d a0 a1 a2 a4 x st h => fk_w_iloadn 3 [a0, a1, a2, .int x, a4] dX4_piece_88 rfl,
  fun d L st h => fk_r_goto dX4_piece_89 (by decide),
  fun d a1 a2 a3 a4 x st h => fk_w_aloadn 0 [.ref x, a1, a2, a3, a4] dX4_piece_92 rfl,
  fun d L st h => fk_w_bipush dX4_piece_93 (by decide),
  fun d L x0 N y l  => fk_g_call [.int x0] [] rfl lm_4_57 dX4_piece_95 rfl ⟨rfl, by decide⟩ (by simp) fk_at_28,
  fun d L x h => fk_r_ret dX4_piece_98 (Or.inl rfl),
  fun d a1 a2 a3 a4 x st h => fk_w_aloadn 0 [.ref x, a1, a2, a3, a4] dX4_piece_99 rfl,
  fun d a0 a2 a3 a4 x st h => fk_w_iloadn 1 [a0, .int x, a2, a3, a4] dX4_piece_100 rfl,
  fun d L x0 N y l  => fk_g_call [.int x0] [] rfl lm_4_93 dX4_piece_101 rfl ⟨rfl, by decide⟩ (by simp) fk_at_28,
  fun d a0 a1 a2 a3 a4 x st h => fk_w_istoren 3 5 [] [a0, a1, a2, a3, a4] [a0, a1, a2, .int x, a4] dX4_piece_104 rfl rfl (by decide) rfl,
  fun d a0 a1 a2 a4 x st h => fk_w_iloadn 3 [a0, a1, a2, .int x, a4] dX4_piece_105 rfl,
  fun d L x st h => fk_r_if_eq dX4_piece_106 (by decide),
  fun d a0 a1 a2 a4 x st h => fk_w_iloadn 3 [a0, a1, a2, .int x, a4] dX4_piece_109 rfl,
  fun d L x h => fk_r_ret dX4_piece_110 (Or.inl rfl),
  fun d a1 a2 a3 a4 x st h => fk_w_aloadn 0 [.ref x, a1, a2, a3, a4] dX4_piece_111 rfl,
  fun d L x0 N y l  => fk_g_call [.ref x0] [] rfl lm_4_73 dX4_piece_114 rfl ⟨rfl, by decide⟩ (by simp) fk_at_28,
  fun d L x st h => fk_r_if_ne dX4_piece_117 (by decide),
  fun d L st h => fk_w_iconst dX4_piece_120 (by decide),
  fun d a1 a2 a3 a4 x st h => fk_w_aloadn 0 [.ref x, a1, a2, a3, a4] dX4_piece_121 rfl,
  fun d L st N y l => fk_g_getI rfl lf_4_19 (by decide) dX4_piece_122 fk_at_28,
  fun d L x0 x1 h => fk_g_calls [.int x0, .int x1] [] rfl lm_4_60 dX4_piece_125 rfl ⟨rfl, by decide⟩ (by simp),
  fun d L x h => fk_r_ret dX4_piece_128 (Or.inl rfl),
  fun d a1 a2 a3 a4 x st h => fk_w_aloadn 0 [.ref x, a1, a2, a3, a4] dX4_piece_129 rfl,
  fun d L st N y l => fk_g_getI rfl lf_4_22 (by decide) dX4_piece_130 fk_at_28,
  fun d a0 a1 a2 a3 a4 x st h => fk_w_istore 4 5 [] [a0, a1, a2, a3, a4] [a0, a1, a2, a3, .int x] dX4_piece_133 rfl rfl (by decide) rfl,
  fun d a1 a2 a3 a4 x st h => fk_w_aloadn 0 [.ref x, a1, a2, a3, a4] dX4_piece_135 rfl,
  fun d L  N y l  => fk_g_call [] [] rfl lm_4_68 dX4_piece_136 rfl ⟨rfl, by decide⟩ (by simp) fk_at_28,
  fun d a1 a2 a3 a4 x st h => fk_w_aloadn 0 [.ref x, a1, a2, a3, a4] dX4_piece_139 rfl,
  fun d a0 a2 a3 a4 x st h => fk_w_iloadn 1 [a0, .int x, a2, a3, a4] dX4_piece_140 rfl,
  fun d L x0 N y l  => fk_g_call [.int x0] [] rfl lm_4_93 dX4_piece_141 rfl ⟨rfl, by decide⟩ (by simp) fk_at_28,
  fun d a0 a1 a2 a3 a4 x st h => fk_w_istoren 3 5 [] [a0, a1, a2, a3, a4] [a0, a1, a2, .int x, a4] dX4_piece_144 rfl rfl (by decide) rfl,
  fun d a1 a2 a3 a4 x st h => fk_w_aloadn 0 [.ref x, a1, a2, a3, a4] dX4_piece_145 rfl,
  fun d L st N y l => fk_g_getM rfl lf_4_29 (by decide) dX4_piece_146 fk_at_28,
  fun d a0 a1 a2 a3 x st h => fk_w_iload 4 [a0, a1, a2, a3, .int x] dX4_piece_149 rfl,
  fun d L st h => fk_w_iconst dX4_piece_151 (by decide),
  fun d L x0 x1 N y l c hc => fk_g_call [.int x0, .int x1] [] rfl lm_4_89 dX4_piece_152 rfl ⟨rfl, by decide⟩ (by simp) hc,
  fun d a0 a1 a2 a4 x st h => fk_w_iloadn 3 [a0, a1, a2, .int x, a4] dX4_piece_155 rfl,
  fun d L x h => fk_r_ret dX4_piece_156 (Or.inl rfl)⟩
theorem dX4_sum_0 : decode cX4_sum 0 = .ok (.aload_n 0, 1) := by decide +kernel
theorem dX4_sum_1 : decode cX4_sum 1 = .ok (.iload_n 1, 1) := by decide +kernel
theorem dX4_sum_2 : decode cX4_sum 2 = .ok (.invokevirtual 122, 3) := by decide +kernel
theorem dX4_sum_5 : decode cX4_sum 5 = .ok (.istore_n 2, 1) := by decide +kernel
theorem dX4_sum_6 : decode cX4_sum 6 = .ok (.iload_n 2, 1) := by decide +kernel
theorem dX4_sum_7 : decode cX4_sum 7 = .ok (.ifCond .ne 59, 3) := by decide +kernel
theorem dX4_sum_10 : decode cX4_sum 10 = .ok (.aload_n 0, 1) := by decide +kernel
theorem dX4_sum_11 : decode cX4_sum 11 = .ok (.getfield 19, 3) := by decide +kernel
theorem dX4_sum_14 : decode cX4_sum 14 = .ok (.aload_n 0, 1) := by decide +kernel
theorem dX4_sum_15 : decode cX4_sum 15 = .ok (.getfield 15, 3) := by decide +kernel
theorem dX4_sum_18 : decode cX4_sum 18 = .ok (.if_icmp .ge 48, 3) := by decide +kernel
theorem dX4_sum_21 : decode cX4_sum 21 = .ok (.aload_n 0, 1) := by decide +kernel
theorem dX4_sum_22 : decode cX4_sum 22 = .ok (.getfield 22, 3) := by decide +kernel
theorem dX4_sum_25 : decode cX4_sum 25 = .ok (.bipush 43, 2) := by decide +kernel
theorem dX4_sum_27 : decode cX4_sum 27 = .ok (.if_icmp .eq 12, 3) := by decide +kernel
theorem dX4_sum_30 : decode cX4_sum 30 = .ok (.aload_n 0, 1) := by decide +kernel
theorem dX4_sum_31 : decode cX4_sum 31 = .ok (.getfield 22, 3) := by decide +kernel
theorem dX4_sum_34 : decode cX4_sum 34 = .ok (.bipush 45, 2) := by decide +kernel
theorem dX4_sum_36 : decode cX4_sum 36 = .ok (.if_icmp .ne 30, 3) := by decide +kernel
theorem dX4_sum_39 : decode cX4_sum 39 = .ok (.aload_n 0, 1) := by decide +kernel
theorem dX4_sum_40 : decode cX4_sum 40 = .ok (.getfield 22, 3) := by decide +kernel
theorem dX4_sum_43 : decode cX4_sum 43 = .ok (.istore_n 3, 1) := by decide +kernel
theorem dX4_sum_44 : decode cX4_sum 44 = .ok (.aload_n 0, 1) := by decide +kernel
theorem dX4_sum_45 : decode cX4_sum 45 = .ok (.invokevirtual 68, 3) := by decide +kernel
theorem dX4_sum_48 : decode cX4_sum 48 = .ok (.aload_n 0, 1) := by decide +kernel
theorem dX4_sum_49 : decode cX4_sum 49 = .ok (.iload_n 1, 1) := by decide +kernel
theorem dX4_sum_50 : decode cX4_sum 50 = .ok (.invokevirtual 122, 3) := by decide +kernel
theorem dX4_sum_53 : decode cX4_sum 53 = .ok (.istore_n 2, 1) := by decide +kernel
theorem dX4_sum_54 : decode cX4_sum 54 = .ok (.aload_n 0, 1) := by decide +kernel
theorem dX4_sum_55 : decode cX4_sum 55 = .ok (.getfield 29, 3) := by decide +kernel
theorem dX4_sum_58 : decode cX4_sum 58 = .ok (.iload_n 3, 1) := by decide +kernel
theorem dX4_sum_59 : decode cX4_sum 59 = .ok (.iconst 0, 1) := by decide +kernel
theorem dX4_sum_60 : decode cX4_sum 60 = .ok (.invokevirtual 89, 3) := by decide +kernel
theorem dX4_sum_63 : decode cX4_sum 63 = .ok (.goto (-57), 3) := by decide +kernel
theorem dX4_sum_66 : decode cX4_sum 66 = .ok (.iload_n 2, 1) := by decide +kernel
theorem dX4_sum_67 : decode cX4_sum 67 = .ok (.ireturn, 1) := by decide +kernel
theorem rX4_sum : (∀ (d : Nat) (a1 a2 a3 : Value) (x : Nat) (st : List Value) (h : fk_H), fk_ev d qX4_sum 0 [.ref x, a1, a2, a3] st h = fk_ev d qX4_sum 1 [.ref x, a1, a2, a3] (.ref x :: st) h) ∧
  (∀ (d : Nat) (a0 a2 a3 : Value) (x : Int32) (st : List Value) (h : fk_H), fk_ev d qX4_sum 1 [a0, .int x, a2, a3] st h = fk_ev d qX4_sum 2 [a0, .int x, a2, a3] (.int x :: st) h) ∧
  (∀ (d : Nat) (L : List Value) (x0 : Int32)  (N : Nat) (y : Nat → Nat → Int32) (l : Nat → Nat → Int64), fk_ev (d + 1) qX4_sum 2 L (.int x0 :: .ref 28 :: []) (fk_E N y l) = (fk_ev d qX4_product 0 [.ref 28, .int x0, .null, .null] [] (fk_E N y l)).bind fun o => fk_ev (d + 1) qX4_sum 5 L (o.1.toList ++ []) o.2) ∧
  (∀ (d : Nat) (a0 a1 a2 a3 : Value) (x : Int32) (st : List Value) (h : fk_H), fk_ev d qX4_sum 5 [a0, a1, a2, a3] (.int x :: st) h = fk_ev d qX4_sum 6 [a0, a1, .int x, a3] st h) ∧
  (∀ (d : Nat) (L : List Value) (x : Int32) (st : List Value) (h : fk_H), fk_ev d qX4_sum 7 L (.int x :: st) h = if ¬ x = nI 0 then fk_ev d qX4_sum 66 L st h else fk_ev d qX4_sum 10 L st h) ∧
  (∀ (d : Nat) (a1 a2 a3 : Value) (x : Nat) (st : List Value) (h : fk_H), fk_ev d qX4_sum 10 [.ref x, a1, a2, a3] st h = fk_ev d qX4_sum 11 [.ref x, a1, a2, a3] (.ref x :: st) h) ∧
  (∀ (d : Nat) (L st : List Value) (N : Nat) (y : Nat → Nat → Int32) (l : Nat → Nat → Int64), fk_ev d qX4_sum 11 L (.ref 28 :: st) (fk_E N y l) = fk_ev d qX4_sum 14 L (.int (y 28 4) :: st) (fk_E N y l)) ∧
  (∀ (d : Nat) (a1 a2 a3 : Value) (x : Nat) (st : List Value) (h : fk_H), fk_ev d qX4_sum 14 [.ref x, a1, a2, a3] st h = fk_ev d qX4_sum 15 [.ref x, a1, a2, a3] (.ref x :: st) h) ∧
  (∀ (d : Nat) (L st : List Value) (N : Nat) (y : Nat → Nat → Int32) (l : Nat → Nat → Int64), fk_ev d qX4_sum 15 L (.ref 28 :: st) (fk_E N y l) = fk_ev d qX4_sum 18 L (.int (y 28 3) :: st) (fk_E N y l)) ∧
  (∀ (d : Nat) (L : List Value) (x y : Int32) (st : List Value) (h : fk_H), fk_ev d qX4_sum 18 L (.int y :: .int x :: st) h = if y ≤ x then fk_ev d qX4_sum 66 L st h else fk_ev d qX4_sum 21 L st h) ∧
  (∀ (d : Nat) (a1 a2 a3 : Value) (x : Nat) (st : List Value) (h : fk_H), fk_ev d qX4_sum 21 [.ref x, a1, a2, a3] st h = fk_ev d qX4_sum 22 [.ref x, a1, a2, a3] (.ref x :: st) h) ∧
  (∀ (d : Nat) (L st : List Value) (N : Nat) (y : Nat → Nat → Int32) (l : Nat → Nat → Int64), fk_ev d qX4_sum 22 L (.ref 28 :: st) (fk_E N y l) = fk_ev d qX4_sum 25 L (.int (y 28 5) :: st) (fk_E N y l)) ∧
  (∀ (d : Nat) (L st : List Value) (h : fk_H), fk_ev d qX4_sum 25 L st h = fk_ev d qX4_sum 27 L (.int (nI 43) :: st) h) ∧
  (∀ (d : Nat) (L : List Value) (x y : Int32) (st : List Value) (h : fk_H), fk_ev d qX4_sum 27 L (.int y :: .int x :: st) h = if x = y then fk_ev d qX4_sum 39 L st h else fk_ev d qX4_sum 30 L st h) ∧
  (∀ (d : Nat) (a1 a2 a3 : Value) (x : Nat) (st : List Value) (h : fk_H), fk_ev d qX4_sum 30 [.ref x, a1, a2, a3] st h = fk_ev d qX4_sum 31 [.ref x, a1, a2, a3] (.ref x :: st) h) ∧
  (∀ (d : Nat) (L st : List Value) (N : Nat) (y : Nat → Nat → Int32) (l : Nat → Nat → Int64), fk_ev d qX4_sum 31 L (.ref 28 :: st) (fk_E N y l) = fk_ev d qX4_sum 34 L (.int (y 28 5) :: st) (fk_E N y l)) ∧
  (∀ (d : Nat) (L st : List Value) (h : fk_H), fk_ev d qX4_sum 34 L st h = fk_ev d qX4_sum 36 L (.int (nI 45) :: st) h) ∧
  (∀ (d : Nat) (L : List Value) (x y : Int32) (st : List Value) (h : fk_H), fk_ev d qX4_sum 36 L (.int y :: .int x :: st) h = if ¬ x = y then fk_ev d qX4_sum 66 L st h else fk_ev d qX4_sum 39 L st h) ∧
  (∀ (d : Nat) (a1 a2 a3 : Value) (x : Nat) (st : List Value) (h : fk_H), fk_ev d qX4_sum 39 [.ref x, a1, a2, a3] st h = fk_ev d qX4_sum 40 [.ref x, a1, a2, a3] (.ref x :: st) h) ∧
  (∀ (d : Nat) (L st : List Value) (N : Nat) (y : Nat → Nat → Int32) (l : Nat → Nat → Int64), fk_ev d qX4_sum 40 L (.ref 28 :: st) (fk_E N y l) = fk_ev d qX4_sum 43 L (.int (y 28 5) :: st) (fk_E N y l)) ∧
  (∀ (d : Nat) (a0 a1 a2 a3 : Value) (x : Int32) (st : List Value) (h : fk_H), fk_ev d qX4_sum 43 [a0, a1, a2, a3] (.int x :: st) h = fk_ev d qX4_sum 44 [a0, a1, a2, .int x] st h) ∧
  (∀ (d : Nat) (a1 a2 a3 : Value) (x : Nat) (st : List Value) (h : fk_H), fk_ev d qX4_sum 44 [.ref x, a1, a2, a3] st h = fk_ev d qX4_sum 45 [.ref x, a1, a2, a3] (.ref x :: st) h) ∧
  (∀ (d : Nat) (L : List Value)   (N : Nat) (y : Nat → Nat → Int32) (l : Nat → Nat → Int64), fk_ev (d + 1) qX4_sum 45 L (.ref 28 :: []) (fk_E N y l) = (fk_ev d qX4_advance 0 [.ref 28] [] (fk_E N y l)).bind fun o => fk_ev (d + 1) qX4_sum 48 L (o.1.toList ++ []) o.2) ∧
  (∀ (d : Nat) (a1 a2 a3 : Value) (x : Nat) (st : List Value) (h : fk_H), fk_ev d qX4_sum 48 [.ref x, a1, a2, a3] st h = fk_ev d qX4_sum 49 [.ref x, a1, a2, a3] (.ref x :: st) h) ∧
  (∀ (d : Nat) (a0 a2 a3 : Value) (x : Int32) (st : List Value) (h : fk_H), fk_ev d qX4_sum 49 [a0, .int x, a2, a3] st h = fk_ev d qX4_sum 50 [a0, .int x, a2, a3] (.int x :: st) h) ∧
  (∀ (d : Nat) (L : List Value) (x0 : Int32)  (N : Nat) (y : Nat → Nat → Int32) (l : Nat → Nat → Int64), fk_ev (d + 1) qX4_sum 50 L (.int x0 :: .ref 28 :: []) (fk_E N y l) = (fk_ev d qX4_product 0 [.ref 28, .int x0, .null, .null] [] (fk_E N y l)).bind fun o => fk_ev (d + 1) qX4_sum 53 L (o.1.toList ++ []) o.2) ∧
  (∀ (d : Nat) (a0 a1 a2 a3 : Value) (x : Int32) (st : List Value) (h : fk_H), fk_ev d qX4_sum 53 [a0, a1, a2, a3] (.int x :: st) h = fk_ev d qX4_sum 54 [a0, a1, .int x, a3] st h) ∧
  (∀ (d : Nat) (a1 a2 a3 : Value) (x : Nat) (st : List Value) (h : fk_H), fk_ev d qX4_sum 54 [.ref x, a1, a2, a3] st h = fk_ev d qX4_sum 55 [.ref x, a1, a2, a3] (.ref x :: st) h) ∧
  (∀ (d : Nat) (L st : List Value) (N : Nat) (y : Nat → Nat → Int32) (l : Nat → Nat → Int64), fk_ev d qX4_sum 55 L (.ref 28 :: st) (fk_E N y l) = fk_ev d qX4_sum 58 L (.ref (y 28 2).toNatClampNeg :: st) (fk_E N y l)) ∧
  (∀ (d : Nat) (a0 a1 a2 : Value) (x : Int32) (st : List Value) (h : fk_H), fk_ev d qX4_sum 58 [a0, a1, a2, .int x] st h = fk_ev d qX4_sum 59 [a0, a1, a2, .int x] (.int x :: st) h) ∧
  (∀ (d : Nat) (L st : List Value) (h : fk_H), fk_ev d qX4_sum 59 L st h = fk_ev d qX4_sum 60 L (.int (nI 0) :: st) h) ∧
  (∀ (d : Nat) (L : List Value) (x0 : Int32) (x1 : Int32)  (N : Nat) (y : Nat → Nat → Int32) (l : Nat → Nat → Int64) (c : Nat), fk_at c 3 → fk_ev (d + 1) qX4_sum 60 L (.int x1 :: .int x0 :: .ref c :: []) (fk_E N y l) = (fk_ev d qX3_add 0 [.ref c, .int x0, .int x1] [] (fk_E N y l)).bind fun o => fk_ev (d + 1) qX4_sum 63 L (o.1.toList ++ []) o.2) ∧
  (∀ (d : Nat) (L st : List Value) (h : fk_H), fk_ev d qX4_sum 63 L st h = fk_ev d qX4_sum 6 L st h) ∧
  (∀ (d : Nat) (a0 a1 a3 : Value) (x : Int32) (st : List Value) (h : fk_H), fk_ev d qX4_sum 66 [a0, a1, .int x, a3] st h = fk_ev d qX4_sum 67 [a0, a1, .int x, a3] (.int x :: st) h) ∧
  (∀ (d : Nat) (L : List Value) (x : Int32) (h : fk_H), fk_ev d qX4_sum 67 L [.int x] h = some (some (.int x), h)) := ⟨fun d a1 a2 a3 x st h => fk_w_aloadn 0 [.ref x, a1, a2, a3] dX4_sum_0 rfl,
  fun d a0 a2 a3 x st h => fk_w_iloadn 1 [a0, .int x, a2, a3] dX4_sum_1 rfl,
  fun d L x0 N y l  => fk_g_call [.int x0] [] rfl lm_4_122 dX4_sum_2 rfl ⟨rfl, by decide⟩ (by simp) fk_at_28,
  fun d a0 a1 a2 a3 x st h => fk_w_istoren 2 4 [] [a0, a1, a2, a3] [a0, a1, .int x, a3] dX4_sum_5 rfl rfl (by decide) rfl,
  fun d L x st h => fk_r_if_ne dX4_sum_7 (by decide),
  fun d a1 a2 a3 x st h => fk_w_aloadn 0 [.ref x, a1, a2, a3] dX4_sum_10 rfl,
  fun d L st N y l => fk_g_getI rfl lf_4_19 (by decide) dX4_sum_11 fk_at_28,
  fun d a1 a2 a3 x st h => fk_w_aloadn 0 [.ref x, a1, a2, a3] dX4_sum_14 rfl,
  fun d L st N y l => fk_g_getI rfl lf_4_15 (by decide) dX4_sum_15 fk_at_28,
  fun d L x y st h => fk_r_icmp_ge dX4_sum_18 (by decide),
  fun d a1 a2 a3 x st h => fk_w_aloadn 0 [.ref x, a1, a2, a3] dX4_sum_21 rfl,
  fun d L st N y l => fk_g_getI rfl lf_4_22 (by decide) dX4_sum_22 fk_at_28,
  fun d L st h => fk_w_bipush dX4_sum_25 (by decide),
  fun d L x y st h => fk_r_icmp_eq dX4_sum_27 (by decide),
  fun d a1 a2 a3 x st h => fk_w_aloadn 0 [.ref x, a1, a2, a3] dX4_sum_30 rfl,
  fun d L st N y l => fk_g_getI rfl lf_4_22 (by decide) dX4_sum_31 fk_at_28,
  fun d L st h => fk_w_bipush dX4_sum_34 (by decide),
  fun d L x y st h => fk_r_icmp_ne dX4_sum_36 (by decide),
  fun d a1 a2 a3 x st h => fk_w_aloadn 0 [.ref x, a1, a2, a3] dX4_sum_39 rfl,
  fun d L st N y l => fk_g_getI rfl lf_4_22 (by decide) dX4_sum_40 fk_at_28,
  fun d a0 a1 a2 a3 x st h => fk_w_istoren 3 4 [] [a0, a1, a2, a3] [a0, a1, a2, .int x] dX4_sum_43 rfl rfl (by decide) rfl,
  fun d a1 a2 a3 x st h => fk_w_aloadn 0 [.ref x, a1, a2, a3] dX4_sum_44 rfl,
  fun d L  N y l  => fk_g_call [] [] rfl lm_4_68 dX4_sum_45 rfl ⟨rfl, by decide⟩ (by simp) fk_at_28,
  fun d a1 a2 a3 x st h => fk_w_aloadn 0 [.ref x, a1, a2, a3] dX4_sum_48 rfl,
  fun d a0 a2 a3 x st h => fk_w_iloadn 1 [a0, .int x, a2, a3] dX4_sum_49 rfl,
  fun d L x0 N y l  => fk_g_call [.int x0] [] rfl lm_4_122 dX4_sum_50 rfl ⟨rfl, by decide⟩ (by simp) fk_at_28,
  fun d a0 a1 a2 a3 x st h => fk_w_istoren 2 4 [] [a0, a1, a2, a3] [a0, a1, .int x, a3] dX4_sum_53 rfl rfl (by decide) rfl,
  fun d a1 a2 a3 x st h => fk_w_aloadn 0 [.ref x, a1, a2, a3] dX4_sum_54 rfl,
  fun d L st N y l => fk_g_getM rfl lf_4_29 (by decide) dX4_sum_55 fk_at_28,
  fun d a0 a1 a2 x st h => fk_w_iloadn 3 [a0, a1, a2, .int x] dX4_sum_58 rfl,
  fun d L st h => fk_w_iconst dX4_sum_59 (by decide),
  fun d L x0 x1 N y l c hc => fk_g_call [.int x0, .int x1] [] rfl lm_4_89 dX4_sum_60 rfl ⟨rfl, by decide⟩ (by simp) hc,
  fun d L st h => fk_r_goto dX4_sum_63 (by decide),
  fun d a0 a1 a3 x st h => fk_w_iloadn 2 [a0, a1, .int x, a3] dX4_sum_66 rfl,
  fun d L x h => fk_r_ret dX4_sum_67 (Or.inl rfl)⟩
theorem hX4_sum_6 : ∀ (d : Nat) (a0 a1 a3 : Value) (x : Int32) (st : List Value) (h : fk_H), fk_ev d qX4_sum 6 [a0, a1, .int x, a3] st h = fk_ev d qX4_sum 7 [a0, a1, .int x, a3] (.int x :: st) h := fun d a0 a1 a3 x st h => fk_w_iloadn 2 [a0, a1, .int x, a3] dX4_sum_6 rfl
theorem dX4_product_0 : decode cX4_product 0 = .ok (.aload_n 0, 1) := by decide +kernel
theorem dX4_product_1 : decode cX4_product 1 = .ok (.iload_n 1, 1) := by decide +kernel
theorem dX4_product_2 : decode cX4_product 2 = .ok (.invokevirtual 125, 3) := by decide +kernel
theorem dX4_product_5 : decode cX4_product 5 = .ok (.istore_n 2, 1) := by decide +kernel
theorem dX4_product_6 : decode cX4_product 6 = .ok (.iload_n 2, 1) := by decide +kernel
theorem dX4_product_7 : decode cX4_product 7 = .ok (.ifCond .ne 50, 3) := by decide +kernel
theorem dX4_product_10 : decode cX4_product 10 = .ok (.aload_n 0, 1) := by decide +kernel
theorem dX4_product_11 : decode cX4_product 11 = .ok (.getfield 19, 3) := by decide +kernel
theorem dX4_product_14 : decode cX4_product 14 = .ok (.aload_n 0, 1) := by decide +kernel
theorem dX4_product_15 : decode cX4_product 15 = .ok (.getfield 15, 3) := by decide +kernel
theorem dX4_product_18 : decode cX4_product 18 = .ok (.if_icmp .ge 39, 3) := by decide +kernel
theorem dX4_product_21 : decode cX4_product 21 = .ok (.aload_n 0, 1) := by decide +kernel
theorem dX4_product_22 : decode cX4_product 22 = .ok (.ldc 128, 2) := by decide +kernel
theorem dX4_product_24 : decode cX4_product 24 = .ok (.invokevirtual 73, 3) := by decide +kernel
theorem dX4_product_27 : decode cX4_product 27 = .ok (.ifCond .eq 30, 3) := by decide +kernel
theorem dX4_product_30 : decode cX4_product 30 = .ok (.aload_n 0, 1) := by decide +kernel
theorem dX4_product_31 : decode cX4_product 31 = .ok (.getfield 22, 3) := by decide +kernel
theorem dX4_product_34 : decode cX4_product 34 = .ok (.istore_n 3, 1) := by decide +kernel
theorem dX4_product_35 : decode cX4_product 35 = .ok (.aload_n 0, 1) := by decide +kernel
theorem dX4_product_36 : decode cX4_product 36 = .ok (.invokevirtual 68, 3) := by decide +kernel
theorem dX4_product_39 : decode cX4_product 39 = .ok (.aload_n 0, 1) := by decide +kernel
theorem dX4_product_40 : decode cX4_product 40 = .ok (.iload_n 1, 1) := by decide +kernel
theorem dX4_product_41 : decode cX4_product 41 = .ok (.invokevirtual 125, 3) := by decide +kernel
theorem dX4_product_44 : decode cX4_product 44 = .ok (.istore_n 2, 1) := by decide +kernel
theorem dX4_product_45 : decode cX4_product 45 = .ok (.aload_n 0, 1) := by decide +kernel
theorem dX4_product_46 : decode cX4_product 46 = .ok (.getfield 29, 3) := by decide +kernel
theorem dX4_product_49 : decode cX4_product 49 = .ok (.iload_n 3, 1) := by decide +kernel
theorem dX4_product_50 : decode cX4_product 50 = .ok (.iconst 0, 1) := by decide +kernel
theorem dX4_product_51 : decode cX4_product 51 = .ok (.invokevirtual 89, 3) := by decide +kernel
theorem dX4_product_54 : decode cX4_product 54 = .ok (.goto (-48), 3) := by decide +kernel
theorem dX4_product_57 : decode cX4_product 57 = .ok (.iload_n 2, 1) := by decide +kernel
theorem dX4_product_58 : decode cX4_product 58 = .ok (.ireturn, 1) := by decide +kernel
theorem rX4_product : (∀ (d : Nat) (a1 a2 a3 : Value) (x : Nat) (st : List Value) (h : fk_H), fk_ev d qX4_product 0 [.ref x, a1, a2, a3] st h = fk_ev d qX4_product 1 [.ref x, a1, a2, a3] (.ref x :: st) h) ∧
  (∀ (d : Nat) (a0 a2 a3 : Value) (x : Int32) (st : List Value) (h : fk_H), fk_ev d qX4_product 1 [a0, .int x, a2, a3] st h = fk_ev d qX4_product 2 [a0, .int x, a2, a3] (.int x :: st) h) ∧
  (∀ (d : Nat) (L : List Value) (x0 : Int32)  (N : Nat) (y : Nat → Nat → Int32) (l : Nat → Nat → Int64), fk_ev (d + 1) qX4_product 2 L (.int x0 :: .ref 28 :: []) (fk_E N y l) = (fk_ev d qX4_factor 0 [.ref 28, .int x0, .null] [] (fk_E N y l)).bind fun o => fk_ev (d + 1) qX4_product 5 L (o.1.toList ++ []) o.2) ∧
  (∀ (d : Nat) (a0 a1 a2 a3 : Value) (x : Int32) (st : List Value) (h : fk_H), fk_ev d qX4_product 5 [a0, a1, a2, a3] (.int x :: st) h = fk_ev d qX4_product 6 [a0, a1, .int x, a3] st h) ∧
  (∀ (d : Nat) (L : List Value) (x : Int32) (st : List Value) (h : fk_H), fk_ev d qX4_product 7 L (.int x :: st) h = if ¬ x = nI 0 then fk_ev d qX4_product 57 L st h else fk_ev d qX4_product 10 L st h) ∧
  (∀ (d : Nat) (a1 a2 a3 : Value) (x : Nat) (st : List Value) (h : fk_H), fk_ev d qX4_product 10 [.ref x, a1, a2, a3] st h = fk_ev d qX4_product 11 [.ref x, a1, a2, a3] (.ref x :: st) h) ∧
  (∀ (d : Nat) (L st : List Value) (N : Nat) (y : Nat → Nat → Int32) (l : Nat → Nat → Int64), fk_ev d qX4_product 11 L (.ref 28 :: st) (fk_E N y l) = fk_ev d qX4_product 14 L (.int (y 28 4) :: st) (fk_E N y l)) ∧
  (∀ (d : Nat) (a1 a2 a3 : Value) (x : Nat) (st : List Value) (h : fk_H), fk_ev d qX4_product 14 [.ref x, a1, a2, a3] st h = fk_ev d qX4_product 15 [.ref x, a1, a2, a3] (.ref x :: st) h) ∧
  (∀ (d : Nat) (L st : List Value) (N : Nat) (y : Nat → Nat → Int32) (l : Nat → Nat → Int64), fk_ev d qX4_product 15 L (.ref 28 :: st) (fk_E N y l) = fk_ev d qX4_product 18 L (.int (y 28 3) :: st) (fk_E N y l)) ∧
  (∀ (d : Nat) (L : List Value) (x y : Int32) (st : List Value) (h : fk_H), fk_ev d qX4_product 18 L (.int y :: .int x :: st) h = if y ≤ x then fk_ev d qX4_product 57 L st h else fk_ev d qX4_product 21 L st h) ∧
  (∀ (d : Nat) (a1 a2 a3 : Value) (x : Nat) (st : List Value) (h : fk_H), fk_ev d qX4_product 21 [.ref x, a1, a2, a3] st h = fk_ev d qX4_product 22 [.ref x, a1, a2, a3] (.ref x :: st) h) ∧
  (∀ (d : Nat) (L : List Value) (x0 : Nat)  (N : Nat) (y : Nat → Nat → Int32) (l : Nat → Nat → Int64), fk_ev (d + 1) qX4_product 24 L (.ref x0 :: .ref 28 :: []) (fk_E N y l) = (fk_ev d qX4_isOneOf 0 [.ref 28, .ref x0] [] (fk_E N y l)).bind fun o => fk_ev (d + 1) qX4_product 27 L (o.1.toList ++ []) o.2) ∧
  (∀ (d : Nat) (L : List Value) (x : Int32) (st : List Value) (h : fk_H), fk_ev d qX4_product 27 L (.int x :: st) h = if x = nI 0 then fk_ev d qX4_product 57 L st h else fk_ev d qX4_product 30 L st h) ∧
  (∀ (d : Nat) (a1 a2 a3 : Value) (x : Nat) (st : List Value) (h : fk_H), fk_ev d qX4_product 30 [.ref x, a1, a2, a3] st h = fk_ev d qX4_product 31 [.ref x, a1, a2, a3] (.ref x :: st) h) ∧
  (∀ (d : Nat) (L st : List Value) (N : Nat) (y : Nat → Nat → Int32) (l : Nat → Nat → Int64), fk_ev d qX4_product 31 L (.ref 28 :: st) (fk_E N y l) = fk_ev d qX4_product 34 L (.int (y 28 5) :: st) (fk_E N y l)) ∧
  (∀ (d : Nat) (a0 a1 a2 a3 : Value) (x : Int32) (st : List Value) (h : fk_H), fk_ev d qX4_product 34 [a0, a1, a2, a3] (.int x :: st) h = fk_ev d qX4_product 35 [a0, a1, a2, .int x] st h) ∧
  (∀ (d : Nat) (a1 a2 a3 : Value) (x : Nat) (st : List Value) (h : fk_H), fk_ev d qX4_product 35 [.ref x, a1, a2, a3] st h = fk_ev d qX4_product 36 [.ref x, a1, a2, a3] (.ref x :: st) h) ∧
  (∀ (d : Nat) (L : List Value)   (N : Nat) (y : Nat → Nat → Int32) (l : Nat → Nat → Int64), fk_ev (d + 1) qX4_product 36 L (.ref 28 :: []) (fk_E N y l) = (fk_ev d qX4_advance 0 [.ref 28] [] (fk_E N y l)).bind fun o => fk_ev (d + 1) qX4_product 39 L (o.1.toList ++ []) o.2) ∧
  (∀ (d : Nat) (a1 a2 a3 : Value) (x : Nat) (st : List Value) (h : fk_H), fk_ev d qX4_product 39 [.ref x, a1, a2, a3] st h = fk_ev d qX4_product 40 [.ref x, a1, a2, a3] (.ref x :: st) h) ∧
  (∀ (d : Nat) (a0 a2 a3 : Value) (x : Int32) (st : List Value) (h : fk_H), fk_ev d qX4_product 40 [a0, .int x, a2, a3] st h = fk_ev d qX4_product 41 [a0, .int x, a2, a3] (.int x :: st) h) ∧
  (∀ (d : Nat) (L : List Value) (x0 : Int32)  (N : Nat) (y : Nat → Nat → Int32) (l : Nat → Nat → Int64), fk_ev (d + 1) qX4_product 41 L (.int x0 :: .ref 28 :: []) (fk_E N y l) = (fk_ev d qX4_factor 0 [.ref 28, .int x0, .null] [] (fk_E N y l)).bind fun o => fk_ev (d + 1) qX4_product 44 L (o.1.toList ++ []) o.2) ∧
  (∀ (d : Nat) (a0 a1 a2 a3 : Value) (x : Int32) (st : List Value) (h : fk_H), fk_ev d qX4_product 44 [a0, a1, a2, a3] (.int x :: st) h = fk_ev d qX4_product 45 [a0, a1, .int x, a3] st h) ∧
  (∀ (d : Nat) (a1 a2 a3 : Value) (x : Nat) (st : List Value) (h : fk_H), fk_ev d qX4_product 45 [.ref x, a1, a2, a3] st h = fk_ev d qX4_product 46 [.ref x, a1, a2, a3] (.ref x :: st) h) ∧
  (∀ (d : Nat) (L st : List Value) (N : Nat) (y : Nat → Nat → Int32) (l : Nat → Nat → Int64), fk_ev d qX4_product 46 L (.ref 28 :: st) (fk_E N y l) = fk_ev d qX4_product 49 L (.ref (y 28 2).toNatClampNeg :: st) (fk_E N y l)) ∧
  (∀ (d : Nat) (a0 a1 a2 : Value) (x : Int32) (st : List Value) (h : fk_H), fk_ev d qX4_product 49 [a0, a1, a2, .int x] st h = fk_ev d qX4_product 50 [a0, a1, a2, .int x] (.int x :: st) h) ∧
  (∀ (d : Nat) (L st : List Value) (h : fk_H), fk_ev d qX4_product 50 L st h = fk_ev d qX4_product 51 L (.int (nI 0) :: st) h) ∧
  (∀ (d : Nat) (L : List Value) (x0 : Int32) (x1 : Int32)  (N : Nat) (y : Nat → Nat → Int32) (l : Nat → Nat → Int64) (c : Nat), fk_at c 3 → fk_ev (d + 1) qX4_product 51 L (.int x1 :: .int x0 :: .ref c :: []) (fk_E N y l) = (fk_ev d qX3_add 0 [.ref c, .int x0, .int x1] [] (fk_E N y l)).bind fun o => fk_ev (d + 1) qX4_product 54 L (o.1.toList ++ []) o.2) ∧
  (∀ (d : Nat) (L st : List Value) (h : fk_H), fk_ev d qX4_product 54 L st h = fk_ev d qX4_product 6 L st h) ∧
  (∀ (d : Nat) (a0 a1 a3 : Value) (x : Int32) (st : List Value) (h : fk_H), fk_ev d qX4_product 57 [a0, a1, .int x, a3] st h = fk_ev d qX4_product 58 [a0, a1, .int x, a3] (.int x :: st) h) ∧
  (∀ (d : Nat) (L : List Value) (x : Int32) (h : fk_H), fk_ev d qX4_product 58 L [.int x] h = some (some (.int x), h)) := ⟨fun d a1 a2 a3 x st h => fk_w_aloadn 0 [.ref x, a1, a2, a3] dX4_product_0 rfl,
  fun d a0 a2 a3 x st h => fk_w_iloadn 1 [a0, .int x, a2, a3] dX4_product_1 rfl,
  fun d L x0 N y l  => fk_g_call [.int x0] [] rfl lm_4_125 dX4_product_2 rfl ⟨rfl, by decide⟩ (by simp) fk_at_28,
  fun d a0 a1 a2 a3 x st h => fk_w_istoren 2 4 [] [a0, a1, a2, a3] [a0, a1, .int x, a3] dX4_product_5 rfl rfl (by decide) rfl,
  fun d L x st h => fk_r_if_ne dX4_product_7 (by decide),
  fun d a1 a2 a3 x st h => fk_w_aloadn 0 [.ref x, a1, a2, a3] dX4_product_10 rfl,
  fun d L st N y l => fk_g_getI rfl lf_4_19 (by decide) dX4_product_11 fk_at_28,
  fun d a1 a2 a3 x st h => fk_w_aloadn 0 [.ref x, a1, a2, a3] dX4_product_14 rfl,
  fun d L st N y l => fk_g_getI rfl lf_4_15 (by decide) dX4_product_15 fk_at_28,
  fun d L x y st h => fk_r_icmp_ge dX4_product_18 (by decide),
  fun d a1 a2 a3 x st h => fk_w_aloadn 0 [.ref x, a1, a2, a3] dX4_product_21 rfl,
  fun d L x0 N y l  => fk_g_call [.ref x0] [] rfl lm_4_73 dX4_product_24 rfl ⟨rfl, by decide⟩ (by simp) fk_at_28,
  fun d L x st h => fk_r_if_eq dX4_product_27 (by decide),
  fun d a1 a2 a3 x st h => fk_w_aloadn 0 [.ref x, a1, a2, a3] dX4_product_30 rfl,
  fun d L st N y l => fk_g_getI rfl lf_4_22 (by decide) dX4_product_31 fk_at_28,
  fun d a0 a1 a2 a3 x st h => fk_w_istoren 3 4 [] [a0, a1, a2, a3] [a0, a1, a2, .int x] dX4_product_34 rfl rfl (by decide) rfl,
  fun d a1 a2 a3 x st h => fk_w_aloadn 0 [.ref x, a1, a2, a3] dX4_product_35 rfl,
  fun d L  N y l  => fk_g_call [] [] rfl lm_4_68 dX4_product_36 rfl ⟨rfl, by decide⟩ (by simp) fk_at_28,
  fun d a1 a2 a3 x st h => fk_w_aloadn 0 [.ref x, a1, a2, a3] dX4_product_39 rfl,
  fun d a0 a2 a3 x st h => fk_w_iloadn 1 [a0, .int x, a2, a3] dX4_product_40 rfl,
  fun d L x0 N y l  => fk_g_call [.int x0] [] rfl lm_4_125 dX4_product_41 rfl ⟨rfl, by decide⟩ (by simp) fk_at_28,
  fun d a0 a1 a2 a3 x st h => fk_w_istoren 2 4 [] [a0, a1, a2, a3] [a0, a1, .int x, a3] dX4_product_44 rfl rfl (by decide) rfl,
  fun d a1 a2 a3 x st h => fk_w_aloadn 0 [.ref x, a1, a2, a3] dX4_product_45 rfl,
  fun d L st N y l => fk_g_getM rfl lf_4_29 (by decide) dX4_product_46 fk_at_28,
  fun d a0 a1 a2 x st h => fk_w_iloadn 3 [a0, a1, a2, .int x] dX4_product_49 rfl,
  fun d L st h => fk_w_iconst dX4_product_50 (by decide),
  fun d L x0 x1 N y l c hc => fk_g_call [.int x0, .int x1] [] rfl lm_4_89 dX4_product_51 rfl ⟨rfl, by decide⟩ (by simp) hc,
  fun d L st h => fk_r_goto dX4_product_54 (by decide),
  fun d a0 a1 a3 x st h => fk_w_iloadn 2 [a0, a1, .int x, a3] dX4_product_57 rfl,
  fun d L x h => fk_r_ret dX4_product_58 (Or.inl rfl)⟩
theorem hX4_product_6 : ∀ (d : Nat) (a0 a1 a3 : Value) (x : Int32) (st : List Value) (h : fk_H), fk_ev d qX4_product 6 [a0, a1, .int x, a3] st h = fk_ev d qX4_product 7 [a0, a1, .int x, a3] (.int x :: st) h := fun d a0 a1 a3 x st h => fk_w_iloadn 2 [a0, a1, .int x, a3] dX4_product_6 rfl
theorem dX4_factor_0 : decode cX4_factor 0 = .ok (.aload_n 0, 1) := by decide +kernel
theorem dX4_factor_1 : decode cX4_factor 1 = .ok (.getfield 22, 3) := by decide +kernel
theorem dX4_factor_4 : decode cX4_factor 4 = .ok (.bipush 48, 2) := by decide +kernel
theorem dX4_factor_6 : decode cX4_factor 6 = .ok (.if_icmp .lt 17, 3) := by decide +kernel
theorem dX4_factor_9 : decode cX4_factor 9 = .ok (.aload_n 0, 1) := by decide +kernel
theorem dX4_factor_10 : decode cX4_factor 10 = .ok (.getfield 22, 3) := by decide +kernel
theorem dX4_factor_13 : decode cX4_factor 13 = .ok (.bipush 57, 2) := by decide +kernel
theorem dX4_factor_15 : decode cX4_factor 15 = .ok (.if_icmp .gt 8, 3) := by decide +kernel
theorem dX4_factor_18 : decode cX4_factor 18 = .ok (.aload_n 0, 1) := by decide +kernel
theorem dX4_factor_19 : decode cX4_factor 19 = .ok (.invokevirtual 130, 3) := by decide +kernel
theorem dX4_factor_22 : decode cX4_factor 22 = .ok (.ireturn, 1) := by decide +kernel
theorem dX4_factor_23 : decode cX4_factor 23 = .ok (.aload_n 0, 1) := by decide +kernel
theorem dX4_factor_24 : decode cX4_factor 24 = .ok (.ldc 133, 2) := by decide +kernel
theorem dX4_factor_26 : decode cX4_factor 26 = .ok (.invokevirtual 73, 3) := by decide +kernel
theorem dX4_factor_29 : decode cX4_factor 29 = .ok (.ifCond .eq 24, 3) := by decide +kernel
theorem dX4_factor_32 : decode cX4_factor 32 = .ok (.aload_n 0, 1) := by decide +kernel
theorem dX4_factor_33 : decode cX4_factor 33 = .ok (.getfield 29, 3) := by decide +kernel
theorem dX4_factor_36 : decode cX4_factor 36 = .ok (.iconst 1, 1) := by decide +kernel
theorem dX4_factor_37 : decode cX4_factor 37 = .ok (.aload_n 0, 1) := by decide +kernel
theorem dX4_factor_38 : decode cX4_factor 38 = .ok (.getfield 22, 3) := by decide +kernel
theorem dX4_factor_41 : decode cX4_factor 41 = .ok (.bipush 97, 2) := by decide +kernel
theorem dX4_factor_43 : decode cX4_factor 43 = .ok (.isub, 1) := by decide +kernel
theorem dX4_factor_44 : decode cX4_factor 44 = .ok (.invokevirtual 89, 3) := by decide +kernel
theorem dX4_factor_47 : decode cX4_factor 47 = .ok (.aload_n 0, 1) := by decide +kernel
theorem dX4_factor_48 : decode cX4_factor 48 = .ok (.invokevirtual 68, 3) := by decide +kernel
theorem dX4_factor_51 : decode cX4_factor 51 = .ok (.iconst 0, 1) := by decide +kernel
theorem dX4_factor_52 : decode cX4_factor 52 = .ok (.ireturn, 1) := by decide +kernel
theorem dX4_factor_53 : decode cX4_factor 53 = .ok (.aload_n 0, 1) := by decide +kernel
theorem dX4_factor_54 : decode cX4_factor 54 = .ok (.getfield 22, 3) := by decide +kernel
theorem dX4_factor_57 : decode cX4_factor 57 = .ok (.bipush 91, 2) := by decide +kernel
theorem dX4_factor_59 : decode cX4_factor 59 = .ok (.if_icmp .eq 12, 3) := by decide +kernel
theorem dX4_factor_62 : decode cX4_factor 62 = .ok (.iconst 1, 1) := by decide +kernel
theorem dX4_factor_63 : decode cX4_factor 63 = .ok (.aload_n 0, 1) := by decide +kernel
theorem dX4_factor_64 : decode cX4_factor 64 = .ok (.getfield 19, 3) := by decide +kernel
theorem dX4_factor_67 : decode cX4_factor 67 = .ok (.invokestatic 60, 3) := by decide +kernel
theorem dX4_factor_70 : decode cX4_factor 70 = .ok (.ireturn, 1) := by decide +kernel
theorem dX4_factor_71 : decode cX4_factor 71 = .ok (.iload_n 1, 1) := by decide +kernel
theorem dX4_factor_72 : decode cX4_factor 72 = .ok (.bipush 6, 2) := by decide +kernel
theorem dX4_factor_74 : decode cX4_factor 74 = .ok (.if_icmp .lt 12, 3) := by decide +kernel
theorem dX4_factor_77 : decode cX4_factor 77 = .ok (.iconst 5, 1) := by decide +kernel
theorem dX4_factor_78 : decode cX4_factor 78 = .ok (.aload_n 0, 1) := by decide +kernel
theorem dX4_factor_79 : decode cX4_factor 79 = .ok (.getfield 19, 3) := by decide +kernel
theorem dX4_factor_82 : decode cX4_factor 82 = .ok (.invokestatic 60, 3) := by decide +kernel
theorem dX4_factor_85 : decode cX4_factor 85 = .ok (.ireturn, 1) := by decide +kernel
theorem dX4_factor_86 : decode cX4_factor 86 = .ok (.aload_n 0, 1) := by decide +kernel
theorem dX4_factor_87 : decode cX4_factor 87 = .ok (.invokevirtual 68, 3) := by decide +kernel
theorem dX4_factor_90 : decode cX4_factor 90 = .ok (.aload_n 0, 1) := by decide +kernel
theorem dX4_factor_91 : decode cX4_factor 91 = .ok (.iload_n 1, 1) := by decide +kernel
theorem dX4_factor_92 : decode cX4_factor 92 = .ok (.iconst 1, 1) := by decide +kernel
theorem dX4_factor_93 : decode cX4_factor 93 = .ok (.iadd, 1) := by decide +kernel
theorem dX4_factor_94 : decode cX4_factor 94 = .ok (.invokevirtual 93, 3) := by decide +kernel
theorem dX4_factor_97 : decode cX4_factor 97 = .ok (.istore_n 2, 1) := by decide +kernel
theorem dX4_factor_98 : decode cX4_factor 98 = .ok (.iload_n 2, 1) := by decide +kernel
theorem dX4_factor_99 : decode cX4_factor 99 = .ok (.ifCond .eq 7, 3) := by decide +kernel
theorem dX4_factor_102 : decode cX4_factor 102 = .ok (.iload_n 2, 1) := by decide +kernel
theorem dX4_factor_103 : decode cX4_factor 103 = .ok (.goto 9, 3) := by decide +kernel
theorem dX4_factor_106 : decode cX4_factor 106 = .ok (.aload_n 0, 1) := by decide +kernel
theorem dX4_factor_107 : decode cX4_factor 107 = .ok (.bipush 93, 2) := by decide +kernel
theorem dX4_factor_109 : decode cX4_factor 109 = .ok (.invokevirtual 57, 3) := by decide +kernel
theorem dX4_factor_112 : decode cX4_factor 112 = .ok (.ireturn, 1) := by decide +kernel
theorem rX4_factor : (∀ (d : Nat) (a1 a2 : Value) (x : Nat) (st : List Value) (h : fk_H), fk_ev d qX4_factor 0 [.ref x, a1, a2] st h = fk_ev d qX4_factor 1 [.ref x, a1, a2] (.ref x :: st) h) ∧
  (∀ (d : Nat) (L st : List Value) (N : Nat) (y : Nat → Nat → Int32) (l : Nat → Nat → Int64), fk_ev d qX4_factor 1 L (.ref 28 :: st) (fk_E N y l) = fk_ev d qX4_factor 4 L (.int (y 28 5) :: st) (fk_E N y l)) ∧
  (∀ (d : Nat) (L st : List Value) (h : fk_H), fk_ev d qX4_factor 4 L st h = fk_ev d qX4_factor 6 L (.int (nI 48) :: st) h) ∧
  (∀ (d : Nat) (L : List Value) (x y : Int32) (st : List Value) (h : fk_H), fk_ev d qX4_factor 6 L (.int y :: .int x :: st) h = if x < y then fk_ev d qX4_factor 23 L st h else fk_ev d qX4_factor 9 L st h) ∧
  (∀ (d : Nat) (a1 a2 : Value) (x : Nat) (st : List Value) (h : fk_H), fk_ev d qX4_factor 9 [.ref x, a1, a2] st h = fk_ev d qX4_factor 10 [.ref x, a1, a2] (.ref x :: st) h) ∧
  (∀ (d : Nat) (L st : List Value) (N : Nat) (y : Nat → Nat → Int32) (l : Nat → Nat → Int64), fk_ev d qX4_factor 10 L (.ref 28 :: st) (fk_E N y l) = fk_ev d qX4_factor 13 L (.int (y 28 5) :: st) (fk_E N y l)) ∧
  (∀ (d : Nat) (L st : List Value) (h : fk_H), fk_ev d qX4_factor 13 L st h = fk_ev d qX4_factor 15 L (.int (nI 57) :: st) h) ∧
  (∀ (d : Nat) (L : List Value) (x y : Int32) (st : List Value) (h : fk_H), fk_ev d qX4_factor 15 L (.int y :: .int x :: st) h = if y < x then fk_ev d qX4_factor 23 L st h else fk_ev d qX4_factor 18 L st h) ∧
  (∀ (d : Nat) (a1 a2 : Value) (x : Nat) (st : List Value) (h : fk_H), fk_ev d qX4_factor 18 [.ref x, a1, a2] st h = fk_ev d qX4_factor 19 [.ref x, a1, a2] (.ref x :: st) h) ∧
  (∀ (d : Nat) (L : List Value)   (N : Nat) (y : Nat → Nat → Int32) (l : Nat → Nat → Int64), fk_ev (d + 1) qX4_factor 19 L (.ref 28 :: []) (fk_E N y l) = (fk_ev d qX4_number 0 [.ref 28, .null, .null] [] (fk_E N y l)).bind fun o => fk_ev (d + 1) qX4_factor 22 L (o.1.toList ++ []) o.2) ∧
  (∀ (d : Nat) (L : List Value) (x : Int32) (h : fk_H), fk_ev d qX4_factor 22 L [.int x] h = some (some (.int x), h)) ∧
  (∀ (d : Nat) (a1 a2 : Value) (x : Nat) (st : List Value) (h : fk_H), fk_ev d qX4_factor 23 [.ref x, a1, a2] st h = fk_ev d qX4_factor 24 [.ref x, a1, a2] (.ref x :: st) h) ∧
  (∀ (d : Nat) (L : List Value) (x0 : Nat)  (N : Nat) (y : Nat → Nat → Int32) (l : Nat → Nat → Int64), fk_ev (d + 1) qX4_factor 26 L (.ref x0 :: .ref 28 :: []) (fk_E N y l) = (fk_ev d qX4_isOneOf 0 [.ref 28, .ref x0] [] (fk_E N y l)).bind fun o => fk_ev (d + 1) qX4_factor 29 L (o.1.toList ++ []) o.2) ∧
  (∀ (d : Nat) (L : List Value) (x : Int32) (st : List Value) (h : fk_H), fk_ev d qX4_factor 29 L (.int x :: st) h = if x = nI 0 then fk_ev d qX4_factor 53 L st h else fk_ev d qX4_factor 32 L st h) ∧
  (∀ (d : Nat) (a1 a2 : Value) (x : Nat) (st : List Value) (h : fk_H), fk_ev d qX4_factor 32 [.ref x, a1, a2] st h = fk_ev d qX4_factor 33 [.ref x, a1, a2] (.ref x :: st) h) ∧
  (∀ (d : Nat) (L st : List Value) (N : Nat) (y : Nat → Nat → Int32) (l : Nat → Nat → Int64), fk_ev d qX4_factor 33 L (.ref 28 :: st) (fk_E N y l) = fk_ev d qX4_factor 36 L (.ref (y 28 2).toNatClampNeg :: st) (fk_E N y l)) ∧
  (∀ (d : Nat) (L st : List Value) (h : fk_H), fk_ev d qX4_factor 36 L st h = fk_ev d qX4_factor 37 L (.int (nI 1) :: st) h) ∧
  (∀ (d : Nat) (a1 a2 : Value) (x : Nat) (st : List Value) (h : fk_H), fk_ev d qX4_factor 37 [.ref x, a1, a2] st h = fk_ev d qX4_factor 38 [.ref x, a1, a2] (.ref x :: st) h) ∧
  (∀ (d : Nat) (L st : List Value) (N : Nat) (y : Nat → Nat → Int32) (l : Nat → Nat → Int64), fk_ev d qX4_factor 38 L (.ref 28 :: st) (fk_E N y l) = fk_ev d qX4_factor 41 L (.int (y 28 5) :: st) (fk_E N y l)) ∧
  (∀ (d : Nat) (L st : List Value) (h : fk_H), fk_ev d qX4_factor 41 L st h = fk_ev d qX4_factor 43 L (.int (nI 97) :: st) h) ∧
  (∀ (d : Nat) (L : List Value) (x y : Int32) (st : List Value) (h : fk_H), fk_ev d qX4_factor 43 L (.int y :: .int x :: st) h = fk_ev d qX4_factor 44 L (.int (x - y) :: st) h) ∧
  (∀ (d : Nat) (L : List Value) (x0 : Int32) (x1 : Int32)  (N : Nat) (y : Nat → Nat → Int32) (l : Nat → Nat → Int64) (c : Nat), fk_at c 3 → fk_ev (d + 1) qX4_factor 44 L (.int x1 :: .int x0 :: .ref c :: []) (fk_E N y l) = (fk_ev d qX3_add 0 [.ref c, .int x0, .int x1] [] (fk_E N y l)).bind fun o => fk_ev (d + 1) qX4_factor 47 L (o.1.toList ++ []) o.2) ∧
  (∀ (d : Nat) (a1 a2 : Value) (x : Nat) (st : List Value) (h : fk_H), fk_ev d qX4_factor 47 [.ref x, a1, a2] st h = fk_ev d qX4_factor 48 [.ref x, a1, a2] (.ref x :: st) h) ∧
  (∀ (d : Nat) (L : List Value)   (N : Nat) (y : Nat → Nat → Int32) (l : Nat → Nat → Int64), fk_ev (d + 1) qX4_factor 48 L (.ref 28 :: []) (fk_E N y l) = (fk_ev d qX4_advance 0 [.ref 28] [] (fk_E N y l)).bind fun o => fk_ev (d + 1) qX4_factor 51 L (o.1.toList ++ []) o.2) ∧
  (∀ (d : Nat) (L st : List Value) (h : fk_H), fk_ev d qX4_factor 51 L st h = fk_ev d qX4_factor 52 L (.int (nI 0) :: st) h) ∧
  (∀ (d : Nat) (L : List Value) (x : Int32) (h : fk_H), fk_ev d qX4_factor 52 L [.int x] h = some (some (.int x), h)) ∧
  (∀ (d : Nat) (a1 a2 : Value) (x : Nat) (st : List Value) (h : fk_H), fk_ev d qX4_factor 53 [.ref x, a1, a2] st h = fk_ev d qX4_factor 54 [.ref x, a1, a2] (.ref x :: st) h) ∧
  (∀ (d : Nat) (L st : List Value) (N : Nat) (y : Nat → Nat → Int32) (l : Nat → Nat → Int64), fk_ev d qX4_factor 54 L (.ref 28 :: st) (fk_E N y l) = fk_ev d qX4_factor 57 L (.int (y 28 5) :: st) (fk_E N y l)) ∧
  (∀ (d : Nat) (L st : List Value) (h : fk_H), fk_ev d qX4_factor 57 L st h = fk_ev d qX4_factor 59 L (.int (nI 91) :: st) h) ∧
  (∀ (d : Nat) (L : List Value) (x y : Int32) (st : List Value) (h : fk_H), fk_ev d qX4_factor 59 L (.int y :: .int x :: st) h = if x = y then fk_ev d qX4_factor 71 L st h else fk_ev d qX4_factor 62 L st h) ∧
  (∀ (d : Nat) (L st : List Value) (h : fk_H), fk_ev d qX4_factor 62 L st h = fk_ev d qX4_factor 63 L (.int (nI 1) :: st) h) ∧
  (∀ (d : Nat) (a1 a2 : Value) (x : Nat) (st : List Value) (h : fk_H), fk_ev d qX4_factor 63 [.ref x, a1, a2] st h = fk_ev d qX4_factor 64 [.ref x, a1, a2] (.ref x :: st) h) ∧
  (∀ (d : Nat) (L st : List Value) (N : Nat) (y : Nat → Nat → Int32) (l : Nat → Nat → Int64), fk_ev d qX4_factor 64 L (.ref 28 :: st) (fk_E N y l) = fk_ev d qX4_factor 67 L (.int (y 28 4) :: st) (fk_E N y l)) ∧
  (∀ (d : Nat) (L : List Value) (x0 : Int32) (x1 : Int32)  (h : fk_H), fk_ev (d + 1) qX4_factor 67 L (.int x1 :: .int x0 :: []) h = (fk_ev d qX11_faultAt 0 [.int x0, .int x1] [] h).bind fun o => fk_ev (d + 1) qX4_factor 70 L (o.1.toList ++ []) o.2) ∧
  (∀ (d : Nat) (L : List Value) (x : Int32) (h : fk_H), fk_ev d qX4_factor 70 L [.int x] h = some (some (.int x), h)) ∧
  (∀ (d : Nat) (a0 a2 : Value) (x : Int32) (st : List Value) (h : fk_H), fk_ev d qX4_factor 71 [a0, .int x, a2] st h = fk_ev d qX4_factor 72 [a0, .int x, a2] (.int x :: st) h) ∧
  (∀ (d : Nat) (L st : List Value) (h : fk_H), fk_ev d qX4_factor 72 L st h = fk_ev d qX4_factor 74 L (.int (nI 6) :: st) h) ∧
  (∀ (d : Nat) (L : List Value) (x y : Int32) (st : List Value) (h : fk_H), fk_ev d qX4_factor 74 L (.int y :: .int x :: st) h = if x < y then fk_ev d qX4_factor 86 L st h else fk_ev d qX4_factor 77 L st h) ∧
  (∀ (d : Nat) (L st : List Value) (h : fk_H), fk_ev d qX4_factor 77 L st h = fk_ev d qX4_factor 78 L (.int (nI 5) :: st) h) ∧
  (∀ (d : Nat) (a1 a2 : Value) (x : Nat) (st : List Value) (h : fk_H), fk_ev d qX4_factor 78 [.ref x, a1, a2] st h = fk_ev d qX4_factor 79 [.ref x, a1, a2] (.ref x :: st) h) ∧
  (∀ (d : Nat) (L st : List Value) (N : Nat) (y : Nat → Nat → Int32) (l : Nat → Nat → Int64), fk_ev d qX4_factor 79 L (.ref 28 :: st) (fk_E N y l) = fk_ev d qX4_factor 82 L (.int (y 28 4) :: st) (fk_E N y l)) ∧
  (∀ (d : Nat) (L : List Value) (x0 : Int32) (x1 : Int32)  (h : fk_H), fk_ev (d + 1) qX4_factor 82 L (.int x1 :: .int x0 :: []) h = (fk_ev d qX11_faultAt 0 [.int x0, .int x1] [] h).bind fun o => fk_ev (d + 1) qX4_factor 85 L (o.1.toList ++ []) o.2) ∧
  (∀ (d : Nat) (L : List Value) (x : Int32) (h : fk_H), fk_ev d qX4_factor 85 L [.int x] h = some (some (.int x), h)) ∧
  (∀ (d : Nat) (a1 a2 : Value) (x : Nat) (st : List Value) (h : fk_H), fk_ev d qX4_factor 86 [.ref x, a1, a2] st h = fk_ev d qX4_factor 87 [.ref x, a1, a2] (.ref x :: st) h) ∧
  (∀ (d : Nat) (L : List Value)   (N : Nat) (y : Nat → Nat → Int32) (l : Nat → Nat → Int64), fk_ev (d + 1) qX4_factor 87 L (.ref 28 :: []) (fk_E N y l) = (fk_ev d qX4_advance 0 [.ref 28] [] (fk_E N y l)).bind fun o => fk_ev (d + 1) qX4_factor 90 L (o.1.toList ++ []) o.2) ∧
  (∀ (d : Nat) (a1 a2 : Value) (x : Nat) (st : List Value) (h : fk_H), fk_ev d qX4_factor 90 [.ref x, a1, a2] st h = fk_ev d qX4_factor 91 [.ref x, a1, a2] (.ref x :: st) h) ∧
  (∀ (d : Nat) (a0 a2 : Value) (x : Int32) (st : List Value) (h : fk_H), fk_ev d qX4_factor 91 [a0, .int x, a2] st h = fk_ev d qX4_factor 92 [a0, .int x, a2] (.int x :: st) h) ∧
  (∀ (d : Nat) (L st : List Value) (h : fk_H), fk_ev d qX4_factor 92 L st h = fk_ev d qX4_factor 93 L (.int (nI 1) :: st) h) ∧
  (∀ (d : Nat) (L : List Value) (x y : Int32) (st : List Value) (h : fk_H), fk_ev d qX4_factor 93 L (.int y :: .int x :: st) h = fk_ev d qX4_factor 94 L (.int (x + y) :: st) h) ∧
  (∀ (d : Nat) (L : List Value) (x0 : Int32)  (N : Nat) (y : Nat → Nat → Int32) (l : Nat → Nat → Int64), fk_ev (d + 1) qX4_factor 94 L (.int x0 :: .ref 28 :: []) (fk_E N y l) = (fk_ev d qX4_sum 0 [.ref 28, .int x0, .null, .null] [] (fk_E N y l)).bind fun o => fk_ev (d + 1) qX4_factor 97 L (o.1.toList ++ []) o.2) ∧
  (∀ (d : Nat) (a0 a1 a2 : Value) (x : Int32) (st : List Value) (h : fk_H), fk_ev d qX4_factor 97 [a0, a1, a2] (.int x :: st) h = fk_ev d qX4_factor 98 [a0, a1, .int x] st h) ∧
  (∀ (d : Nat) (a0 a1 : Value) (x : Int32) (st : List Value) (h : fk_H), fk_ev d qX4_factor 98 [a0, a1, .int x] st h = fk_ev d qX4_factor 99 [a0, a1, .int x] (.int x :: st) h) ∧
  (∀ (d : Nat) (L : List Value) (x : Int32) (st : List Value) (h : fk_H), fk_ev d qX4_factor 99 L (.int x :: st) h = if x = nI 0 then fk_ev d qX4_factor 106 L st h else fk_ev d qX4_factor 102 L st h) ∧
  (∀ (d : Nat) (a0 a1 : Value) (x : Int32) (st : List Value) (h : fk_H), fk_ev d qX4_factor 102 [a0, a1, .int x] st h = fk_ev d qX4_factor 103 [a0, a1, .int x] (.int x :: st) h) ∧
  (∀ (d : Nat) (L st : List Value) (h : fk_H), fk_ev d qX4_factor 103 L st h = fk_ev d qX4_factor 112 L st h) ∧
  (∀ (d : Nat) (a1 a2 : Value) (x : Nat) (st : List Value) (h : fk_H), fk_ev d qX4_factor 106 [.ref x, a1, a2] st h = fk_ev d qX4_factor 107 [.ref x, a1, a2] (.ref x :: st) h) ∧
  (∀ (d : Nat) (L st : List Value) (h : fk_H), fk_ev d qX4_factor 107 L st h = fk_ev d qX4_factor 109 L (.int (nI 93) :: st) h) ∧
  (∀ (d : Nat) (L : List Value) (x0 : Int32)  (N : Nat) (y : Nat → Nat → Int32) (l : Nat → Nat → Int64), fk_ev (d + 1) qX4_factor 109 L (.int x0 :: .ref 28 :: []) (fk_E N y l) = (fk_ev d qX4_sign 0 [.ref 28, .int x0] [] (fk_E N y l)).bind fun o => fk_ev (d + 1) qX4_factor 112 L (o.1.toList ++ []) o.2) ∧
  (∀ (d : Nat) (L : List Value) (x : Int32) (h : fk_H), fk_ev d qX4_factor 112 L [.int x] h = some (some (.int x), h)) := ⟨fun d a1 a2 x st h => fk_w_aloadn 0 [.ref x, a1, a2] dX4_factor_0 rfl,
  fun d L st N y l => fk_g_getI rfl lf_4_22 (by decide) dX4_factor_1 fk_at_28,
  fun d L st h => fk_w_bipush dX4_factor_4 (by decide),
  fun d L x y st h => fk_r_icmp_lt dX4_factor_6 (by decide),
  fun d a1 a2 x st h => fk_w_aloadn 0 [.ref x, a1, a2] dX4_factor_9 rfl,
  fun d L st N y l => fk_g_getI rfl lf_4_22 (by decide) dX4_factor_10 fk_at_28,
  fun d L st h => fk_w_bipush dX4_factor_13 (by decide),
  fun d L x y st h => fk_r_icmp_gt dX4_factor_15 (by decide),
  fun d a1 a2 x st h => fk_w_aloadn 0 [.ref x, a1, a2] dX4_factor_18 rfl,
  fun d L  N y l  => fk_g_call [] [] rfl lm_4_130 dX4_factor_19 rfl ⟨rfl, by decide⟩ (by simp) fk_at_28,
  fun d L x h => fk_r_ret dX4_factor_22 (Or.inl rfl),
  fun d a1 a2 x st h => fk_w_aloadn 0 [.ref x, a1, a2] dX4_factor_23 rfl,
  fun d L x0 N y l  => fk_g_call [.ref x0] [] rfl lm_4_73 dX4_factor_26 rfl ⟨rfl, by decide⟩ (by simp) fk_at_28,
  fun d L x st h => fk_r_if_eq dX4_factor_29 (by decide),
  fun d a1 a2 x st h => fk_w_aloadn 0 [.ref x, a1, a2] dX4_factor_32 rfl,
  fun d L st N y l => fk_g_getM rfl lf_4_29 (by decide) dX4_factor_33 fk_at_28,
  fun d L st h => fk_w_iconst dX4_factor_36 (by decide),
  fun d a1 a2 x st h => fk_w_aloadn 0 [.ref x, a1, a2] dX4_factor_37 rfl,
  fun d L st N y l => fk_g_getI rfl lf_4_22 (by decide) dX4_factor_38 fk_at_28,
  fun d L st h => fk_w_bipush dX4_factor_41 (by decide),
  fun d L x y st h => fk_r_isub dX4_factor_43,
  fun d L x0 x1 N y l c hc => fk_g_call [.int x0, .int x1] [] rfl lm_4_89 dX4_factor_44 rfl ⟨rfl, by decide⟩ (by simp) hc,
  fun d a1 a2 x st h => fk_w_aloadn 0 [.ref x, a1, a2] dX4_factor_47 rfl,
  fun d L  N y l  => fk_g_call [] [] rfl lm_4_68 dX4_factor_48 rfl ⟨rfl, by decide⟩ (by simp) fk_at_28,
  fun d L st h => fk_w_iconst dX4_factor_51 (by decide),
  fun d L x h => fk_r_ret dX4_factor_52 (Or.inl rfl),
  fun d a1 a2 x st h => fk_w_aloadn 0 [.ref x, a1, a2] dX4_factor_53 rfl,
  fun d L st N y l => fk_g_getI rfl lf_4_22 (by decide) dX4_factor_54 fk_at_28,
  fun d L st h => fk_w_bipush dX4_factor_57 (by decide),
  fun d L x y st h => fk_r_icmp_eq dX4_factor_59 (by decide),
  fun d L st h => fk_w_iconst dX4_factor_62 (by decide),
  fun d a1 a2 x st h => fk_w_aloadn 0 [.ref x, a1, a2] dX4_factor_63 rfl,
  fun d L st N y l => fk_g_getI rfl lf_4_19 (by decide) dX4_factor_64 fk_at_28,
  fun d L x0 x1 h => fk_g_calls [.int x0, .int x1] [] rfl lm_4_60 dX4_factor_67 rfl ⟨rfl, by decide⟩ (by simp),
  fun d L x h => fk_r_ret dX4_factor_70 (Or.inl rfl),
  fun d a0 a2 x st h => fk_w_iloadn 1 [a0, .int x, a2] dX4_factor_71 rfl,
  fun d L st h => fk_w_bipush dX4_factor_72 (by decide),
  fun d L x y st h => fk_r_icmp_lt dX4_factor_74 (by decide),
  fun d L st h => fk_w_iconst dX4_factor_77 (by decide),
  fun d a1 a2 x st h => fk_w_aloadn 0 [.ref x, a1, a2] dX4_factor_78 rfl,
  fun d L st N y l => fk_g_getI rfl lf_4_19 (by decide) dX4_factor_79 fk_at_28,
  fun d L x0 x1 h => fk_g_calls [.int x0, .int x1] [] rfl lm_4_60 dX4_factor_82 rfl ⟨rfl, by decide⟩ (by simp),
  fun d L x h => fk_r_ret dX4_factor_85 (Or.inl rfl),
  fun d a1 a2 x st h => fk_w_aloadn 0 [.ref x, a1, a2] dX4_factor_86 rfl,
  fun d L  N y l  => fk_g_call [] [] rfl lm_4_68 dX4_factor_87 rfl ⟨rfl, by decide⟩ (by simp) fk_at_28,
  fun d a1 a2 x st h => fk_w_aloadn 0 [.ref x, a1, a2] dX4_factor_90 rfl,
  fun d a0 a2 x st h => fk_w_iloadn 1 [a0, .int x, a2] dX4_factor_91 rfl,
  fun d L st h => fk_w_iconst dX4_factor_92 (by decide),
  fun d L x y st h => fk_r_iadd dX4_factor_93,
  fun d L x0 N y l  => fk_g_call [.int x0] [] rfl lm_4_93 dX4_factor_94 rfl ⟨rfl, by decide⟩ (by simp) fk_at_28,
  fun d a0 a1 a2 x st h => fk_w_istoren 2 3 [] [a0, a1, a2] [a0, a1, .int x] dX4_factor_97 rfl rfl (by decide) rfl,
  fun d a0 a1 x st h => fk_w_iloadn 2 [a0, a1, .int x] dX4_factor_98 rfl,
  fun d L x st h => fk_r_if_eq dX4_factor_99 (by decide),
  fun d a0 a1 x st h => fk_w_iloadn 2 [a0, a1, .int x] dX4_factor_102 rfl,
  fun d L st h => fk_r_goto dX4_factor_103 (by decide),
  fun d a1 a2 x st h => fk_w_aloadn 0 [.ref x, a1, a2] dX4_factor_106 rfl,
  fun d L st h => fk_w_bipush dX4_factor_107 (by decide),
  fun d L x0 N y l  => fk_g_call [.int x0] [] rfl lm_4_57 dX4_factor_109 rfl ⟨rfl, by decide⟩ (by simp) fk_at_28,
  fun d L x h => fk_r_ret dX4_factor_112 (Or.inl rfl)⟩
theorem dX4_number_0 : decode cX4_number 0 = .ok (.iconst 0, 1) := by decide +kernel
theorem dX4_number_1 : decode cX4_number 1 = .ok (.istore_n 1, 1) := by decide +kernel
theorem dX4_number_2 : decode cX4_number 2 = .ok (.iconst 0, 1) := by decide +kernel
theorem dX4_number_3 : decode cX4_number 3 = .ok (.istore_n 2, 1) := by decide +kernel
theorem dX4_number_4 : decode cX4_number 4 = .ok (.aload_n 0, 1) := by decide +kernel
theorem dX4_number_5 : decode cX4_number 5 = .ok (.getfield 22, 3) := by decide +kernel
theorem dX4_number_8 : decode cX4_number 8 = .ok (.bipush 48, 2) := by decide +kernel
theorem dX4_number_10 : decode cX4_number 10 = .ok (.if_icmp .lt 60, 3) := by decide +kernel
theorem dX4_number_13 : decode cX4_number 13 = .ok (.aload_n 0, 1) := by decide +kernel
theorem dX4_number_14 : decode cX4_number 14 = .ok (.getfield 22, 3) := by decide +kernel
theorem dX4_number_17 : decode cX4_number 17 = .ok (.bipush 57, 2) := by decide +kernel
theorem dX4_number_19 : decode cX4_number 19 = .ok (.if_icmp .gt 51, 3) := by decide +kernel
theorem dX4_number_22 : decode cX4_number 22 = .ok (.aload_n 0, 1) := by decide +kernel
theorem dX4_number_23 : decode cX4_number 23 = .ok (.getfield 19, 3) := by decide +kernel
theorem dX4_number_26 : decode cX4_number 26 = .ok (.aload_n 0, 1) := by decide +kernel
theorem dX4_number_27 : decode cX4_number 27 = .ok (.getfield 15, 3) := by decide +kernel
theorem dX4_number_30 : decode cX4_number 30 = .ok (.if_icmp .ge 40, 3) := by decide +kernel
theorem dX4_number_33 : decode cX4_number 33 = .ok (.iload_n 2, 1) := by decide +kernel
theorem dX4_number_34 : decode cX4_number 34 = .ok (.iconst 5, 1) := by decide +kernel
theorem dX4_number_35 : decode cX4_number 35 = .ok (.if_icmp .ne 12, 3) := by decide +kernel
theorem dX4_number_38 : decode cX4_number 38 = .ok (.iconst 2, 1) := by decide +kernel
theorem dX4_number_39 : decode cX4_number 39 = .ok (.aload_n 0, 1) := by decide +kernel
theorem dX4_number_40 : decode cX4_number 40 = .ok (.getfield 19, 3) := by decide +kernel
theorem dX4_number_43 : decode cX4_number 43 = .ok (.invokestatic 60, 3) := by decide +kernel
theorem dX4_number_46 : decode cX4_number 46 = .ok (.ireturn, 1) := by decide +kernel
theorem dX4_number_47 : decode cX4_number 47 = .ok (.bipush 10, 2) := by decide +kernel
theorem dX4_number_49 : decode cX4_number 49 = .ok (.iload_n 1, 1) := by decide +kernel
theorem dX4_number_50 : decode cX4_number 50 = .ok (.imul, 1) := by decide +kernel
theorem dX4_number_51 : decode cX4_number 51 = .ok (.aload_n 0, 1) := by decide +kernel
theorem dX4_number_52 : decode cX4_number 52 = .ok (.getfield 22, 3) := by decide +kernel
theorem dX4_number_55 : decode cX4_number 55 = .ok (.iadd, 1) := by decide +kernel
theorem dX4_number_56 : decode cX4_number 56 = .ok (.bipush 48, 2) := by decide +kernel
theorem dX4_number_58 : decode cX4_number 58 = .ok (.isub, 1) := by decide +kernel
theorem dX4_number_59 : decode cX4_number 59 = .ok (.istore_n 1, 1) := by decide +kernel
theorem dX4_number_60 : decode cX4_number 60 = .ok (.aload_n 0, 1) := by decide +kernel
theorem dX4_number_61 : decode cX4_number 61 = .ok (.invokevirtual 68, 3) := by decide +kernel
theorem dX4_number_64 : decode cX4_number 64 = .ok (.iinc 2 1, 3) := by decide +kernel
theorem dX4_number_67 : decode cX4_number 67 = .ok (.goto (-63), 3) := by decide +kernel
theorem dX4_number_70 : decode cX4_number 70 = .ok (.aload_n 0, 1) := by decide +kernel
theorem dX4_number_71 : decode cX4_number 71 = .ok (.getfield 29, 3) := by decide +kernel
theorem dX4_number_74 : decode cX4_number 74 = .ok (.iconst 0, 1) := by decide +kernel
theorem dX4_number_75 : decode cX4_number 75 = .ok (.iload_n 1, 1) := by decide +kernel
theorem dX4_number_76 : decode cX4_number 76 = .ok (.invokevirtual 89, 3) := by decide +kernel
theorem dX4_number_79 : decode cX4_number 79 = .ok (.iconst 0, 1) := by decide +kernel
theorem dX4_number_80 : decode cX4_number 80 = .ok (.ireturn, 1) := by decide +kernel
theorem rX4_number : (∀ (d : Nat) (L st : List Value) (h : fk_H), fk_ev d qX4_number 0 L st h = fk_ev d qX4_number 1 L (.int (nI 0) :: st) h) ∧
  (∀ (d : Nat) (a0 a1 a2 : Value) (x : Int32) (st : List Value) (h : fk_H), fk_ev d qX4_number 1 [a0, a1, a2] (.int x :: st) h = fk_ev d qX4_number 2 [a0, .int x, a2] st h) ∧
  (∀ (d : Nat) (L st : List Value) (h : fk_H), fk_ev d qX4_number 2 L st h = fk_ev d qX4_number 3 L (.int (nI 0) :: st) h) ∧
  (∀ (d : Nat) (a0 a1 a2 : Value) (x : Int32) (st : List Value) (h : fk_H), fk_ev d qX4_number 3 [a0, a1, a2] (.int x :: st) h = fk_ev d qX4_number 4 [a0, a1, .int x] st h) ∧
  (∀ (d : Nat) (L st : List Value) (N : Nat) (y : Nat → Nat → Int32) (l : Nat → Nat → Int64), fk_ev d qX4_number 5 L (.ref 28 :: st) (fk_E N y l) = fk_ev d qX4_number 8 L (.int (y 28 5) :: st) (fk_E N y l)) ∧
  (∀ (d : Nat) (L st : List Value) (h : fk_H), fk_ev d qX4_number 8 L st h = fk_ev d qX4_number 10 L (.int (nI 48) :: st) h) ∧
  (∀ (d : Nat) (L : List Value) (x y : Int32) (st : List Value) (h : fk_H), fk_ev d qX4_number 10 L (.int y :: .int x :: st) h = if x < y then fk_ev d qX4_number 70 L st h else fk_ev d qX4_number 13 L st h) ∧
  (∀ (d : Nat) (a1 a2 : Value) (x : Nat) (st : List Value) (h : fk_H), fk_ev d qX4_number 13 [.ref x, a1, a2] st h = fk_ev d qX4_number 14 [.ref x, a1, a2] (.ref x :: st) h) ∧
  (∀ (d : Nat) (L st : List Value) (N : Nat) (y : Nat → Nat → Int32) (l : Nat → Nat → Int64), fk_ev d qX4_number 14 L (.ref 28 :: st) (fk_E N y l) = fk_ev d qX4_number 17 L (.int (y 28 5) :: st) (fk_E N y l)) ∧
  (∀ (d : Nat) (L st : List Value) (h : fk_H), fk_ev d qX4_number 17 L st h = fk_ev d qX4_number 19 L (.int (nI 57) :: st) h) ∧
  (∀ (d : Nat) (L : List Value) (x y : Int32) (st : List Value) (h : fk_H), fk_ev d qX4_number 19 L (.int y :: .int x :: st) h = if y < x then fk_ev d qX4_number 70 L st h else fk_ev d qX4_number 22 L st h) ∧
  (∀ (d : Nat) (a1 a2 : Value) (x : Nat) (st : List Value) (h : fk_H), fk_ev d qX4_number 22 [.ref x, a1, a2] st h = fk_ev d qX4_number 23 [.ref x, a1, a2] (.ref x :: st) h) ∧
  (∀ (d : Nat) (L st : List Value) (N : Nat) (y : Nat → Nat → Int32) (l : Nat → Nat → Int64), fk_ev d qX4_number 23 L (.ref 28 :: st) (fk_E N y l) = fk_ev d qX4_number 26 L (.int (y 28 4) :: st) (fk_E N y l)) ∧
  (∀ (d : Nat) (a1 a2 : Value) (x : Nat) (st : List Value) (h : fk_H), fk_ev d qX4_number 26 [.ref x, a1, a2] st h = fk_ev d qX4_number 27 [.ref x, a1, a2] (.ref x :: st) h) ∧
  (∀ (d : Nat) (L st : List Value) (N : Nat) (y : Nat → Nat → Int32) (l : Nat → Nat → Int64), fk_ev d qX4_number 27 L (.ref 28 :: st) (fk_E N y l) = fk_ev d qX4_number 30 L (.int (y 28 3) :: st) (fk_E N y l)) ∧
  (∀ (d : Nat) (L : List Value) (x y : Int32) (st : List Value) (h : fk_H), fk_ev d qX4_number 30 L (.int y :: .int x :: st) h = if y ≤ x then fk_ev d qX4_number 70 L st h else fk_ev d qX4_number 33 L st h) ∧
  (∀ (d : Nat) (a0 a1 : Value) (x : Int32) (st : List Value) (h : fk_H), fk_ev d qX4_number 33 [a0, a1, .int x] st h = fk_ev d qX4_number 34 [a0, a1, .int x] (.int x :: st) h) ∧
  (∀ (d : Nat) (L st : List Value) (h : fk_H), fk_ev d qX4_number 34 L st h = fk_ev d qX4_number 35 L (.int (nI 5) :: st) h) ∧
  (∀ (d : Nat) (L : List Value) (x y : Int32) (st : List Value) (h : fk_H), fk_ev d qX4_number 35 L (.int y :: .int x :: st) h = if ¬ x = y then fk_ev d qX4_number 47 L st h else fk_ev d qX4_number 38 L st h) ∧
  (∀ (d : Nat) (L st : List Value) (h : fk_H), fk_ev d qX4_number 38 L st h = fk_ev d qX4_number 39 L (.int (nI 2) :: st) h) ∧
  (∀ (d : Nat) (a1 a2 : Value) (x : Nat) (st : List Value) (h : fk_H), fk_ev d qX4_number 39 [.ref x, a1, a2] st h = fk_ev d qX4_number 40 [.ref x, a1, a2] (.ref x :: st) h) ∧
  (∀ (d : Nat) (L st : List Value) (N : Nat) (y : Nat → Nat → Int32) (l : Nat → Nat → Int64), fk_ev d qX4_number 40 L (.ref 28 :: st) (fk_E N y l) = fk_ev d qX4_number 43 L (.int (y 28 4) :: st) (fk_E N y l)) ∧
  (∀ (d : Nat) (L : List Value) (x0 : Int32) (x1 : Int32)  (h : fk_H), fk_ev (d + 1) qX4_number 43 L (.int x1 :: .int x0 :: []) h = (fk_ev d qX11_faultAt 0 [.int x0, .int x1] [] h).bind fun o => fk_ev (d + 1) qX4_number 46 L (o.1.toList ++ []) o.2) ∧
  (∀ (d : Nat) (L : List Value) (x : Int32) (h : fk_H), fk_ev d qX4_number 46 L [.int x] h = some (some (.int x), h)) ∧
  (∀ (d : Nat) (L st : List Value) (h : fk_H), fk_ev d qX4_number 47 L st h = fk_ev d qX4_number 49 L (.int (nI 10) :: st) h) ∧
  (∀ (d : Nat) (a0 a2 : Value) (x : Int32) (st : List Value) (h : fk_H), fk_ev d qX4_number 49 [a0, .int x, a2] st h = fk_ev d qX4_number 50 [a0, .int x, a2] (.int x :: st) h) ∧
  (∀ (d : Nat) (L : List Value) (x y : Int32) (st : List Value) (h : fk_H), fk_ev d qX4_number 50 L (.int y :: .int x :: st) h = fk_ev d qX4_number 51 L (.int (x * y) :: st) h) ∧
  (∀ (d : Nat) (a1 a2 : Value) (x : Nat) (st : List Value) (h : fk_H), fk_ev d qX4_number 51 [.ref x, a1, a2] st h = fk_ev d qX4_number 52 [.ref x, a1, a2] (.ref x :: st) h) ∧
  (∀ (d : Nat) (L st : List Value) (N : Nat) (y : Nat → Nat → Int32) (l : Nat → Nat → Int64), fk_ev d qX4_number 52 L (.ref 28 :: st) (fk_E N y l) = fk_ev d qX4_number 55 L (.int (y 28 5) :: st) (fk_E N y l)) ∧
  (∀ (d : Nat) (L : List Value) (x y : Int32) (st : List Value) (h : fk_H), fk_ev d qX4_number 55 L (.int y :: .int x :: st) h = fk_ev d qX4_number 56 L (.int (x + y) :: st) h) ∧
  (∀ (d : Nat) (L st : List Value) (h : fk_H), fk_ev d qX4_number 56 L st h = fk_ev d qX4_number 58 L (.int (nI 48) :: st) h) ∧
  (∀ (d : Nat) (L : List Value) (x y : Int32) (st : List Value) (h : fk_H), fk_ev d qX4_number 58 L (.int y :: .int x :: st) h = fk_ev d qX4_number 59 L (.int (x - y) :: st) h) ∧
  (∀ (d : Nat) (a0 a1 a2 : Value) (x : Int32) (st : List Value) (h : fk_H), fk_ev d qX4_number 59 [a0, a1, a2] (.int x :: st) h = fk_ev d qX4_number 60 [a0, .int x, a2] st h) ∧
  (∀ (d : Nat) (a1 a2 : Value) (x : Nat) (st : List Value) (h : fk_H), fk_ev d qX4_number 60 [.ref x, a1, a2] st h = fk_ev d qX4_number 61 [.ref x, a1, a2] (.ref x :: st) h) ∧
  (∀ (d : Nat) (L : List Value)   (N : Nat) (y : Nat → Nat → Int32) (l : Nat → Nat → Int64), fk_ev (d + 1) qX4_number 61 L (.ref 28 :: []) (fk_E N y l) = (fk_ev d qX4_advance 0 [.ref 28] [] (fk_E N y l)).bind fun o => fk_ev (d + 1) qX4_number 64 L (o.1.toList ++ []) o.2) ∧
  (∀ (d : Nat) (a0 a1 : Value) (x : Int32) (st : List Value) (h : fk_H), fk_ev d qX4_number 64 [a0, a1, .int x] st h = fk_ev d qX4_number 67 [a0, a1, .int (x + nI 1)] st h) ∧
  (∀ (d : Nat) (L st : List Value) (h : fk_H), fk_ev d qX4_number 67 L st h = fk_ev d qX4_number 4 L st h) ∧
  (∀ (d : Nat) (a1 a2 : Value) (x : Nat) (st : List Value) (h : fk_H), fk_ev d qX4_number 70 [.ref x, a1, a2] st h = fk_ev d qX4_number 71 [.ref x, a1, a2] (.ref x :: st) h) ∧
  (∀ (d : Nat) (L st : List Value) (N : Nat) (y : Nat → Nat → Int32) (l : Nat → Nat → Int64), fk_ev d qX4_number 71 L (.ref 28 :: st) (fk_E N y l) = fk_ev d qX4_number 74 L (.ref (y 28 2).toNatClampNeg :: st) (fk_E N y l)) ∧
  (∀ (d : Nat) (L st : List Value) (h : fk_H), fk_ev d qX4_number 74 L st h = fk_ev d qX4_number 75 L (.int (nI 0) :: st) h) ∧
  (∀ (d : Nat) (a0 a2 : Value) (x : Int32) (st : List Value) (h : fk_H), fk_ev d qX4_number 75 [a0, .int x, a2] st h = fk_ev d qX4_number 76 [a0, .int x, a2] (.int x :: st) h) ∧
  (∀ (d : Nat) (L : List Value) (x0 : Int32) (x1 : Int32)  (N : Nat) (y : Nat → Nat → Int32) (l : Nat → Nat → Int64) (c : Nat), fk_at c 3 → fk_ev (d + 1) qX4_number 76 L (.int x1 :: .int x0 :: .ref c :: []) (fk_E N y l) = (fk_ev d qX3_add 0 [.ref c, .int x0, .int x1] [] (fk_E N y l)).bind fun o => fk_ev (d + 1) qX4_number 79 L (o.1.toList ++ []) o.2) ∧
  (∀ (d : Nat) (L st : List Value) (h : fk_H), fk_ev d qX4_number 79 L st h = fk_ev d qX4_number 80 L (.int (nI 0) :: st) h) ∧
  (∀ (d : Nat) (L : List Value) (x : Int32) (h : fk_H), fk_ev d qX4_number 80 L [.int x] h = some (some (.int x), h)) := ⟨fun d L st h => fk_w_iconst dX4_number_0 (by decide),
  fun d a0 a1 a2 x st h => fk_w_istoren 1 3 [] [a0, a1, a2] [a0, .int x, a2] dX4_number_1 rfl rfl (by decide) rfl,
  fun d L st h => fk_w_iconst dX4_number_2 (by decide),
  fun d a0 a1 a2 x st h => fk_w_istoren 2 3 [] [a0, a1, a2] [a0, a1, .int x] dX4_number_3 rfl rfl (by decide) rfl,
  fun d L st N y l => fk_g_getI rfl lf_4_22 (by decide) dX4_number_5 fk_at_28,
  fun d L st h => fk_w_bipush dX4_number_8 (by decide),
  fun d L x y st h => fk_r_icmp_lt dX4_number_10 (by decide),
  fun d a1 a2 x st h => fk_w_aloadn 0 [.ref x, a1, a2] dX4_number_13 rfl,
  fun d L st N y l => fk_g_getI rfl lf_4_22 (by decide) dX4_number_14 fk_at_28,
  fun d L st h => fk_w_bipush dX4_number_17 (by decide),
  fun d L x y st h => fk_r_icmp_gt dX4_number_19 (by decide),
  fun d a1 a2 x st h => fk_w_aloadn 0 [.ref x, a1, a2] dX4_number_22 rfl,
  fun d L st N y l => fk_g_getI rfl lf_4_19 (by decide) dX4_number_23 fk_at_28,
  fun d a1 a2 x st h => fk_w_aloadn 0 [.ref x, a1, a2] dX4_number_26 rfl,
  fun d L st N y l => fk_g_getI rfl lf_4_15 (by decide) dX4_number_27 fk_at_28,
  fun d L x y st h => fk_r_icmp_ge dX4_number_30 (by decide),
  fun d a0 a1 x st h => fk_w_iloadn 2 [a0, a1, .int x] dX4_number_33 rfl,
  fun d L st h => fk_w_iconst dX4_number_34 (by decide),
  fun d L x y st h => fk_r_icmp_ne dX4_number_35 (by decide),
  fun d L st h => fk_w_iconst dX4_number_38 (by decide),
  fun d a1 a2 x st h => fk_w_aloadn 0 [.ref x, a1, a2] dX4_number_39 rfl,
  fun d L st N y l => fk_g_getI rfl lf_4_19 (by decide) dX4_number_40 fk_at_28,
  fun d L x0 x1 h => fk_g_calls [.int x0, .int x1] [] rfl lm_4_60 dX4_number_43 rfl ⟨rfl, by decide⟩ (by simp),
  fun d L x h => fk_r_ret dX4_number_46 (Or.inl rfl),
  fun d L st h => fk_w_bipush dX4_number_47 (by decide),
  fun d a0 a2 x st h => fk_w_iloadn 1 [a0, .int x, a2] dX4_number_49 rfl,
  fun d L x y st h => fk_r_imul dX4_number_50,
  fun d a1 a2 x st h => fk_w_aloadn 0 [.ref x, a1, a2] dX4_number_51 rfl,
  fun d L st N y l => fk_g_getI rfl lf_4_22 (by decide) dX4_number_52 fk_at_28,
  fun d L x y st h => fk_r_iadd dX4_number_55,
  fun d L st h => fk_w_bipush dX4_number_56 (by decide),
  fun d L x y st h => fk_r_isub dX4_number_58,
  fun d a0 a1 a2 x st h => fk_w_istoren 1 3 [] [a0, a1, a2] [a0, .int x, a2] dX4_number_59 rfl rfl (by decide) rfl,
  fun d a1 a2 x st h => fk_w_aloadn 0 [.ref x, a1, a2] dX4_number_60 rfl,
  fun d L  N y l  => fk_g_call [] [] rfl lm_4_68 dX4_number_61 rfl ⟨rfl, by decide⟩ (by simp) fk_at_28,
  fun d a0 a1 x st h => fk_w_iinc 2 3 (1) [] [a0, a1, .int x] [a0, a1, .int (x + nI 1)] dX4_number_64 rfl rfl rfl (by decide) rfl,
  fun d L st h => fk_r_goto dX4_number_67 (by decide),
  fun d a1 a2 x st h => fk_w_aloadn 0 [.ref x, a1, a2] dX4_number_70 rfl,
  fun d L st N y l => fk_g_getM rfl lf_4_29 (by decide) dX4_number_71 fk_at_28,
  fun d L st h => fk_w_iconst dX4_number_74 (by decide),
  fun d a0 a2 x st h => fk_w_iloadn 1 [a0, .int x, a2] dX4_number_75 rfl,
  fun d L x0 x1 N y l c hc => fk_g_call [.int x0, .int x1] [] rfl lm_4_89 dX4_number_76 rfl ⟨rfl, by decide⟩ (by simp) hc,
  fun d L st h => fk_w_iconst dX4_number_79 (by decide),
  fun d L x h => fk_r_ret dX4_number_80 (Or.inl rfl)⟩
theorem hX4_number_4 : ∀ (d : Nat) (a1 a2 : Value) (x : Nat) (st : List Value) (h : fk_H), fk_ev d qX4_number 4 [.ref x, a1, a2] st h = fk_ev d qX4_number 5 [.ref x, a1, a2] (.ref x :: st) h := fun d a1 a2 x st h => fk_w_aloadn 0 [.ref x, a1, a2] dX4_number_4 rfl
theorem dX5_tellRoad_0 : decode cX5_tellRoad 0 = .ok (.aload_n 0, 1) := by decide +kernel
theorem dX5_tellRoad_1 : decode cX5_tellRoad 1 = .ok (.getfield 9, 3) := by decide +kernel
theorem dX5_tellRoad_4 : decode cX5_tellRoad 4 = .ok (.iload_n 1, 1) := by decide +kernel
theorem dX5_tellRoad_5 : decode cX5_tellRoad 5 = .ok (.iload_n 2, 1) := by decide +kernel
theorem dX5_tellRoad_6 : decode cX5_tellRoad 6 = .ok (.iastore, 1) := by decide +kernel
theorem dX5_tellRoad_7 : decode cX5_tellRoad 7 = .ok (.aload_n 0, 1) := by decide +kernel
theorem dX5_tellRoad_8 : decode cX5_tellRoad 8 = .ok (.getfield 15, 3) := by decide +kernel
theorem dX5_tellRoad_11 : decode cX5_tellRoad 11 = .ok (.iload_n 1, 1) := by decide +kernel
theorem dX5_tellRoad_12 : decode cX5_tellRoad 12 = .ok (.iload_n 3, 1) := by decide +kernel
theorem dX5_tellRoad_13 : decode cX5_tellRoad 13 = .ok (.iastore, 1) := by decide +kernel
theorem dX5_tellRoad_14 : decode cX5_tellRoad 14 = .ok (.aload_n 0, 1) := by decide +kernel
theorem dX5_tellRoad_15 : decode cX5_tellRoad 15 = .ok (.getfield 18, 3) := by decide +kernel
theorem dX5_tellRoad_18 : decode cX5_tellRoad 18 = .ok (.iload_n 1, 1) := by decide +kernel
theorem dX5_tellRoad_19 : decode cX5_tellRoad 19 = .ok (.iload 4, 2) := by decide +kernel
theorem dX5_tellRoad_21 : decode cX5_tellRoad 21 = .ok (.iastore, 1) := by decide +kernel
theorem dX5_tellRoad_22 : decode cX5_tellRoad 22 = .ok (.aload_n 0, 1) := by decide +kernel
theorem dX5_tellRoad_23 : decode cX5_tellRoad 23 = .ok (.getfield 27, 3) := by decide +kernel
theorem dX5_tellRoad_26 : decode cX5_tellRoad 26 = .ok (.iconst 0, 1) := by decide +kernel
theorem dX5_tellRoad_27 : decode cX5_tellRoad 27 = .ok (.invokestatic 34, 3) := by decide +kernel
theorem dX5_tellRoad_30 : decode cX5_tellRoad 30 = .ok (.iconst 0, 1) := by decide +kernel
theorem dX5_tellRoad_31 : decode cX5_tellRoad 31 = .ok (.istore 5, 2) := by decide +kernel
theorem dX5_tellRoad_33 : decode cX5_tellRoad 33 = .ok (.iload 5, 2) := by decide +kernel
theorem dX5_tellRoad_35 : decode cX5_tellRoad 35 = .ok (.bipush 32, 2) := by decide +kernel
theorem dX5_tellRoad_37 : decode cX5_tellRoad 37 = .ok (.if_icmp .ge 42, 3) := by decide +kernel
theorem dX5_tellRoad_40 : decode cX5_tellRoad 40 = .ok (.aload_n 0, 1) := by decide +kernel
theorem dX5_tellRoad_41 : decode cX5_tellRoad 41 = .ok (.iload 5, 2) := by decide +kernel
theorem dX5_tellRoad_43 : decode cX5_tellRoad 43 = .ok (.invokevirtual 40, 3) := by decide +kernel
theorem dX5_tellRoad_46 : decode cX5_tellRoad 46 = .ok (.ifCond .eq 27, 3) := by decide +kernel
theorem dX5_tellRoad_49 : decode cX5_tellRoad 49 = .ok (.aload_n 0, 1) := by decide +kernel
theorem dX5_tellRoad_50 : decode cX5_tellRoad 50 = .ok (.getfield 27, 3) := by decide +kernel
theorem dX5_tellRoad_53 : decode cX5_tellRoad 53 = .ok (.aload_n 0, 1) := by decide +kernel
theorem dX5_tellRoad_54 : decode cX5_tellRoad 54 = .ok (.getfield 9, 3) := by decide +kernel
theorem dX5_tellRoad_57 : decode cX5_tellRoad 57 = .ok (.iload 5, 2) := by decide +kernel
theorem dX5_tellRoad_59 : decode cX5_tellRoad 59 = .ok (.iaload, 1) := by decide +kernel
theorem dX5_tellRoad_60 : decode cX5_tellRoad 60 = .ok (.dup2, 1) := by decide +kernel
theorem dX5_tellRoad_61 : decode cX5_tellRoad 61 = .ok (.iaload, 1) := by decide +kernel
theorem dX5_tellRoad_62 : decode cX5_tellRoad 62 = .ok (.iconst 1, 1) := by decide +kernel
theorem dX5_tellRoad_63 : decode cX5_tellRoad 63 = .ok (.aload_n 0, 1) := by decide +kernel
theorem dX5_tellRoad_64 : decode cX5_tellRoad 64 = .ok (.getfield 15, 3) := by decide +kernel
theorem dX5_tellRoad_67 : decode cX5_tellRoad 67 = .ok (.iload 5, 2) := by decide +kernel
theorem dX5_tellRoad_69 : decode cX5_tellRoad 69 = .ok (.iaload, 1) := by decide +kernel
theorem dX5_tellRoad_70 : decode cX5_tellRoad 70 = .ok (.ishl, 1) := by decide +kernel
theorem dX5_tellRoad_71 : decode cX5_tellRoad 71 = .ok (.ior, 1) := by decide +kernel
theorem dX5_tellRoad_72 : decode cX5_tellRoad 72 = .ok (.iastore, 1) := by decide +kernel
theorem dX5_tellRoad_73 : decode cX5_tellRoad 73 = .ok (.iinc 5 1, 3) := by decide +kernel
theorem dX5_tellRoad_76 : decode cX5_tellRoad 76 = .ok (.goto (-43), 3) := by decide +kernel
theorem dX5_tellRoad_79 : decode cX5_tellRoad 79 = .ok (.return_, 1) := by decide +kernel
theorem rX5_tellRoad : (∀ (d : Nat) (a1 a2 a3 a4 a5 : Value) (x : Nat) (st : List Value) (h : fk_H), fk_ev d qX5_tellRoad 0 [.ref x, a1, a2, a3, a4, a5] st h = fk_ev d qX5_tellRoad 1 [.ref x, a1, a2, a3, a4, a5] (.ref x :: st) h) ∧
  (∀ (d : Nat) (L st : List Value) (N : Nat) (y : Nat → Nat → Int32) (l : Nat → Nat → Int64), fk_ev d qX5_tellRoad 1 L (.ref 18 :: st) (fk_E N y l) = fk_ev d qX5_tellRoad 4 L (.ref 19 :: st) (fk_E N y l)) ∧
  (∀ (d : Nat) (a0 a2 a3 a4 a5 : Value) (x : Int32) (st : List Value) (h : fk_H), fk_ev d qX5_tellRoad 4 [a0, .int x, a2, a3, a4, a5] st h = fk_ev d qX5_tellRoad 5 [a0, .int x, a2, a3, a4, a5] (.int x :: st) h) ∧
  (∀ (d : Nat) (a0 a1 a3 a4 a5 : Value) (x : Int32) (st : List Value) (h : fk_H), fk_ev d qX5_tellRoad 5 [a0, a1, .int x, a3, a4, a5] st h = fk_ev d qX5_tellRoad 6 [a0, a1, .int x, a3, a4, a5] (.int x :: st) h) ∧
  (∀ (d : Nat) (L st : List Value) (N : Nat) (y : Nat → Nat → Int32) (l : Nat → Nat → Int64) (i : Nat) (v : Int32), i < 32 → fk_ev d qX5_tellRoad 6 L (.int v :: .int (nI i) :: .ref 19 :: st) (fk_E N y l) = fk_ev d qX5_tellRoad 7 L st (fk_E N (fk_u y 19 i v) l)) ∧
  (∀ (d : Nat) (a1 a2 a3 a4 a5 : Value) (x : Nat) (st : List Value) (h : fk_H), fk_ev d qX5_tellRoad 7 [.ref x, a1, a2, a3, a4, a5] st h = fk_ev d qX5_tellRoad 8 [.ref x, a1, a2, a3, a4, a5] (.ref x :: st) h) ∧
  (∀ (d : Nat) (L st : List Value) (N : Nat) (y : Nat → Nat → Int32) (l : Nat → Nat → Int64), fk_ev d qX5_tellRoad 8 L (.ref 18 :: st) (fk_E N y l) = fk_ev d qX5_tellRoad 11 L (.ref 20 :: st) (fk_E N y l)) ∧
  (∀ (d : Nat) (a0 a2 a3 a4 a5 : Value) (x : Int32) (st : List Value) (h : fk_H), fk_ev d qX5_tellRoad 11 [a0, .int x, a2, a3, a4, a5] st h = fk_ev d qX5_tellRoad 12 [a0, .int x, a2, a3, a4, a5] (.int x :: st) h) ∧
  (∀ (d : Nat) (a0 a1 a2 a4 a5 : Value) (x : Int32) (st : List Value) (h : fk_H), fk_ev d qX5_tellRoad 12 [a0, a1, a2, .int x, a4, a5] st h = fk_ev d qX5_tellRoad 13 [a0, a1, a2, .int x, a4, a5] (.int x :: st) h) ∧
  (∀ (d : Nat) (L st : List Value) (N : Nat) (y : Nat → Nat → Int32) (l : Nat → Nat → Int64) (i : Nat) (v : Int32), i < 32 → fk_ev d qX5_tellRoad 13 L (.int v :: .int (nI i) :: .ref 20 :: st) (fk_E N y l) = fk_ev d qX5_tellRoad 14 L st (fk_E N (fk_u y 20 i v) l)) ∧
  (∀ (d : Nat) (a1 a2 a3 a4 a5 : Value) (x : Nat) (st : List Value) (h : fk_H), fk_ev d qX5_tellRoad 14 [.ref x, a1, a2, a3, a4, a5] st h = fk_ev d qX5_tellRoad 15 [.ref x, a1, a2, a3, a4, a5] (.ref x :: st) h) ∧
  (∀ (d : Nat) (L st : List Value) (N : Nat) (y : Nat → Nat → Int32) (l : Nat → Nat → Int64), fk_ev d qX5_tellRoad 15 L (.ref 18 :: st) (fk_E N y l) = fk_ev d qX5_tellRoad 18 L (.ref 21 :: st) (fk_E N y l)) ∧
  (∀ (d : Nat) (a0 a2 a3 a4 a5 : Value) (x : Int32) (st : List Value) (h : fk_H), fk_ev d qX5_tellRoad 18 [a0, .int x, a2, a3, a4, a5] st h = fk_ev d qX5_tellRoad 19 [a0, .int x, a2, a3, a4, a5] (.int x :: st) h) ∧
  (∀ (d : Nat) (a0 a1 a2 a3 a5 : Value) (x : Int32) (st : List Value) (h : fk_H), fk_ev d qX5_tellRoad 19 [a0, a1, a2, a3, .int x, a5] st h = fk_ev d qX5_tellRoad 21 [a0, a1, a2, a3, .int x, a5] (.int x :: st) h) ∧
  (∀ (d : Nat) (L st : List Value) (N : Nat) (y : Nat → Nat → Int32) (l : Nat → Nat → Int64) (i : Nat) (v : Int32), i < 32 → fk_ev d qX5_tellRoad 21 L (.int v :: .int (nI i) :: .ref 21 :: st) (fk_E N y l) = fk_ev d qX5_tellRoad 22 L st (fk_E N (fk_u y 21 i v) l)) ∧
  (∀ (d : Nat) (a1 a2 a3 a4 a5 : Value) (x : Nat) (st : List Value) (h : fk_H), fk_ev d qX5_tellRoad 22 [.ref x, a1, a2, a3, a4, a5] st h = fk_ev d qX5_tellRoad 23 [.ref x, a1, a2, a3, a4, a5] (.ref x :: st) h) ∧
  (∀ (d : Nat) (L st : List Value) (N : Nat) (y : Nat → Nat → Int32) (l : Nat → Nat → Int64), fk_ev d qX5_tellRoad 23 L (.ref 18 :: st) (fk_E N y l) = fk_ev d qX5_tellRoad 26 L (.ref 24 :: st) (fk_E N y l)) ∧
  (∀ (d : Nat) (L st : List Value) (h : fk_H), fk_ev d qX5_tellRoad 26 L st h = fk_ev d qX5_tellRoad 27 L (.int (nI 0) :: st) h) ∧
  (∀ (d : Nat) (L : List Value) (x0 : Nat) (x1 : Int32)  (h : fk_H), fk_ev (d + 1) qX5_tellRoad 27 L (.int x1 :: .ref x0 :: []) h = (fk_ev d qJ7_fill_53178 0 [.ref x0, .int x1, .null, .null] [] h).bind fun o => fk_ev (d + 1) qX5_tellRoad 30 L (o.1.toList ++ []) o.2) ∧
  (∀ (d : Nat) (L st : List Value) (h : fk_H), fk_ev d qX5_tellRoad 30 L st h = fk_ev d qX5_tellRoad 31 L (.int (nI 0) :: st) h) ∧
  (∀ (d : Nat) (a0 a1 a2 a3 a4 a5 : Value) (x : Int32) (st : List Value) (h : fk_H), fk_ev d qX5_tellRoad 31 [a0, a1, a2, a3, a4, a5] (.int x :: st) h = fk_ev d qX5_tellRoad 33 [a0, a1, a2, a3, a4, .int x] st h) ∧
  (∀ (d : Nat) (L st : List Value) (h : fk_H), fk_ev d qX5_tellRoad 35 L st h = fk_ev d qX5_tellRoad 37 L (.int (nI 32) :: st) h) ∧
  (∀ (d : Nat) (L : List Value) (x y : Int32) (st : List Value) (h : fk_H), fk_ev d qX5_tellRoad 37 L (.int y :: .int x :: st) h = if y ≤ x then fk_ev d qX5_tellRoad 79 L st h else fk_ev d qX5_tellRoad 40 L st h) ∧
  (∀ (d : Nat) (a1 a2 a3 a4 a5 : Value) (x : Nat) (st : List Value) (h : fk_H), fk_ev d qX5_tellRoad 40 [.ref x, a1, a2, a3, a4, a5] st h = fk_ev d qX5_tellRoad 41 [.ref x, a1, a2, a3, a4, a5] (.ref x :: st) h) ∧
  (∀ (d : Nat) (a0 a1 a2 a3 a4 : Value) (x : Int32) (st : List Value) (h : fk_H), fk_ev d qX5_tellRoad 41 [a0, a1, a2, a3, a4, .int x] st h = fk_ev d qX5_tellRoad 43 [a0, a1, a2, a3, a4, .int x] (.int x :: st) h) ∧
  (∀ (d : Nat) (L : List Value) (x0 : Int32)  (N : Nat) (y : Nat → Nat → Int32) (l : Nat → Nat → Int64), fk_ev (d + 1) qX5_tellRoad 43 L (.int x0 :: .ref 18 :: []) (fk_E N y l) = (fk_ev d qX5_isTold 0 [.ref 18, .int x0] [] (fk_E N y l)).bind fun o => fk_ev (d + 1) qX5_tellRoad 46 L (o.1.toList ++ []) o.2) ∧
  (∀ (d : Nat) (L : List Value) (x : Int32) (st : List Value) (h : fk_H), fk_ev d qX5_tellRoad 46 L (.int x :: st) h = if x = nI 0 then fk_ev d qX5_tellRoad 73 L st h else fk_ev d qX5_tellRoad 49 L st h) ∧
  (∀ (d : Nat) (a1 a2 a3 a4 a5 : Value) (x : Nat) (st : List Value) (h : fk_H), fk_ev d qX5_tellRoad 49 [.ref x, a1, a2, a3, a4, a5] st h = fk_ev d qX5_tellRoad 50 [.ref x, a1, a2, a3, a4, a5] (.ref x :: st) h) ∧
  (∀ (d : Nat) (L st : List Value) (N : Nat) (y : Nat → Nat → Int32) (l : Nat → Nat → Int64), fk_ev d qX5_tellRoad 50 L (.ref 18 :: st) (fk_E N y l) = fk_ev d qX5_tellRoad 53 L (.ref 24 :: st) (fk_E N y l)) ∧
  (∀ (d : Nat) (a1 a2 a3 a4 a5 : Value) (x : Nat) (st : List Value) (h : fk_H), fk_ev d qX5_tellRoad 53 [.ref x, a1, a2, a3, a4, a5] st h = fk_ev d qX5_tellRoad 54 [.ref x, a1, a2, a3, a4, a5] (.ref x :: st) h) ∧
  (∀ (d : Nat) (L st : List Value) (N : Nat) (y : Nat → Nat → Int32) (l : Nat → Nat → Int64), fk_ev d qX5_tellRoad 54 L (.ref 18 :: st) (fk_E N y l) = fk_ev d qX5_tellRoad 57 L (.ref 19 :: st) (fk_E N y l)) ∧
  (∀ (d : Nat) (a0 a1 a2 a3 a4 : Value) (x : Int32) (st : List Value) (h : fk_H), fk_ev d qX5_tellRoad 57 [a0, a1, a2, a3, a4, .int x] st h = fk_ev d qX5_tellRoad 59 [a0, a1, a2, a3, a4, .int x] (.int x :: st) h) ∧
  (∀ (d : Nat) (L st : List Value) (N : Nat) (y : Nat → Nat → Int32) (l : Nat → Nat → Int64) (i : Nat), i < 32 → fk_ev d qX5_tellRoad 59 L (.int (nI i) :: .ref 19 :: st) (fk_E N y l) = fk_ev d qX5_tellRoad 60 L (.int (y 19 i) :: st) (fk_E N y l)) ∧
  (∀ (d : Nat) (L : List Value) (x : Int32) (c : Nat) (st : List Value) (h : fk_H), fk_ev d qX5_tellRoad 60 L (.int x :: .ref c :: st) h = fk_ev d qX5_tellRoad 61 L (.int x :: .ref c :: .int x :: .ref c :: st) h) ∧
  (∀ (d : Nat) (L st : List Value) (N : Nat) (y : Nat → Nat → Int32) (l : Nat → Nat → Int64) (i : Nat), i < 16 → fk_ev d qX5_tellRoad 61 L (.int (nI i) :: .ref 24 :: st) (fk_E N y l) = fk_ev d qX5_tellRoad 62 L (.int (y 24 i) :: st) (fk_E N y l)) ∧
  (∀ (d : Nat) (L st : List Value) (h : fk_H), fk_ev d qX5_tellRoad 62 L st h = fk_ev d qX5_tellRoad 63 L (.int (nI 1) :: st) h) ∧
  (∀ (d : Nat) (a1 a2 a3 a4 a5 : Value) (x : Nat) (st : List Value) (h : fk_H), fk_ev d qX5_tellRoad 63 [.ref x, a1, a2, a3, a4, a5] st h = fk_ev d qX5_tellRoad 64 [.ref x, a1, a2, a3, a4, a5] (.ref x :: st) h) ∧
  (∀ (d : Nat) (L st : List Value) (N : Nat) (y : Nat → Nat → Int32) (l : Nat → Nat → Int64), fk_ev d qX5_tellRoad 64 L (.ref 18 :: st) (fk_E N y l) = fk_ev d qX5_tellRoad 67 L (.ref 20 :: st) (fk_E N y l)) ∧
  (∀ (d : Nat) (a0 a1 a2 a3 a4 : Value) (x : Int32) (st : List Value) (h : fk_H), fk_ev d qX5_tellRoad 67 [a0, a1, a2, a3, a4, .int x] st h = fk_ev d qX5_tellRoad 69 [a0, a1, a2, a3, a4, .int x] (.int x :: st) h) ∧
  (∀ (d : Nat) (L st : List Value) (N : Nat) (y : Nat → Nat → Int32) (l : Nat → Nat → Int64) (i : Nat), i < 32 → fk_ev d qX5_tellRoad 69 L (.int (nI i) :: .ref 20 :: st) (fk_E N y l) = fk_ev d qX5_tellRoad 70 L (.int (y 20 i) :: st) (fk_E N y l)) ∧
  (∀ (d : Nat) (L : List Value) (x y : Int32) (st : List Value) (h : fk_H), fk_ev d qX5_tellRoad 70 L (.int y :: .int x :: st) h = fk_ev d qX5_tellRoad 71 L (.int (x <<< (y &&& 31)) :: st) h) ∧
  (∀ (d : Nat) (L : List Value) (x y : Int32) (st : List Value) (h : fk_H), fk_ev d qX5_tellRoad 71 L (.int y :: .int x :: st) h = fk_ev d qX5_tellRoad 72 L (.int (x ||| y) :: st) h) ∧
  (∀ (d : Nat) (L st : List Value) (N : Nat) (y : Nat → Nat → Int32) (l : Nat → Nat → Int64) (i : Nat) (v : Int32), i < 16 → fk_ev d qX5_tellRoad 72 L (.int v :: .int (nI i) :: .ref 24 :: st) (fk_E N y l) = fk_ev d qX5_tellRoad 73 L st (fk_E N (fk_u y 24 i v) l)) ∧
  (∀ (d : Nat) (a0 a1 a2 a3 a4 : Value) (x : Int32) (st : List Value) (h : fk_H), fk_ev d qX5_tellRoad 73 [a0, a1, a2, a3, a4, .int x] st h = fk_ev d qX5_tellRoad 76 [a0, a1, a2, a3, a4, .int (x + nI 1)] st h) ∧
  (∀ (d : Nat) (L st : List Value) (h : fk_H), fk_ev d qX5_tellRoad 76 L st h = fk_ev d qX5_tellRoad 33 L st h) ∧
  (∀ (d : Nat) (L : List Value) (h : fk_H), fk_ev d qX5_tellRoad 79 L [] h = some (none, h)) := ⟨fun d a1 a2 a3 a4 a5 x st h => fk_w_aloadn 0 [.ref x, a1, a2, a3, a4, a5] dX5_tellRoad_0 rfl,
  fun d L st N y l => fk_g_getC rfl lf_5_9 (by decide) rfl dX5_tellRoad_1 fk_at_18,
  fun d a0 a2 a3 a4 a5 x st h => fk_w_iloadn 1 [a0, .int x, a2, a3, a4, a5] dX5_tellRoad_4 rfl,
  fun d a0 a1 a3 a4 a5 x st h => fk_w_iloadn 2 [a0, a1, .int x, a3, a4, a5] dX5_tellRoad_5 rfl,
  fun d L st N y l i v hi => fk_g_iast fk_at_19 fk_ln_19 (by decide) dX5_tellRoad_6 hi,
  fun d a1 a2 a3 a4 a5 x st h => fk_w_aloadn 0 [.ref x, a1, a2, a3, a4, a5] dX5_tellRoad_7 rfl,
  fun d L st N y l => fk_g_getC rfl lf_5_15 (by decide) rfl dX5_tellRoad_8 fk_at_18,
  fun d a0 a2 a3 a4 a5 x st h => fk_w_iloadn 1 [a0, .int x, a2, a3, a4, a5] dX5_tellRoad_11 rfl,
  fun d a0 a1 a2 a4 a5 x st h => fk_w_iloadn 3 [a0, a1, a2, .int x, a4, a5] dX5_tellRoad_12 rfl,
  fun d L st N y l i v hi => fk_g_iast fk_at_20 fk_ln_20 (by decide) dX5_tellRoad_13 hi,
  fun d a1 a2 a3 a4 a5 x st h => fk_w_aloadn 0 [.ref x, a1, a2, a3, a4, a5] dX5_tellRoad_14 rfl,
  fun d L st N y l => fk_g_getC rfl lf_5_18 (by decide) rfl dX5_tellRoad_15 fk_at_18,
  fun d a0 a2 a3 a4 a5 x st h => fk_w_iloadn 1 [a0, .int x, a2, a3, a4, a5] dX5_tellRoad_18 rfl,
  fun d a0 a1 a2 a3 a5 x st h => fk_w_iload 4 [a0, a1, a2, a3, .int x, a5] dX5_tellRoad_19 rfl,
  fun d L st N y l i v hi => fk_g_iast fk_at_21 fk_ln_21 (by decide) dX5_tellRoad_21 hi,
  fun d a1 a2 a3 a4 a5 x st h => fk_w_aloadn 0 [.ref x, a1, a2, a3, a4, a5] dX5_tellRoad_22 rfl,
  fun d L st N y l => fk_g_getC rfl lf_5_27 (by decide) rfl dX5_tellRoad_23 fk_at_18,
  fun d L st h => fk_w_iconst dX5_tellRoad_26 (by decide),
  fun d L x0 x1 h => fk_g_calls [.ref x0, .int x1] [] rfl lm_5_34 dX5_tellRoad_27 rfl ⟨rfl, by decide⟩ (by simp),
  fun d L st h => fk_w_iconst dX5_tellRoad_30 (by decide),
  fun d a0 a1 a2 a3 a4 a5 x st h => fk_w_istore 5 6 [] [a0, a1, a2, a3, a4, a5] [a0, a1, a2, a3, a4, .int x] dX5_tellRoad_31 rfl rfl (by decide) rfl,
  fun d L st h => fk_w_bipush dX5_tellRoad_35 (by decide),
  fun d L x y st h => fk_r_icmp_ge dX5_tellRoad_37 (by decide),
  fun d a1 a2 a3 a4 a5 x st h => fk_w_aloadn 0 [.ref x, a1, a2, a3, a4, a5] dX5_tellRoad_40 rfl,
  fun d a0 a1 a2 a3 a4 x st h => fk_w_iload 5 [a0, a1, a2, a3, a4, .int x] dX5_tellRoad_41 rfl,
  fun d L x0 N y l  => fk_g_call [.int x0] [] rfl lm_5_40 dX5_tellRoad_43 rfl ⟨rfl, by decide⟩ (by simp) fk_at_18,
  fun d L x st h => fk_r_if_eq dX5_tellRoad_46 (by decide),
  fun d a1 a2 a3 a4 a5 x st h => fk_w_aloadn 0 [.ref x, a1, a2, a3, a4, a5] dX5_tellRoad_49 rfl,
  fun d L st N y l => fk_g_getC rfl lf_5_27 (by decide) rfl dX5_tellRoad_50 fk_at_18,
  fun d a1 a2 a3 a4 a5 x st h => fk_w_aloadn 0 [.ref x, a1, a2, a3, a4, a5] dX5_tellRoad_53 rfl,
  fun d L st N y l => fk_g_getC rfl lf_5_9 (by decide) rfl dX5_tellRoad_54 fk_at_18,
  fun d a0 a1 a2 a3 a4 x st h => fk_w_iload 5 [a0, a1, a2, a3, a4, .int x] dX5_tellRoad_57 rfl,
  fun d L st N y l i hi => fk_g_iald fk_at_19 fk_ln_19 (by decide) dX5_tellRoad_59 hi,
  fun d L x c st h => fk_r_dup2 dX5_tellRoad_60,
  fun d L st N y l i hi => fk_g_iald fk_at_24 fk_ln_24 (by decide) dX5_tellRoad_61 hi,
  fun d L st h => fk_w_iconst dX5_tellRoad_62 (by decide),
  fun d a1 a2 a3 a4 a5 x st h => fk_w_aloadn 0 [.ref x, a1, a2, a3, a4, a5] dX5_tellRoad_63 rfl,
  fun d L st N y l => fk_g_getC rfl lf_5_15 (by decide) rfl dX5_tellRoad_64 fk_at_18,
  fun d a0 a1 a2 a3 a4 x st h => fk_w_iload 5 [a0, a1, a2, a3, a4, .int x] dX5_tellRoad_67 rfl,
  fun d L st N y l i hi => fk_g_iald fk_at_20 fk_ln_20 (by decide) dX5_tellRoad_69 hi,
  fun d L x y st h => fk_r_ishl dX5_tellRoad_70,
  fun d L x y st h => fk_r_ior dX5_tellRoad_71,
  fun d L st N y l i v hi => fk_g_iast fk_at_24 fk_ln_24 (by decide) dX5_tellRoad_72 hi,
  fun d a0 a1 a2 a3 a4 x st h => fk_w_iinc 5 6 (1) [] [a0, a1, a2, a3, a4, .int x] [a0, a1, a2, a3, a4, .int (x + nI 1)] dX5_tellRoad_73 rfl rfl rfl (by decide) rfl,
  fun d L st h => fk_r_goto dX5_tellRoad_76 (by decide),
  fun d L h => fk_r_vret dX5_tellRoad_79 rfl⟩
theorem hX5_tellRoad_33 : ∀ (d : Nat) (a0 a1 a2 a3 a4 : Value) (x : Int32) (st : List Value) (h : fk_H), fk_ev d qX5_tellRoad 33 [a0, a1, a2, a3, a4, .int x] st h = fk_ev d qX5_tellRoad 35 [a0, a1, a2, a3, a4, .int x] (.int x :: st) h := fun d a0 a1 a2 a3 a4 x st h => fk_w_iload 5 [a0, a1, a2, a3, a4, .int x] dX5_tellRoad_33 rfl
theorem dX5_isTold_0 : decode cX5_isTold 0 = .ok (.iload_n 1, 1) := by decide +kernel
theorem dX5_isTold_1 : decode cX5_isTold 1 = .ok (.bipush 32, 2) := by decide +kernel
theorem dX5_isTold_3 : decode cX5_isTold 3 = .ok (.invokestatic 44, 3) := by decide +kernel
theorem dX5_isTold_6 : decode cX5_isTold 6 = .ok (.ifCond .eq 16, 3) := by decide +kernel
theorem dX5_isTold_9 : decode cX5_isTold 9 = .ok (.aload_n 0, 1) := by decide +kernel
theorem dX5_isTold_10 : decode cX5_isTold 10 = .ok (.getfield 9, 3) := by decide +kernel
theorem dX5_isTold_13 : decode cX5_isTold 13 = .ok (.iload_n 1, 1) := by decide +kernel
theorem dX5_isTold_14 : decode cX5_isTold 14 = .ok (.iaload, 1) := by decide +kernel
theorem dX5_isTold_15 : decode cX5_isTold 15 = .ok (.ifCond .lt 7, 3) := by decide +kernel
theorem dX5_isTold_18 : decode cX5_isTold 18 = .ok (.iconst 1, 1) := by decide +kernel
theorem dX5_isTold_19 : decode cX5_isTold 19 = .ok (.goto 4, 3) := by decide +kernel
theorem dX5_isTold_22 : decode cX5_isTold 22 = .ok (.iconst 0, 1) := by decide +kernel
theorem dX5_isTold_23 : decode cX5_isTold 23 = .ok (.ireturn, 1) := by decide +kernel
theorem rX5_isTold : (∀ (d : Nat) (a0 : Value) (x : Int32) (st : List Value) (h : fk_H), fk_ev d qX5_isTold 0 [a0, .int x] st h = fk_ev d qX5_isTold 1 [a0, .int x] (.int x :: st) h) ∧
  (∀ (d : Nat) (L st : List Value) (h : fk_H), fk_ev d qX5_isTold 1 L st h = fk_ev d qX5_isTold 3 L (.int (nI 32) :: st) h) ∧
  (∀ (d : Nat) (L : List Value) (x0 : Int32) (x1 : Int32)  (h : fk_H), fk_ev (d + 1) qX5_isTold 3 L (.int x1 :: .int x0 :: []) h = (fk_ev d qX11_within 0 [.int x0, .int x1] [] h).bind fun o => fk_ev (d + 1) qX5_isTold 6 L (o.1.toList ++ []) o.2) ∧
  (∀ (d : Nat) (L : List Value) (x : Int32) (st : List Value) (h : fk_H), fk_ev d qX5_isTold 6 L (.int x :: st) h = if x = nI 0 then fk_ev d qX5_isTold 22 L st h else fk_ev d qX5_isTold 9 L st h) ∧
  (∀ (d : Nat) (a1 : Value) (x : Nat) (st : List Value) (h : fk_H), fk_ev d qX5_isTold 9 [.ref x, a1] st h = fk_ev d qX5_isTold 10 [.ref x, a1] (.ref x :: st) h) ∧
  (∀ (d : Nat) (L st : List Value) (N : Nat) (y : Nat → Nat → Int32) (l : Nat → Nat → Int64), fk_ev d qX5_isTold 10 L (.ref 18 :: st) (fk_E N y l) = fk_ev d qX5_isTold 13 L (.ref 19 :: st) (fk_E N y l)) ∧
  (∀ (d : Nat) (a0 : Value) (x : Int32) (st : List Value) (h : fk_H), fk_ev d qX5_isTold 13 [a0, .int x] st h = fk_ev d qX5_isTold 14 [a0, .int x] (.int x :: st) h) ∧
  (∀ (d : Nat) (L st : List Value) (N : Nat) (y : Nat → Nat → Int32) (l : Nat → Nat → Int64) (i : Nat), i < 32 → fk_ev d qX5_isTold 14 L (.int (nI i) :: .ref 19 :: st) (fk_E N y l) = fk_ev d qX5_isTold 15 L (.int (y 19 i) :: st) (fk_E N y l)) ∧
  (∀ (d : Nat) (L : List Value) (x : Int32) (st : List Value) (h : fk_H), fk_ev d qX5_isTold 15 L (.int x :: st) h = if x < nI 0 then fk_ev d qX5_isTold 22 L st h else fk_ev d qX5_isTold 18 L st h) ∧
  (∀ (d : Nat) (L st : List Value) (h : fk_H), fk_ev d qX5_isTold 18 L st h = fk_ev d qX5_isTold 19 L (.int (nI 1) :: st) h) ∧
  (∀ (d : Nat) (L st : List Value) (h : fk_H), fk_ev d qX5_isTold 19 L st h = fk_ev d qX5_isTold 23 L st h) ∧
  (∀ (d : Nat) (L st : List Value) (h : fk_H), fk_ev d qX5_isTold 22 L st h = fk_ev d qX5_isTold 23 L (.int (nI 0) :: st) h) ∧
  (∀ (d : Nat) (L : List Value) (h : fk_H), fk_ev d qX5_isTold 23 L [.int (nI 0)] h = some (some (.int (nI 0)), h)) ∧
  (∀ (d : Nat) (L : List Value) (h : fk_H), fk_ev d qX5_isTold 23 L [.int (nI 1)] h = some (some (.int (nI 1)), h)) ∧
  (∀ (d : Nat) (L : List Value) (p : Prop) [Decidable p] (h : fk_H), fk_ev d qX5_isTold 23 L [.int (fk_b p)] h = some (some (.int (fk_b p)), h)) ∧
  (∀ (d : Nat) (L : List Value) (x : Int32) (h : fk_H), (x = nI 0 ∨ x = nI 1) → fk_ev d qX5_isTold 23 L [.int x] h = some (some (.int x), h)) := ⟨fun d a0 x st h => fk_w_iloadn 1 [a0, .int x] dX5_isTold_0 rfl,
  fun d L st h => fk_w_bipush dX5_isTold_1 (by decide),
  fun d L x0 x1 h => fk_g_calls [.int x0, .int x1] [] rfl lm_5_44 dX5_isTold_3 rfl ⟨rfl, by decide⟩ (by simp),
  fun d L x st h => fk_r_if_eq dX5_isTold_6 (by decide),
  fun d a1 x st h => fk_w_aloadn 0 [.ref x, a1] dX5_isTold_9 rfl,
  fun d L st N y l => fk_g_getC rfl lf_5_9 (by decide) rfl dX5_isTold_10 fk_at_18,
  fun d a0 x st h => fk_w_iloadn 1 [a0, .int x] dX5_isTold_13 rfl,
  fun d L st N y l i hi => fk_g_iald fk_at_19 fk_ln_19 (by decide) dX5_isTold_14 hi,
  fun d L x st h => fk_r_if_lt dX5_isTold_15 (by decide),
  fun d L st h => fk_w_iconst dX5_isTold_18 (by decide),
  fun d L st h => fk_r_goto dX5_isTold_19 (by decide),
  fun d L st h => fk_w_iconst dX5_isTold_22 (by decide),
  fun d L h => fk_r_ret dX5_isTold_23 (Or.inr (Or.inl ⟨rfl, by decide⟩)),
  fun d L h => fk_r_ret dX5_isTold_23 (Or.inr (Or.inl ⟨rfl, by decide⟩)),
  fun d L p _ h => fk_r_ret dX5_isTold_23 (Or.inr (Or.inl ⟨rfl, fk_b_01⟩)),
  fun d L x h hx => fk_r_ret dX5_isTold_23 (Or.inr (Or.inl ⟨rfl, hx⟩))⟩
theorem dX5_toldRoads_0 : decode cX5_toldRoads 0 = .ok (.iconst 0, 1) := by decide +kernel
theorem dX5_toldRoads_1 : decode cX5_toldRoads 1 = .ok (.istore_n 1, 1) := by decide +kernel
theorem dX5_toldRoads_2 : decode cX5_toldRoads 2 = .ok (.iconst 0, 1) := by decide +kernel
theorem dX5_toldRoads_3 : decode cX5_toldRoads 3 = .ok (.istore_n 2, 1) := by decide +kernel
theorem dX5_toldRoads_4 : decode cX5_toldRoads 4 = .ok (.iload_n 2, 1) := by decide +kernel
theorem dX5_toldRoads_5 : decode cX5_toldRoads 5 = .ok (.bipush 32, 2) := by decide +kernel
theorem dX5_toldRoads_7 : decode cX5_toldRoads 7 = .ok (.if_icmp .ge 25, 3) := by decide +kernel
theorem dX5_toldRoads_10 : decode cX5_toldRoads 10 = .ok (.iload_n 1, 1) := by decide +kernel
theorem dX5_toldRoads_11 : decode cX5_toldRoads 11 = .ok (.aload_n 0, 1) := by decide +kernel
theorem dX5_toldRoads_12 : decode cX5_toldRoads 12 = .ok (.iload_n 2, 1) := by decide +kernel
theorem dX5_toldRoads_13 : decode cX5_toldRoads 13 = .ok (.invokevirtual 40, 3) := by decide +kernel
theorem dX5_toldRoads_16 : decode cX5_toldRoads 16 = .ok (.ifCond .eq 7, 3) := by decide +kernel
theorem dX5_toldRoads_19 : decode cX5_toldRoads 19 = .ok (.iconst 1, 1) := by decide +kernel
theorem dX5_toldRoads_20 : decode cX5_toldRoads 20 = .ok (.goto 4, 3) := by decide +kernel
theorem dX5_toldRoads_23 : decode cX5_toldRoads 23 = .ok (.iconst 0, 1) := by decide +kernel
theorem dX5_toldRoads_24 : decode cX5_toldRoads 24 = .ok (.iadd, 1) := by decide +kernel
theorem dX5_toldRoads_25 : decode cX5_toldRoads 25 = .ok (.istore_n 1, 1) := by decide +kernel
theorem dX5_toldRoads_26 : decode cX5_toldRoads 26 = .ok (.iinc 2 1, 3) := by decide +kernel
theorem dX5_toldRoads_29 : decode cX5_toldRoads 29 = .ok (.goto (-25), 3) := by decide +kernel
theorem dX5_toldRoads_32 : decode cX5_toldRoads 32 = .ok (.iload_n 1, 1) := by decide +kernel
theorem dX5_toldRoads_33 : decode cX5_toldRoads 33 = .ok (.ireturn, 1) := by decide +kernel
theorem rX5_toldRoads : (∀ (d : Nat) (L st : List Value) (h : fk_H), fk_ev d qX5_toldRoads 0 L st h = fk_ev d qX5_toldRoads 1 L (.int (nI 0) :: st) h) ∧
  (∀ (d : Nat) (a0 a1 a2 : Value) (x : Int32) (st : List Value) (h : fk_H), fk_ev d qX5_toldRoads 1 [a0, a1, a2] (.int x :: st) h = fk_ev d qX5_toldRoads 2 [a0, .int x, a2] st h) ∧
  (∀ (d : Nat) (L st : List Value) (h : fk_H), fk_ev d qX5_toldRoads 2 L st h = fk_ev d qX5_toldRoads 3 L (.int (nI 0) :: st) h) ∧
  (∀ (d : Nat) (a0 a1 a2 : Value) (x : Int32) (st : List Value) (h : fk_H), fk_ev d qX5_toldRoads 3 [a0, a1, a2] (.int x :: st) h = fk_ev d qX5_toldRoads 4 [a0, a1, .int x] st h) ∧
  (∀ (d : Nat) (L st : List Value) (h : fk_H), fk_ev d qX5_toldRoads 5 L st h = fk_ev d qX5_toldRoads 7 L (.int (nI 32) :: st) h) ∧
  (∀ (d : Nat) (L : List Value) (x y : Int32) (st : List Value) (h : fk_H), fk_ev d qX5_toldRoads 7 L (.int y :: .int x :: st) h = if y ≤ x then fk_ev d qX5_toldRoads 32 L st h else fk_ev d qX5_toldRoads 10 L st h) ∧
  (∀ (d : Nat) (a0 a2 : Value) (x : Int32) (st : List Value) (h : fk_H), fk_ev d qX5_toldRoads 10 [a0, .int x, a2] st h = fk_ev d qX5_toldRoads 11 [a0, .int x, a2] (.int x :: st) h) ∧
  (∀ (d : Nat) (a1 a2 : Value) (x : Nat) (st : List Value) (h : fk_H), fk_ev d qX5_toldRoads 11 [.ref x, a1, a2] st h = fk_ev d qX5_toldRoads 12 [.ref x, a1, a2] (.ref x :: st) h) ∧
  (∀ (d : Nat) (a0 a1 : Value) (x : Int32) (st : List Value) (h : fk_H), fk_ev d qX5_toldRoads 12 [a0, a1, .int x] st h = fk_ev d qX5_toldRoads 13 [a0, a1, .int x] (.int x :: st) h) ∧
  (∀ (d : Nat) (L : List Value) (x0 : Int32) (w0 : Value) (N : Nat) (y : Nat → Nat → Int32) (l : Nat → Nat → Int64), fk_ev (d + 1) qX5_toldRoads 13 L (.int x0 :: .ref 18 :: [w0]) (fk_E N y l) = (fk_ev d qX5_isTold 0 [.ref 18, .int x0] [] (fk_E N y l)).bind fun o => fk_ev (d + 1) qX5_toldRoads 16 L (o.1.toList ++ [w0]) o.2) ∧
  (∀ (d : Nat) (L : List Value) (x : Int32) (st : List Value) (h : fk_H), fk_ev d qX5_toldRoads 16 L (.int x :: st) h = if x = nI 0 then fk_ev d qX5_toldRoads 23 L st h else fk_ev d qX5_toldRoads 19 L st h) ∧
  (∀ (d : Nat) (L st : List Value) (h : fk_H), fk_ev d qX5_toldRoads 19 L st h = fk_ev d qX5_toldRoads 20 L (.int (nI 1) :: st) h) ∧
  (∀ (d : Nat) (L st : List Value) (h : fk_H), fk_ev d qX5_toldRoads 20 L st h = fk_ev d qX5_toldRoads 24 L st h) ∧
  (∀ (d : Nat) (L st : List Value) (h : fk_H), fk_ev d qX5_toldRoads 23 L st h = fk_ev d qX5_toldRoads 24 L (.int (nI 0) :: st) h) ∧
  (∀ (d : Nat) (L : List Value) (x y : Int32) (st : List Value) (h : fk_H), fk_ev d qX5_toldRoads 24 L (.int y :: .int x :: st) h = fk_ev d qX5_toldRoads 25 L (.int (x + y) :: st) h) ∧
  (∀ (d : Nat) (a0 a1 a2 : Value) (x : Int32) (st : List Value) (h : fk_H), fk_ev d qX5_toldRoads 25 [a0, a1, a2] (.int x :: st) h = fk_ev d qX5_toldRoads 26 [a0, .int x, a2] st h) ∧
  (∀ (d : Nat) (a0 a1 : Value) (x : Int32) (st : List Value) (h : fk_H), fk_ev d qX5_toldRoads 26 [a0, a1, .int x] st h = fk_ev d qX5_toldRoads 29 [a0, a1, .int (x + nI 1)] st h) ∧
  (∀ (d : Nat) (L st : List Value) (h : fk_H), fk_ev d qX5_toldRoads 29 L st h = fk_ev d qX5_toldRoads 4 L st h) ∧
  (∀ (d : Nat) (a0 a2 : Value) (x : Int32) (st : List Value) (h : fk_H), fk_ev d qX5_toldRoads 32 [a0, .int x, a2] st h = fk_ev d qX5_toldRoads 33 [a0, .int x, a2] (.int x :: st) h) ∧
  (∀ (d : Nat) (L : List Value) (x : Int32) (h : fk_H), fk_ev d qX5_toldRoads 33 L [.int x] h = some (some (.int x), h)) := ⟨fun d L st h => fk_w_iconst dX5_toldRoads_0 (by decide),
  fun d a0 a1 a2 x st h => fk_w_istoren 1 3 [] [a0, a1, a2] [a0, .int x, a2] dX5_toldRoads_1 rfl rfl (by decide) rfl,
  fun d L st h => fk_w_iconst dX5_toldRoads_2 (by decide),
  fun d a0 a1 a2 x st h => fk_w_istoren 2 3 [] [a0, a1, a2] [a0, a1, .int x] dX5_toldRoads_3 rfl rfl (by decide) rfl,
  fun d L st h => fk_w_bipush dX5_toldRoads_5 (by decide),
  fun d L x y st h => fk_r_icmp_ge dX5_toldRoads_7 (by decide),
  fun d a0 a2 x st h => fk_w_iloadn 1 [a0, .int x, a2] dX5_toldRoads_10 rfl,
  fun d a1 a2 x st h => fk_w_aloadn 0 [.ref x, a1, a2] dX5_toldRoads_11 rfl,
  fun d a0 a1 x st h => fk_w_iloadn 2 [a0, a1, .int x] dX5_toldRoads_12 rfl,
  fun d L x0 w0 N y l  => fk_g_call [.int x0] [w0] rfl lm_5_40 dX5_toldRoads_13 rfl ⟨rfl, by decide⟩ (by simp) fk_at_18,
  fun d L x st h => fk_r_if_eq dX5_toldRoads_16 (by decide),
  fun d L st h => fk_w_iconst dX5_toldRoads_19 (by decide),
  fun d L st h => fk_r_goto dX5_toldRoads_20 (by decide),
  fun d L st h => fk_w_iconst dX5_toldRoads_23 (by decide),
  fun d L x y st h => fk_r_iadd dX5_toldRoads_24,
  fun d a0 a1 a2 x st h => fk_w_istoren 1 3 [] [a0, a1, a2] [a0, .int x, a2] dX5_toldRoads_25 rfl rfl (by decide) rfl,
  fun d a0 a1 x st h => fk_w_iinc 2 3 (1) [] [a0, a1, .int x] [a0, a1, .int (x + nI 1)] dX5_toldRoads_26 rfl rfl rfl (by decide) rfl,
  fun d L st h => fk_r_goto dX5_toldRoads_29 (by decide),
  fun d a0 a2 x st h => fk_w_iloadn 1 [a0, .int x, a2] dX5_toldRoads_32 rfl,
  fun d L x h => fk_r_ret dX5_toldRoads_33 (Or.inl rfl)⟩
theorem hX5_toldRoads_4 : ∀ (d : Nat) (a0 a1 : Value) (x : Int32) (st : List Value) (h : fk_H), fk_ev d qX5_toldRoads 4 [a0, a1, .int x] st h = fk_ev d qX5_toldRoads 5 [a0, a1, .int x] (.int x :: st) h := fun d a0 a1 x st h => fk_w_iloadn 2 [a0, a1, .int x] dX5_toldRoads_4 rfl
theorem dX5_tell_0 : decode cX5_tell 0 = .ok (.aload_n 0, 1) := by decide +kernel
theorem dX5_tell_1 : decode cX5_tell 1 = .ok (.iload_n 1, 1) := by decide +kernel
theorem dX5_tell_2 : decode cX5_tell 2 = .ok (.bipush 20, 2) := by decide +kernel
theorem dX5_tell_4 : decode cX5_tell 4 = .ok (.isub, 1) := by decide +kernel
theorem dX5_tell_5 : decode cX5_tell 5 = .ok (.invokevirtual 40, 3) := by decide +kernel
theorem dX5_tell_8 : decode cX5_tell 8 = .ok (.ifCond .eq 13, 3) := by decide +kernel
theorem dX5_tell_11 : decode cX5_tell 11 = .ok (.aload_n 0, 1) := by decide +kernel
theorem dX5_tell_12 : decode cX5_tell 12 = .ok (.getfield 9, 3) := by decide +kernel
theorem dX5_tell_15 : decode cX5_tell 15 = .ok (.iload_n 1, 1) := by decide +kernel
theorem dX5_tell_16 : decode cX5_tell 16 = .ok (.bipush 20, 2) := by decide +kernel
theorem dX5_tell_18 : decode cX5_tell 18 = .ok (.isub, 1) := by decide +kernel
theorem dX5_tell_19 : decode cX5_tell 19 = .ok (.iaload, 1) := by decide +kernel
theorem dX5_tell_20 : decode cX5_tell 20 = .ok (.ireturn, 1) := by decide +kernel
theorem dX5_tell_21 : decode cX5_tell 21 = .ok (.aload_n 0, 1) := by decide +kernel
theorem dX5_tell_22 : decode cX5_tell 22 = .ok (.iload_n 1, 1) := by decide +kernel
theorem dX5_tell_23 : decode cX5_tell 23 = .ok (.bipush 60, 2) := by decide +kernel
theorem dX5_tell_25 : decode cX5_tell 25 = .ok (.isub, 1) := by decide +kernel
theorem dX5_tell_26 : decode cX5_tell 26 = .ok (.invokevirtual 40, 3) := by decide +kernel
theorem dX5_tell_29 : decode cX5_tell 29 = .ok (.ifCond .eq 13, 3) := by decide +kernel
theorem dX5_tell_32 : decode cX5_tell 32 = .ok (.aload_n 0, 1) := by decide +kernel
theorem dX5_tell_33 : decode cX5_tell 33 = .ok (.getfield 15, 3) := by decide +kernel
theorem dX5_tell_36 : decode cX5_tell 36 = .ok (.iload_n 1, 1) := by decide +kernel
theorem dX5_tell_37 : decode cX5_tell 37 = .ok (.bipush 60, 2) := by decide +kernel
theorem dX5_tell_39 : decode cX5_tell 39 = .ok (.isub, 1) := by decide +kernel
theorem dX5_tell_40 : decode cX5_tell 40 = .ok (.iaload, 1) := by decide +kernel
theorem dX5_tell_41 : decode cX5_tell 41 = .ok (.ireturn, 1) := by decide +kernel
theorem dX5_tell_42 : decode cX5_tell 42 = .ok (.aload_n 0, 1) := by decide +kernel
theorem dX5_tell_43 : decode cX5_tell 43 = .ok (.iload_n 1, 1) := by decide +kernel
theorem dX5_tell_44 : decode cX5_tell 44 = .ok (.bipush 100, 2) := by decide +kernel
theorem dX5_tell_46 : decode cX5_tell 46 = .ok (.isub, 1) := by decide +kernel
theorem dX5_tell_47 : decode cX5_tell 47 = .ok (.invokevirtual 40, 3) := by decide +kernel
theorem dX5_tell_50 : decode cX5_tell 50 = .ok (.ifCond .eq 13, 3) := by decide +kernel
theorem dX5_tell_53 : decode cX5_tell 53 = .ok (.aload_n 0, 1) := by decide +kernel
theorem dX5_tell_54 : decode cX5_tell 54 = .ok (.getfield 18, 3) := by decide +kernel
theorem dX5_tell_57 : decode cX5_tell 57 = .ok (.iload_n 1, 1) := by decide +kernel
theorem dX5_tell_58 : decode cX5_tell 58 = .ok (.bipush 100, 2) := by decide +kernel
theorem dX5_tell_60 : decode cX5_tell 60 = .ok (.isub, 1) := by decide +kernel
theorem dX5_tell_61 : decode cX5_tell 61 = .ok (.iaload, 1) := by decide +kernel
theorem dX5_tell_62 : decode cX5_tell 62 = .ok (.ireturn, 1) := by decide +kernel
theorem dX5_tell_63 : decode cX5_tell 63 = .ok (.iload_n 1, 1) := by decide +kernel
theorem dX5_tell_64 : decode cX5_tell 64 = .ok (.sipush 140, 3) := by decide +kernel
theorem dX5_tell_67 : decode cX5_tell 67 = .ok (.isub, 1) := by decide +kernel
theorem dX5_tell_68 : decode cX5_tell 68 = .ok (.istore_n 2, 1) := by decide +kernel
theorem dX5_tell_69 : decode cX5_tell 69 = .ok (.iload_n 2, 1) := by decide +kernel
theorem dX5_tell_70 : decode cX5_tell 70 = .ok (.bipush 16, 2) := by decide +kernel
theorem dX5_tell_72 : decode cX5_tell 72 = .ok (.invokestatic 44, 3) := by decide +kernel
theorem dX5_tell_75 : decode cX5_tell 75 = .ok (.ifCond .ne 5, 3) := by decide +kernel
theorem dX5_tell_78 : decode cX5_tell 78 = .ok (.iconst (-1), 1) := by decide +kernel
theorem dX5_tell_79 : decode cX5_tell 79 = .ok (.ireturn, 1) := by decide +kernel
theorem dX5_tell_80 : decode cX5_tell 80 = .ok (.aload_n 0, 1) := by decide +kernel
theorem dX5_tell_81 : decode cX5_tell 81 = .ok (.getfield 21, 3) := by decide +kernel
theorem dX5_tell_84 : decode cX5_tell 84 = .ok (.iload_n 2, 1) := by decide +kernel
theorem dX5_tell_85 : decode cX5_tell 85 = .ok (.iaload, 1) := by decide +kernel
theorem dX5_tell_86 : decode cX5_tell 86 = .ok (.ifCond .ge 6, 3) := by decide +kernel
theorem dX5_tell_89 : decode cX5_tell 89 = .ok (.bipush (-2), 2) := by decide +kernel
theorem dX5_tell_91 : decode cX5_tell 91 = .ok (.ireturn, 1) := by decide +kernel
theorem dX5_tell_92 : decode cX5_tell 92 = .ok (.aload_n 0, 1) := by decide +kernel
theorem dX5_tell_93 : decode cX5_tell 93 = .ok (.getfield 21, 3) := by decide +kernel
theorem dX5_tell_96 : decode cX5_tell 96 = .ok (.iload_n 2, 1) := by decide +kernel
theorem dX5_tell_97 : decode cX5_tell 97 = .ok (.iaload, 1) := by decide +kernel
theorem dX5_tell_98 : decode cX5_tell 98 = .ok (.bipush 100, 2) := by decide +kernel
theorem dX5_tell_100 : decode cX5_tell 100 = .ok (.aload_n 0, 1) := by decide +kernel
theorem dX5_tell_101 : decode cX5_tell 101 = .ok (.getfield 24, 3) := by decide +kernel
theorem dX5_tell_104 : decode cX5_tell 104 = .ok (.iload_n 2, 1) := by decide +kernel
theorem dX5_tell_105 : decode cX5_tell 105 = .ok (.iaload, 1) := by decide +kernel
theorem dX5_tell_106 : decode cX5_tell 106 = .ok (.imul, 1) := by decide +kernel
theorem dX5_tell_107 : decode cX5_tell 107 = .ok (.iadd, 1) := by decide +kernel
theorem dX5_tell_108 : decode cX5_tell 108 = .ok (.ireturn, 1) := by decide +kernel
theorem rX5_tell : (∀ (d : Nat) (a1 a2 : Value) (x : Nat) (st : List Value) (h : fk_H), fk_ev d qX5_tell 0 [.ref x, a1, a2] st h = fk_ev d qX5_tell 1 [.ref x, a1, a2] (.ref x :: st) h) ∧
  (∀ (d : Nat) (a0 a2 : Value) (x : Int32) (st : List Value) (h : fk_H), fk_ev d qX5_tell 1 [a0, .int x, a2] st h = fk_ev d qX5_tell 2 [a0, .int x, a2] (.int x :: st) h) ∧
  (∀ (d : Nat) (L st : List Value) (h : fk_H), fk_ev d qX5_tell 2 L st h = fk_ev d qX5_tell 4 L (.int (nI 20) :: st) h) ∧
  (∀ (d : Nat) (L : List Value) (x y : Int32) (st : List Value) (h : fk_H), fk_ev d qX5_tell 4 L (.int y :: .int x :: st) h = fk_ev d qX5_tell 5 L (.int (x - y) :: st) h) ∧
  (∀ (d : Nat) (L : List Value) (x0 : Int32)  (N : Nat) (y : Nat → Nat → Int32) (l : Nat → Nat → Int64), fk_ev (d + 1) qX5_tell 5 L (.int x0 :: .ref 18 :: []) (fk_E N y l) = (fk_ev d qX5_isTold 0 [.ref 18, .int x0] [] (fk_E N y l)).bind fun o => fk_ev (d + 1) qX5_tell 8 L (o.1.toList ++ []) o.2) ∧
  (∀ (d : Nat) (L : List Value) (x : Int32) (st : List Value) (h : fk_H), fk_ev d qX5_tell 8 L (.int x :: st) h = if x = nI 0 then fk_ev d qX5_tell 21 L st h else fk_ev d qX5_tell 11 L st h) ∧
  (∀ (d : Nat) (a1 a2 : Value) (x : Nat) (st : List Value) (h : fk_H), fk_ev d qX5_tell 11 [.ref x, a1, a2] st h = fk_ev d qX5_tell 12 [.ref x, a1, a2] (.ref x :: st) h) ∧
  (∀ (d : Nat) (L st : List Value) (N : Nat) (y : Nat → Nat → Int32) (l : Nat → Nat → Int64), fk_ev d qX5_tell 12 L (.ref 18 :: st) (fk_E N y l) = fk_ev d qX5_tell 15 L (.ref 19 :: st) (fk_E N y l)) ∧
  (∀ (d : Nat) (a0 a2 : Value) (x : Int32) (st : List Value) (h : fk_H), fk_ev d qX5_tell 15 [a0, .int x, a2] st h = fk_ev d qX5_tell 16 [a0, .int x, a2] (.int x :: st) h) ∧
  (∀ (d : Nat) (L st : List Value) (h : fk_H), fk_ev d qX5_tell 16 L st h = fk_ev d qX5_tell 18 L (.int (nI 20) :: st) h) ∧
  (∀ (d : Nat) (L : List Value) (x y : Int32) (st : List Value) (h : fk_H), fk_ev d qX5_tell 18 L (.int y :: .int x :: st) h = fk_ev d qX5_tell 19 L (.int (x - y) :: st) h) ∧
  (∀ (d : Nat) (L st : List Value) (N : Nat) (y : Nat → Nat → Int32) (l : Nat → Nat → Int64) (i : Nat), i < 32 → fk_ev d qX5_tell 19 L (.int (nI i) :: .ref 19 :: st) (fk_E N y l) = fk_ev d qX5_tell 20 L (.int (y 19 i) :: st) (fk_E N y l)) ∧
  (∀ (d : Nat) (L : List Value) (x : Int32) (h : fk_H), fk_ev d qX5_tell 20 L [.int x] h = some (some (.int x), h)) ∧
  (∀ (d : Nat) (a1 a2 : Value) (x : Nat) (st : List Value) (h : fk_H), fk_ev d qX5_tell 21 [.ref x, a1, a2] st h = fk_ev d qX5_tell 22 [.ref x, a1, a2] (.ref x :: st) h) ∧
  (∀ (d : Nat) (a0 a2 : Value) (x : Int32) (st : List Value) (h : fk_H), fk_ev d qX5_tell 22 [a0, .int x, a2] st h = fk_ev d qX5_tell 23 [a0, .int x, a2] (.int x :: st) h) ∧
  (∀ (d : Nat) (L st : List Value) (h : fk_H), fk_ev d qX5_tell 23 L st h = fk_ev d qX5_tell 25 L (.int (nI 60) :: st) h) ∧
  (∀ (d : Nat) (L : List Value) (x y : Int32) (st : List Value) (h : fk_H), fk_ev d qX5_tell 25 L (.int y :: .int x :: st) h = fk_ev d qX5_tell 26 L (.int (x - y) :: st) h) ∧
  (∀ (d : Nat) (L : List Value) (x0 : Int32)  (N : Nat) (y : Nat → Nat → Int32) (l : Nat → Nat → Int64), fk_ev (d + 1) qX5_tell 26 L (.int x0 :: .ref 18 :: []) (fk_E N y l) = (fk_ev d qX5_isTold 0 [.ref 18, .int x0] [] (fk_E N y l)).bind fun o => fk_ev (d + 1) qX5_tell 29 L (o.1.toList ++ []) o.2) ∧
  (∀ (d : Nat) (L : List Value) (x : Int32) (st : List Value) (h : fk_H), fk_ev d qX5_tell 29 L (.int x :: st) h = if x = nI 0 then fk_ev d qX5_tell 42 L st h else fk_ev d qX5_tell 32 L st h) ∧
  (∀ (d : Nat) (a1 a2 : Value) (x : Nat) (st : List Value) (h : fk_H), fk_ev d qX5_tell 32 [.ref x, a1, a2] st h = fk_ev d qX5_tell 33 [.ref x, a1, a2] (.ref x :: st) h) ∧
  (∀ (d : Nat) (L st : List Value) (N : Nat) (y : Nat → Nat → Int32) (l : Nat → Nat → Int64), fk_ev d qX5_tell 33 L (.ref 18 :: st) (fk_E N y l) = fk_ev d qX5_tell 36 L (.ref 20 :: st) (fk_E N y l)) ∧
  (∀ (d : Nat) (a0 a2 : Value) (x : Int32) (st : List Value) (h : fk_H), fk_ev d qX5_tell 36 [a0, .int x, a2] st h = fk_ev d qX5_tell 37 [a0, .int x, a2] (.int x :: st) h) ∧
  (∀ (d : Nat) (L st : List Value) (h : fk_H), fk_ev d qX5_tell 37 L st h = fk_ev d qX5_tell 39 L (.int (nI 60) :: st) h) ∧
  (∀ (d : Nat) (L : List Value) (x y : Int32) (st : List Value) (h : fk_H), fk_ev d qX5_tell 39 L (.int y :: .int x :: st) h = fk_ev d qX5_tell 40 L (.int (x - y) :: st) h) ∧
  (∀ (d : Nat) (L st : List Value) (N : Nat) (y : Nat → Nat → Int32) (l : Nat → Nat → Int64) (i : Nat), i < 32 → fk_ev d qX5_tell 40 L (.int (nI i) :: .ref 20 :: st) (fk_E N y l) = fk_ev d qX5_tell 41 L (.int (y 20 i) :: st) (fk_E N y l)) ∧
  (∀ (d : Nat) (L : List Value) (x : Int32) (h : fk_H), fk_ev d qX5_tell 41 L [.int x] h = some (some (.int x), h)) ∧
  (∀ (d : Nat) (a1 a2 : Value) (x : Nat) (st : List Value) (h : fk_H), fk_ev d qX5_tell 42 [.ref x, a1, a2] st h = fk_ev d qX5_tell 43 [.ref x, a1, a2] (.ref x :: st) h) ∧
  (∀ (d : Nat) (a0 a2 : Value) (x : Int32) (st : List Value) (h : fk_H), fk_ev d qX5_tell 43 [a0, .int x, a2] st h = fk_ev d qX5_tell 44 [a0, .int x, a2] (.int x :: st) h) ∧
  (∀ (d : Nat) (L st : List Value) (h : fk_H), fk_ev d qX5_tell 44 L st h = fk_ev d qX5_tell 46 L (.int (nI 100) :: st) h) ∧
  (∀ (d : Nat) (L : List Value) (x y : Int32) (st : List Value) (h : fk_H), fk_ev d qX5_tell 46 L (.int y :: .int x :: st) h = fk_ev d qX5_tell 47 L (.int (x - y) :: st) h) ∧
  (∀ (d : Nat) (L : List Value) (x0 : Int32)  (N : Nat) (y : Nat → Nat → Int32) (l : Nat → Nat → Int64), fk_ev (d + 1) qX5_tell 47 L (.int x0 :: .ref 18 :: []) (fk_E N y l) = (fk_ev d qX5_isTold 0 [.ref 18, .int x0] [] (fk_E N y l)).bind fun o => fk_ev (d + 1) qX5_tell 50 L (o.1.toList ++ []) o.2) ∧
  (∀ (d : Nat) (L : List Value) (x : Int32) (st : List Value) (h : fk_H), fk_ev d qX5_tell 50 L (.int x :: st) h = if x = nI 0 then fk_ev d qX5_tell 63 L st h else fk_ev d qX5_tell 53 L st h) ∧
  (∀ (d : Nat) (a1 a2 : Value) (x : Nat) (st : List Value) (h : fk_H), fk_ev d qX5_tell 53 [.ref x, a1, a2] st h = fk_ev d qX5_tell 54 [.ref x, a1, a2] (.ref x :: st) h) ∧
  (∀ (d : Nat) (L st : List Value) (N : Nat) (y : Nat → Nat → Int32) (l : Nat → Nat → Int64), fk_ev d qX5_tell 54 L (.ref 18 :: st) (fk_E N y l) = fk_ev d qX5_tell 57 L (.ref 21 :: st) (fk_E N y l)) ∧
  (∀ (d : Nat) (a0 a2 : Value) (x : Int32) (st : List Value) (h : fk_H), fk_ev d qX5_tell 57 [a0, .int x, a2] st h = fk_ev d qX5_tell 58 [a0, .int x, a2] (.int x :: st) h) ∧
  (∀ (d : Nat) (L st : List Value) (h : fk_H), fk_ev d qX5_tell 58 L st h = fk_ev d qX5_tell 60 L (.int (nI 100) :: st) h) ∧
  (∀ (d : Nat) (L : List Value) (x y : Int32) (st : List Value) (h : fk_H), fk_ev d qX5_tell 60 L (.int y :: .int x :: st) h = fk_ev d qX5_tell 61 L (.int (x - y) :: st) h) ∧
  (∀ (d : Nat) (L st : List Value) (N : Nat) (y : Nat → Nat → Int32) (l : Nat → Nat → Int64) (i : Nat), i < 32 → fk_ev d qX5_tell 61 L (.int (nI i) :: .ref 21 :: st) (fk_E N y l) = fk_ev d qX5_tell 62 L (.int (y 21 i) :: st) (fk_E N y l)) ∧
  (∀ (d : Nat) (L : List Value) (x : Int32) (h : fk_H), fk_ev d qX5_tell 62 L [.int x] h = some (some (.int x), h)) ∧
  (∀ (d : Nat) (a0 a2 : Value) (x : Int32) (st : List Value) (h : fk_H), fk_ev d qX5_tell 63 [a0, .int x, a2] st h = fk_ev d qX5_tell 64 [a0, .int x, a2] (.int x :: st) h) ∧
  (∀ (d : Nat) (L st : List Value) (h : fk_H), fk_ev d qX5_tell 64 L st h = fk_ev d qX5_tell 67 L (.int (nI 140) :: st) h) ∧
  (∀ (d : Nat) (L : List Value) (x y : Int32) (st : List Value) (h : fk_H), fk_ev d qX5_tell 67 L (.int y :: .int x :: st) h = fk_ev d qX5_tell 68 L (.int (x - y) :: st) h) ∧
  (∀ (d : Nat) (a0 a1 a2 : Value) (x : Int32) (st : List Value) (h : fk_H), fk_ev d qX5_tell 68 [a0, a1, a2] (.int x :: st) h = fk_ev d qX5_tell 69 [a0, a1, .int x] st h) ∧
  (∀ (d : Nat) (a0 a1 : Value) (x : Int32) (st : List Value) (h : fk_H), fk_ev d qX5_tell 69 [a0, a1, .int x] st h = fk_ev d qX5_tell 70 [a0, a1, .int x] (.int x :: st) h) ∧
  (∀ (d : Nat) (L st : List Value) (h : fk_H), fk_ev d qX5_tell 70 L st h = fk_ev d qX5_tell 72 L (.int (nI 16) :: st) h) ∧
  (∀ (d : Nat) (L : List Value) (x0 : Int32) (x1 : Int32)  (h : fk_H), fk_ev (d + 1) qX5_tell 72 L (.int x1 :: .int x0 :: []) h = (fk_ev d qX11_within 0 [.int x0, .int x1] [] h).bind fun o => fk_ev (d + 1) qX5_tell 75 L (o.1.toList ++ []) o.2) ∧
  (∀ (d : Nat) (L : List Value) (x : Int32) (st : List Value) (h : fk_H), fk_ev d qX5_tell 75 L (.int x :: st) h = if ¬ x = nI 0 then fk_ev d qX5_tell 80 L st h else fk_ev d qX5_tell 78 L st h) ∧
  (∀ (d : Nat) (L st : List Value) (h : fk_H), fk_ev d qX5_tell 78 L st h = fk_ev d qX5_tell 79 L (.int ((-1 : Int32)) :: st) h) ∧
  (∀ (d : Nat) (L : List Value) (x : Int32) (h : fk_H), fk_ev d qX5_tell 79 L [.int x] h = some (some (.int x), h)) ∧
  (∀ (d : Nat) (a1 a2 : Value) (x : Nat) (st : List Value) (h : fk_H), fk_ev d qX5_tell 80 [.ref x, a1, a2] st h = fk_ev d qX5_tell 81 [.ref x, a1, a2] (.ref x :: st) h) ∧
  (∀ (d : Nat) (L st : List Value) (N : Nat) (y : Nat → Nat → Int32) (l : Nat → Nat → Int64), fk_ev d qX5_tell 81 L (.ref 18 :: st) (fk_E N y l) = fk_ev d qX5_tell 84 L (.ref 22 :: st) (fk_E N y l)) ∧
  (∀ (d : Nat) (a0 a1 : Value) (x : Int32) (st : List Value) (h : fk_H), fk_ev d qX5_tell 84 [a0, a1, .int x] st h = fk_ev d qX5_tell 85 [a0, a1, .int x] (.int x :: st) h) ∧
  (∀ (d : Nat) (L st : List Value) (N : Nat) (y : Nat → Nat → Int32) (l : Nat → Nat → Int64) (i : Nat), i < 16 → fk_ev d qX5_tell 85 L (.int (nI i) :: .ref 22 :: st) (fk_E N y l) = fk_ev d qX5_tell 86 L (.int (y 22 i) :: st) (fk_E N y l)) ∧
  (∀ (d : Nat) (L : List Value) (x : Int32) (st : List Value) (h : fk_H), fk_ev d qX5_tell 86 L (.int x :: st) h = if nI 0 ≤ x then fk_ev d qX5_tell 92 L st h else fk_ev d qX5_tell 89 L st h) ∧
  (∀ (d : Nat) (L st : List Value) (h : fk_H), fk_ev d qX5_tell 89 L st h = fk_ev d qX5_tell 91 L (.int ((-2 : Int32)) :: st) h) ∧
  (∀ (d : Nat) (L : List Value) (x : Int32) (h : fk_H), fk_ev d qX5_tell 91 L [.int x] h = some (some (.int x), h)) ∧
  (∀ (d : Nat) (a1 a2 : Value) (x : Nat) (st : List Value) (h : fk_H), fk_ev d qX5_tell 92 [.ref x, a1, a2] st h = fk_ev d qX5_tell 93 [.ref x, a1, a2] (.ref x :: st) h) ∧
  (∀ (d : Nat) (L st : List Value) (N : Nat) (y : Nat → Nat → Int32) (l : Nat → Nat → Int64), fk_ev d qX5_tell 93 L (.ref 18 :: st) (fk_E N y l) = fk_ev d qX5_tell 96 L (.ref 22 :: st) (fk_E N y l)) ∧
  (∀ (d : Nat) (a0 a1 : Value) (x : Int32) (st : List Value) (h : fk_H), fk_ev d qX5_tell 96 [a0, a1, .int x] st h = fk_ev d qX5_tell 97 [a0, a1, .int x] (.int x :: st) h) ∧
  (∀ (d : Nat) (L st : List Value) (N : Nat) (y : Nat → Nat → Int32) (l : Nat → Nat → Int64) (i : Nat), i < 16 → fk_ev d qX5_tell 97 L (.int (nI i) :: .ref 22 :: st) (fk_E N y l) = fk_ev d qX5_tell 98 L (.int (y 22 i) :: st) (fk_E N y l)) ∧
  (∀ (d : Nat) (L st : List Value) (h : fk_H), fk_ev d qX5_tell 98 L st h = fk_ev d qX5_tell 100 L (.int (nI 100) :: st) h) ∧
  (∀ (d : Nat) (a1 a2 : Value) (x : Nat) (st : List Value) (h : fk_H), fk_ev d qX5_tell 100 [.ref x, a1, a2] st h = fk_ev d qX5_tell 101 [.ref x, a1, a2] (.ref x :: st) h) ∧
  (∀ (d : Nat) (L st : List Value) (N : Nat) (y : Nat → Nat → Int32) (l : Nat → Nat → Int64), fk_ev d qX5_tell 101 L (.ref 18 :: st) (fk_E N y l) = fk_ev d qX5_tell 104 L (.ref 23 :: st) (fk_E N y l)) ∧
  (∀ (d : Nat) (a0 a1 : Value) (x : Int32) (st : List Value) (h : fk_H), fk_ev d qX5_tell 104 [a0, a1, .int x] st h = fk_ev d qX5_tell 105 [a0, a1, .int x] (.int x :: st) h) ∧
  (∀ (d : Nat) (L st : List Value) (N : Nat) (y : Nat → Nat → Int32) (l : Nat → Nat → Int64) (i : Nat), i < 16 → fk_ev d qX5_tell 105 L (.int (nI i) :: .ref 23 :: st) (fk_E N y l) = fk_ev d qX5_tell 106 L (.int (y 23 i) :: st) (fk_E N y l)) ∧
  (∀ (d : Nat) (L : List Value) (x y : Int32) (st : List Value) (h : fk_H), fk_ev d qX5_tell 106 L (.int y :: .int x :: st) h = fk_ev d qX5_tell 107 L (.int (x * y) :: st) h) ∧
  (∀ (d : Nat) (L : List Value) (x y : Int32) (st : List Value) (h : fk_H), fk_ev d qX5_tell 107 L (.int y :: .int x :: st) h = fk_ev d qX5_tell 108 L (.int (x + y) :: st) h) ∧
  (∀ (d : Nat) (L : List Value) (x : Int32) (h : fk_H), fk_ev d qX5_tell 108 L [.int x] h = some (some (.int x), h)) := ⟨fun d a1 a2 x st h => fk_w_aloadn 0 [.ref x, a1, a2] dX5_tell_0 rfl,
  fun d a0 a2 x st h => fk_w_iloadn 1 [a0, .int x, a2] dX5_tell_1 rfl,
  fun d L st h => fk_w_bipush dX5_tell_2 (by decide),
  fun d L x y st h => fk_r_isub dX5_tell_4,
  fun d L x0 N y l  => fk_g_call [.int x0] [] rfl lm_5_40 dX5_tell_5 rfl ⟨rfl, by decide⟩ (by simp) fk_at_18,
  fun d L x st h => fk_r_if_eq dX5_tell_8 (by decide),
  fun d a1 a2 x st h => fk_w_aloadn 0 [.ref x, a1, a2] dX5_tell_11 rfl,
  fun d L st N y l => fk_g_getC rfl lf_5_9 (by decide) rfl dX5_tell_12 fk_at_18,
  fun d a0 a2 x st h => fk_w_iloadn 1 [a0, .int x, a2] dX5_tell_15 rfl,
  fun d L st h => fk_w_bipush dX5_tell_16 (by decide),
  fun d L x y st h => fk_r_isub dX5_tell_18,
  fun d L st N y l i hi => fk_g_iald fk_at_19 fk_ln_19 (by decide) dX5_tell_19 hi,
  fun d L x h => fk_r_ret dX5_tell_20 (Or.inl rfl),
  fun d a1 a2 x st h => fk_w_aloadn 0 [.ref x, a1, a2] dX5_tell_21 rfl,
  fun d a0 a2 x st h => fk_w_iloadn 1 [a0, .int x, a2] dX5_tell_22 rfl,
  fun d L st h => fk_w_bipush dX5_tell_23 (by decide),
  fun d L x y st h => fk_r_isub dX5_tell_25,
  fun d L x0 N y l  => fk_g_call [.int x0] [] rfl lm_5_40 dX5_tell_26 rfl ⟨rfl, by decide⟩ (by simp) fk_at_18,
  fun d L x st h => fk_r_if_eq dX5_tell_29 (by decide),
  fun d a1 a2 x st h => fk_w_aloadn 0 [.ref x, a1, a2] dX5_tell_32 rfl,
  fun d L st N y l => fk_g_getC rfl lf_5_15 (by decide) rfl dX5_tell_33 fk_at_18,
  fun d a0 a2 x st h => fk_w_iloadn 1 [a0, .int x, a2] dX5_tell_36 rfl,
  fun d L st h => fk_w_bipush dX5_tell_37 (by decide),
  fun d L x y st h => fk_r_isub dX5_tell_39,
  fun d L st N y l i hi => fk_g_iald fk_at_20 fk_ln_20 (by decide) dX5_tell_40 hi,
  fun d L x h => fk_r_ret dX5_tell_41 (Or.inl rfl),
  fun d a1 a2 x st h => fk_w_aloadn 0 [.ref x, a1, a2] dX5_tell_42 rfl,
  fun d a0 a2 x st h => fk_w_iloadn 1 [a0, .int x, a2] dX5_tell_43 rfl,
  fun d L st h => fk_w_bipush dX5_tell_44 (by decide),
  fun d L x y st h => fk_r_isub dX5_tell_46,
  fun d L x0 N y l  => fk_g_call [.int x0] [] rfl lm_5_40 dX5_tell_47 rfl ⟨rfl, by decide⟩ (by simp) fk_at_18,
  fun d L x st h => fk_r_if_eq dX5_tell_50 (by decide),
  fun d a1 a2 x st h => fk_w_aloadn 0 [.ref x, a1, a2] dX5_tell_53 rfl,
  fun d L st N y l => fk_g_getC rfl lf_5_18 (by decide) rfl dX5_tell_54 fk_at_18,
  fun d a0 a2 x st h => fk_w_iloadn 1 [a0, .int x, a2] dX5_tell_57 rfl,
  fun d L st h => fk_w_bipush dX5_tell_58 (by decide),
  fun d L x y st h => fk_r_isub dX5_tell_60,
  fun d L st N y l i hi => fk_g_iald fk_at_21 fk_ln_21 (by decide) dX5_tell_61 hi,
  fun d L x h => fk_r_ret dX5_tell_62 (Or.inl rfl),
  fun d a0 a2 x st h => fk_w_iloadn 1 [a0, .int x, a2] dX5_tell_63 rfl,
  fun d L st h => fk_w_sipush dX5_tell_64 (by decide),
  fun d L x y st h => fk_r_isub dX5_tell_67,
  fun d a0 a1 a2 x st h => fk_w_istoren 2 3 [] [a0, a1, a2] [a0, a1, .int x] dX5_tell_68 rfl rfl (by decide) rfl,
  fun d a0 a1 x st h => fk_w_iloadn 2 [a0, a1, .int x] dX5_tell_69 rfl,
  fun d L st h => fk_w_bipush dX5_tell_70 (by decide),
  fun d L x0 x1 h => fk_g_calls [.int x0, .int x1] [] rfl lm_5_44 dX5_tell_72 rfl ⟨rfl, by decide⟩ (by simp),
  fun d L x st h => fk_r_if_ne dX5_tell_75 (by decide),
  fun d L st h => fk_w_iconst dX5_tell_78 (by decide),
  fun d L x h => fk_r_ret dX5_tell_79 (Or.inl rfl),
  fun d a1 a2 x st h => fk_w_aloadn 0 [.ref x, a1, a2] dX5_tell_80 rfl,
  fun d L st N y l => fk_g_getC rfl lf_5_21 (by decide) rfl dX5_tell_81 fk_at_18,
  fun d a0 a1 x st h => fk_w_iloadn 2 [a0, a1, .int x] dX5_tell_84 rfl,
  fun d L st N y l i hi => fk_g_iald fk_at_22 fk_ln_22 (by decide) dX5_tell_85 hi,
  fun d L x st h => fk_r_if_ge dX5_tell_86 (by decide),
  fun d L st h => fk_w_bipush dX5_tell_89 (by decide),
  fun d L x h => fk_r_ret dX5_tell_91 (Or.inl rfl),
  fun d a1 a2 x st h => fk_w_aloadn 0 [.ref x, a1, a2] dX5_tell_92 rfl,
  fun d L st N y l => fk_g_getC rfl lf_5_21 (by decide) rfl dX5_tell_93 fk_at_18,
  fun d a0 a1 x st h => fk_w_iloadn 2 [a0, a1, .int x] dX5_tell_96 rfl,
  fun d L st N y l i hi => fk_g_iald fk_at_22 fk_ln_22 (by decide) dX5_tell_97 hi,
  fun d L st h => fk_w_bipush dX5_tell_98 (by decide),
  fun d a1 a2 x st h => fk_w_aloadn 0 [.ref x, a1, a2] dX5_tell_100 rfl,
  fun d L st N y l => fk_g_getC rfl lf_5_24 (by decide) rfl dX5_tell_101 fk_at_18,
  fun d a0 a1 x st h => fk_w_iloadn 2 [a0, a1, .int x] dX5_tell_104 rfl,
  fun d L st N y l i hi => fk_g_iald fk_at_23 fk_ln_23 (by decide) dX5_tell_105 hi,
  fun d L x y st h => fk_r_imul dX5_tell_106,
  fun d L x y st h => fk_r_iadd dX5_tell_107,
  fun d L x h => fk_r_ret dX5_tell_108 (Or.inl rfl)⟩
theorem dX5_goalOf_0 : decode cX5_goalOf 0 = .ok (.aload_n 0, 1) := by decide +kernel
theorem dX5_goalOf_1 : decode cX5_goalOf 1 = .ok (.aload_n 1, 1) := by decide +kernel
theorem dX5_goalOf_2 : decode cX5_goalOf 2 = .ok (.getfield 48, 3) := by decide +kernel
theorem dX5_goalOf_5 : decode cX5_goalOf 5 = .ok (.invokevirtual 40, 3) := by decide +kernel
theorem dX5_goalOf_8 : decode cX5_goalOf 8 = .ok (.ifCond .eq 15, 3) := by decide +kernel
theorem dX5_goalOf_11 : decode cX5_goalOf 11 = .ok (.aload_n 0, 1) := by decide +kernel
theorem dX5_goalOf_12 : decode cX5_goalOf 12 = .ok (.getfield 15, 3) := by decide +kernel
theorem dX5_goalOf_15 : decode cX5_goalOf 15 = .ok (.aload_n 1, 1) := by decide +kernel
theorem dX5_goalOf_16 : decode cX5_goalOf 16 = .ok (.getfield 48, 3) := by decide +kernel
theorem dX5_goalOf_19 : decode cX5_goalOf 19 = .ok (.iaload, 1) := by decide +kernel
theorem dX5_goalOf_20 : decode cX5_goalOf 20 = .ok (.goto 7, 3) := by decide +kernel
theorem dX5_goalOf_23 : decode cX5_goalOf 23 = .ok (.aload_n 1, 1) := by decide +kernel
theorem dX5_goalOf_24 : decode cX5_goalOf 24 = .ok (.getfield 54, 3) := by decide +kernel
theorem dX5_goalOf_27 : decode cX5_goalOf 27 = .ok (.ireturn, 1) := by decide +kernel
theorem rX5_goalOf : (∀ (d : Nat) (a1 : Value) (x : Nat) (st : List Value) (h : fk_H), fk_ev d qX5_goalOf 0 [.ref x, a1] st h = fk_ev d qX5_goalOf 1 [.ref x, a1] (.ref x :: st) h) ∧
  (∀ (d : Nat) (a0 : Value) (x : Nat) (st : List Value) (h : fk_H), fk_ev d qX5_goalOf 1 [a0, .ref x] st h = fk_ev d qX5_goalOf 2 [a0, .ref x] (.ref x :: st) h) ∧
  (∀ (d : Nat) (L st : List Value) (N : Nat) (y : Nat → Nat → Int32) (l : Nat → Nat → Int64) (c : Nat), fk_at c 0 → fk_ev d qX5_goalOf 2 L (.ref c :: st) (fk_E N y l) = fk_ev d qX5_goalOf 5 L (.int (y c 7) :: st) (fk_E N y l)) ∧
  (∀ (d : Nat) (L : List Value) (x0 : Int32)  (N : Nat) (y : Nat → Nat → Int32) (l : Nat → Nat → Int64), fk_ev (d + 1) qX5_goalOf 5 L (.int x0 :: .ref 18 :: []) (fk_E N y l) = (fk_ev d qX5_isTold 0 [.ref 18, .int x0] [] (fk_E N y l)).bind fun o => fk_ev (d + 1) qX5_goalOf 8 L (o.1.toList ++ []) o.2) ∧
  (∀ (d : Nat) (L : List Value) (x : Int32) (st : List Value) (h : fk_H), fk_ev d qX5_goalOf 8 L (.int x :: st) h = if x = nI 0 then fk_ev d qX5_goalOf 23 L st h else fk_ev d qX5_goalOf 11 L st h) ∧
  (∀ (d : Nat) (a1 : Value) (x : Nat) (st : List Value) (h : fk_H), fk_ev d qX5_goalOf 11 [.ref x, a1] st h = fk_ev d qX5_goalOf 12 [.ref x, a1] (.ref x :: st) h) ∧
  (∀ (d : Nat) (L st : List Value) (N : Nat) (y : Nat → Nat → Int32) (l : Nat → Nat → Int64), fk_ev d qX5_goalOf 12 L (.ref 18 :: st) (fk_E N y l) = fk_ev d qX5_goalOf 15 L (.ref 20 :: st) (fk_E N y l)) ∧
  (∀ (d : Nat) (a0 : Value) (x : Nat) (st : List Value) (h : fk_H), fk_ev d qX5_goalOf 15 [a0, .ref x] st h = fk_ev d qX5_goalOf 16 [a0, .ref x] (.ref x :: st) h) ∧
  (∀ (d : Nat) (L st : List Value) (N : Nat) (y : Nat → Nat → Int32) (l : Nat → Nat → Int64) (c : Nat), fk_at c 0 → fk_ev d qX5_goalOf 16 L (.ref c :: st) (fk_E N y l) = fk_ev d qX5_goalOf 19 L (.int (y c 7) :: st) (fk_E N y l)) ∧
  (∀ (d : Nat) (L st : List Value) (N : Nat) (y : Nat → Nat → Int32) (l : Nat → Nat → Int64) (i : Nat), i < 32 → fk_ev d qX5_goalOf 19 L (.int (nI i) :: .ref 20 :: st) (fk_E N y l) = fk_ev d qX5_goalOf 20 L (.int (y 20 i) :: st) (fk_E N y l)) ∧
  (∀ (d : Nat) (L st : List Value) (h : fk_H), fk_ev d qX5_goalOf 20 L st h = fk_ev d qX5_goalOf 27 L st h) ∧
  (∀ (d : Nat) (a0 : Value) (x : Nat) (st : List Value) (h : fk_H), fk_ev d qX5_goalOf 23 [a0, .ref x] st h = fk_ev d qX5_goalOf 24 [a0, .ref x] (.ref x :: st) h) ∧
  (∀ (d : Nat) (L st : List Value) (N : Nat) (y : Nat → Nat → Int32) (l : Nat → Nat → Int64) (c : Nat), fk_at c 0 → fk_ev d qX5_goalOf 24 L (.ref c :: st) (fk_E N y l) = fk_ev d qX5_goalOf 27 L (.int (y c 6) :: st) (fk_E N y l)) ∧
  (∀ (d : Nat) (L : List Value) (x : Int32) (h : fk_H), fk_ev d qX5_goalOf 27 L [.int x] h = some (some (.int x), h)) := ⟨fun d a1 x st h => fk_w_aloadn 0 [.ref x, a1] dX5_goalOf_0 rfl,
  fun d a0 x st h => fk_w_aloadn 1 [a0, .ref x] dX5_goalOf_1 rfl,
  fun d L st N y l c hc => fk_g_getI rfl lf_5_48 (by decide) dX5_goalOf_2 hc,
  fun d L x0 N y l  => fk_g_call [.int x0] [] rfl lm_5_40 dX5_goalOf_5 rfl ⟨rfl, by decide⟩ (by simp) fk_at_18,
  fun d L x st h => fk_r_if_eq dX5_goalOf_8 (by decide),
  fun d a1 x st h => fk_w_aloadn 0 [.ref x, a1] dX5_goalOf_11 rfl,
  fun d L st N y l => fk_g_getC rfl lf_5_15 (by decide) rfl dX5_goalOf_12 fk_at_18,
  fun d a0 x st h => fk_w_aloadn 1 [a0, .ref x] dX5_goalOf_15 rfl,
  fun d L st N y l c hc => fk_g_getI rfl lf_5_48 (by decide) dX5_goalOf_16 hc,
  fun d L st N y l i hi => fk_g_iald fk_at_20 fk_ln_20 (by decide) dX5_goalOf_19 hi,
  fun d L st h => fk_r_goto dX5_goalOf_20 (by decide),
  fun d a0 x st h => fk_w_aloadn 1 [a0, .ref x] dX5_goalOf_23 rfl,
  fun d L st N y l c hc => fk_g_getI rfl lf_5_54 (by decide) dX5_goalOf_24 hc,
  fun d L x h => fk_r_ret dX5_goalOf_27 (Or.inl rfl)⟩
theorem dX5_reach_0 : decode cX5_reach 0 = .ok (.iload_n 1, 1) := by decide +kernel
theorem dX5_reach_1 : decode cX5_reach 1 = .ok (.bipush 16, 2) := by decide +kernel
theorem dX5_reach_3 : decode cX5_reach 3 = .ok (.invokestatic 44, 3) := by decide +kernel
theorem dX5_reach_6 : decode cX5_reach 6 = .ok (.ifCond .ne 5, 3) := by decide +kernel
theorem dX5_reach_9 : decode cX5_reach 9 = .ok (.iconst 0, 1) := by decide +kernel
theorem dX5_reach_10 : decode cX5_reach 10 = .ok (.ireturn, 1) := by decide +kernel
theorem dX5_reach_11 : decode cX5_reach 11 = .ok (.iconst 1, 1) := by decide +kernel
theorem dX5_reach_12 : decode cX5_reach 12 = .ok (.iload_n 1, 1) := by decide +kernel
theorem dX5_reach_13 : decode cX5_reach 13 = .ok (.ishl, 1) := by decide +kernel
theorem dX5_reach_14 : decode cX5_reach 14 = .ok (.istore_n 3, 1) := by decide +kernel
theorem dX5_reach_15 : decode cX5_reach 15 = .ok (.iload_n 3, 1) := by decide +kernel
theorem dX5_reach_16 : decode cX5_reach 16 = .ok (.istore 4, 2) := by decide +kernel
theorem dX5_reach_18 : decode cX5_reach 18 = .ok (.iconst 0, 1) := by decide +kernel
theorem dX5_reach_19 : decode cX5_reach 19 = .ok (.istore 5, 2) := by decide +kernel
theorem dX5_reach_21 : decode cX5_reach 21 = .ok (.iload 5, 2) := by decide +kernel
theorem dX5_reach_23 : decode cX5_reach 23 = .ok (.bipush 16, 2) := by decide +kernel
theorem dX5_reach_25 : decode cX5_reach 25 = .ok (.if_icmp .ge 76, 3) := by decide +kernel
theorem dX5_reach_28 : decode cX5_reach 28 = .ok (.iload 4, 2) := by decide +kernel
theorem dX5_reach_30 : decode cX5_reach 30 = .ok (.ifCond .eq 71, 3) := by decide +kernel
theorem dX5_reach_33 : decode cX5_reach 33 = .ok (.iconst 0, 1) := by decide +kernel
theorem dX5_reach_34 : decode cX5_reach 34 = .ok (.istore 6, 2) := by decide +kernel
theorem dX5_reach_36 : decode cX5_reach 36 = .ok (.iconst 0, 1) := by decide +kernel
theorem dX5_reach_37 : decode cX5_reach 37 = .ok (.istore 7, 2) := by decide +kernel
theorem dX5_reach_39 : decode cX5_reach 39 = .ok (.iload 7, 2) := by decide +kernel
theorem dX5_reach_41 : decode cX5_reach 41 = .ok (.bipush 16, 2) := by decide +kernel
theorem dX5_reach_43 : decode cX5_reach 43 = .ok (.if_icmp .ge 35, 3) := by decide +kernel
theorem dX5_reach_46 : decode cX5_reach 46 = .ok (.iload 6, 2) := by decide +kernel
theorem dX5_reach_48 : decode cX5_reach 48 = .ok (.iload 4, 2) := by decide +kernel
theorem dX5_reach_50 : decode cX5_reach 50 = .ok (.iload 7, 2) := by decide +kernel
theorem dX5_reach_52 : decode cX5_reach 52 = .ok (.ishr, 1) := by decide +kernel
theorem dX5_reach_53 : decode cX5_reach 53 = .ok (.iconst 1, 1) := by decide +kernel
theorem dX5_reach_54 : decode cX5_reach 54 = .ok (.iand, 1) := by decide +kernel
theorem dX5_reach_55 : decode cX5_reach 55 = .ok (.ifCond .eq 13, 3) := by decide +kernel
theorem dX5_reach_58 : decode cX5_reach 58 = .ok (.aload_n 0, 1) := by decide +kernel
theorem dX5_reach_59 : decode cX5_reach 59 = .ok (.getfield 27, 3) := by decide +kernel
theorem dX5_reach_62 : decode cX5_reach 62 = .ok (.iload 7, 2) := by decide +kernel
theorem dX5_reach_64 : decode cX5_reach 64 = .ok (.iaload, 1) := by decide +kernel
theorem dX5_reach_65 : decode cX5_reach 65 = .ok (.goto 4, 3) := by decide +kernel
theorem dX5_reach_68 : decode cX5_reach 68 = .ok (.iconst 0, 1) := by decide +kernel
theorem dX5_reach_69 : decode cX5_reach 69 = .ok (.ior, 1) := by decide +kernel
theorem dX5_reach_70 : decode cX5_reach 70 = .ok (.istore 6, 2) := by decide +kernel
theorem dX5_reach_72 : decode cX5_reach 72 = .ok (.iinc 7 1, 3) := by decide +kernel
theorem dX5_reach_75 : decode cX5_reach 75 = .ok (.goto (-36), 3) := by decide +kernel
theorem dX5_reach_78 : decode cX5_reach 78 = .ok (.iload 6, 2) := by decide +kernel
theorem dX5_reach_80 : decode cX5_reach 80 = .ok (.iload_n 3, 1) := by decide +kernel
theorem dX5_reach_81 : decode cX5_reach 81 = .ok (.iconst (-1), 1) := by decide +kernel
theorem dX5_reach_82 : decode cX5_reach 82 = .ok (.ixor, 1) := by decide +kernel
theorem dX5_reach_83 : decode cX5_reach 83 = .ok (.iand, 1) := by decide +kernel
theorem dX5_reach_84 : decode cX5_reach 84 = .ok (.iload_n 2, 1) := by decide +kernel
theorem dX5_reach_85 : decode cX5_reach 85 = .ok (.iconst (-1), 1) := by decide +kernel
theorem dX5_reach_86 : decode cX5_reach 86 = .ok (.ixor, 1) := by decide +kernel
theorem dX5_reach_87 : decode cX5_reach 87 = .ok (.iand, 1) := by decide +kernel
theorem dX5_reach_88 : decode cX5_reach 88 = .ok (.istore 4, 2) := by decide +kernel
theorem dX5_reach_90 : decode cX5_reach 90 = .ok (.iload_n 3, 1) := by decide +kernel
theorem dX5_reach_91 : decode cX5_reach 91 = .ok (.iload 4, 2) := by decide +kernel
theorem dX5_reach_93 : decode cX5_reach 93 = .ok (.ior, 1) := by decide +kernel
theorem dX5_reach_94 : decode cX5_reach 94 = .ok (.istore_n 3, 1) := by decide +kernel
theorem dX5_reach_95 : decode cX5_reach 95 = .ok (.iinc 5 1, 3) := by decide +kernel
theorem dX5_reach_98 : decode cX5_reach 98 = .ok (.goto (-77), 3) := by decide +kernel
theorem dX5_reach_101 : decode cX5_reach 101 = .ok (.iload_n 3, 1) := by decide +kernel
theorem dX5_reach_102 : decode cX5_reach 102 = .ok (.ireturn, 1) := by decide +kernel
theorem rX5_reach : (∀ (d : Nat) (a0 a2 a3 a4 a5 a6 a7 : Value) (x : Int32) (st : List Value) (h : fk_H), fk_ev d qX5_reach 0 [a0, .int x, a2, a3, a4, a5, a6, a7] st h = fk_ev d qX5_reach 1 [a0, .int x, a2, a3, a4, a5, a6, a7] (.int x :: st) h) ∧
  (∀ (d : Nat) (L st : List Value) (h : fk_H), fk_ev d qX5_reach 1 L st h = fk_ev d qX5_reach 3 L (.int (nI 16) :: st) h) ∧
  (∀ (d : Nat) (L : List Value) (x0 : Int32) (x1 : Int32)  (h : fk_H), fk_ev (d + 1) qX5_reach 3 L (.int x1 :: .int x0 :: []) h = (fk_ev d qX11_within 0 [.int x0, .int x1] [] h).bind fun o => fk_ev (d + 1) qX5_reach 6 L (o.1.toList ++ []) o.2) ∧
  (∀ (d : Nat) (L : List Value) (x : Int32) (st : List Value) (h : fk_H), fk_ev d qX5_reach 6 L (.int x :: st) h = if ¬ x = nI 0 then fk_ev d qX5_reach 11 L st h else fk_ev d qX5_reach 9 L st h) ∧
  (∀ (d : Nat) (L st : List Value) (h : fk_H), fk_ev d qX5_reach 9 L st h = fk_ev d qX5_reach 10 L (.int (nI 0) :: st) h) ∧
  (∀ (d : Nat) (L : List Value) (x : Int32) (h : fk_H), fk_ev d qX5_reach 10 L [.int x] h = some (some (.int x), h)) ∧
  (∀ (d : Nat) (L st : List Value) (h : fk_H), fk_ev d qX5_reach 11 L st h = fk_ev d qX5_reach 12 L (.int (nI 1) :: st) h) ∧
  (∀ (d : Nat) (a0 a2 a3 a4 a5 a6 a7 : Value) (x : Int32) (st : List Value) (h : fk_H), fk_ev d qX5_reach 12 [a0, .int x, a2, a3, a4, a5, a6, a7] st h = fk_ev d qX5_reach 13 [a0, .int x, a2, a3, a4, a5, a6, a7] (.int x :: st) h) ∧
  (∀ (d : Nat) (L : List Value) (x y : Int32) (st : List Value) (h : fk_H), fk_ev d qX5_reach 13 L (.int y :: .int x :: st) h = fk_ev d qX5_reach 14 L (.int (x <<< (y &&& 31)) :: st) h) ∧
  (∀ (d : Nat) (a0 a1 a2 a3 a4 a5 a6 a7 : Value) (x : Int32) (st : List Value) (h : fk_H), fk_ev d qX5_reach 14 [a0, a1, a2, a3, a4, a5, a6, a7] (.int x :: st) h = fk_ev d qX5_reach 15 [a0, a1, a2, .int x, a4, a5, a6, a7] st h) ∧
  (∀ (d : Nat) (a0 a1 a2 a4 a5 a6 a7 : Value) (x : Int32) (st : List Value) (h : fk_H), fk_ev d qX5_reach 15 [a0, a1, a2, .int x, a4, a5, a6, a7] st h = fk_ev d qX5_reach 16 [a0, a1, a2, .int x, a4, a5, a6, a7] (.int x :: st) h) ∧
  (∀ (d : Nat) (a0 a1 a2 a3 a4 a5 a6 a7 : Value) (x : Int32) (st : List Value) (h : fk_H), fk_ev d qX5_reach 16 [a0, a1, a2, a3, a4, a5, a6, a7] (.int x :: st) h = fk_ev d qX5_reach 18 [a0, a1, a2, a3, .int x, a5, a6, a7] st h) ∧
  (∀ (d : Nat) (L st : List Value) (h : fk_H), fk_ev d qX5_reach 18 L st h = fk_ev d qX5_reach 19 L (.int (nI 0) :: st) h) ∧
  (∀ (d : Nat) (a0 a1 a2 a3 a4 a5 a6 a7 : Value) (x : Int32) (st : List Value) (h : fk_H), fk_ev d qX5_reach 19 [a0, a1, a2, a3, a4, a5, a6, a7] (.int x :: st) h = fk_ev d qX5_reach 21 [a0, a1, a2, a3, a4, .int x, a6, a7] st h) ∧
  (∀ (d : Nat) (L st : List Value) (h : fk_H), fk_ev d qX5_reach 23 L st h = fk_ev d qX5_reach 25 L (.int (nI 16) :: st) h) ∧
  (∀ (d : Nat) (L : List Value) (x y : Int32) (st : List Value) (h : fk_H), fk_ev d qX5_reach 25 L (.int y :: .int x :: st) h = if y ≤ x then fk_ev d qX5_reach 101 L st h else fk_ev d qX5_reach 28 L st h) ∧
  (∀ (d : Nat) (a0 a1 a2 a3 a5 a6 a7 : Value) (x : Int32) (st : List Value) (h : fk_H), fk_ev d qX5_reach 28 [a0, a1, a2, a3, .int x, a5, a6, a7] st h = fk_ev d qX5_reach 30 [a0, a1, a2, a3, .int x, a5, a6, a7] (.int x :: st) h) ∧
  (∀ (d : Nat) (L : List Value) (x : Int32) (st : List Value) (h : fk_H), fk_ev d qX5_reach 30 L (.int x :: st) h = if x = nI 0 then fk_ev d qX5_reach 101 L st h else fk_ev d qX5_reach 33 L st h) ∧
  (∀ (d : Nat) (L st : List Value) (h : fk_H), fk_ev d qX5_reach 33 L st h = fk_ev d qX5_reach 34 L (.int (nI 0) :: st) h) ∧
  (∀ (d : Nat) (a0 a1 a2 a3 a4 a5 a6 a7 : Value) (x : Int32) (st : List Value) (h : fk_H), fk_ev d qX5_reach 34 [a0, a1, a2, a3, a4, a5, a6, a7] (.int x :: st) h = fk_ev d qX5_reach 36 [a0, a1, a2, a3, a4, a5, .int x, a7] st h) ∧
  (∀ (d : Nat) (L st : List Value) (h : fk_H), fk_ev d qX5_reach 36 L st h = fk_ev d qX5_reach 37 L (.int (nI 0) :: st) h) ∧
  (∀ (d : Nat) (a0 a1 a2 a3 a4 a5 a6 a7 : Value) (x : Int32) (st : List Value) (h : fk_H), fk_ev d qX5_reach 37 [a0, a1, a2, a3, a4, a5, a6, a7] (.int x :: st) h = fk_ev d qX5_reach 39 [a0, a1, a2, a3, a4, a5, a6, .int x] st h) ∧
  (∀ (d : Nat) (L st : List Value) (h : fk_H), fk_ev d qX5_reach 41 L st h = fk_ev d qX5_reach 43 L (.int (nI 16) :: st) h) ∧
  (∀ (d : Nat) (L : List Value) (x y : Int32) (st : List Value) (h : fk_H), fk_ev d qX5_reach 43 L (.int y :: .int x :: st) h = if y ≤ x then fk_ev d qX5_reach 78 L st h else fk_ev d qX5_reach 46 L st h) ∧
  (∀ (d : Nat) (a0 a1 a2 a3 a4 a5 a7 : Value) (x : Int32) (st : List Value) (h : fk_H), fk_ev d qX5_reach 46 [a0, a1, a2, a3, a4, a5, .int x, a7] st h = fk_ev d qX5_reach 48 [a0, a1, a2, a3, a4, a5, .int x, a7] (.int x :: st) h) ∧
  (∀ (d : Nat) (a0 a1 a2 a3 a5 a6 a7 : Value) (x : Int32) (st : List Value) (h : fk_H), fk_ev d qX5_reach 48 [a0, a1, a2, a3, .int x, a5, a6, a7] st h = fk_ev d qX5_reach 50 [a0, a1, a2, a3, .int x, a5, a6, a7] (.int x :: st) h) ∧
  (∀ (d : Nat) (a0 a1 a2 a3 a4 a5 a6 : Value) (x : Int32) (st : List Value) (h : fk_H), fk_ev d qX5_reach 50 [a0, a1, a2, a3, a4, a5, a6, .int x] st h = fk_ev d qX5_reach 52 [a0, a1, a2, a3, a4, a5, a6, .int x] (.int x :: st) h) ∧
  (∀ (d : Nat) (L : List Value) (x y : Int32) (st : List Value) (h : fk_H), fk_ev d qX5_reach 52 L (.int y :: .int x :: st) h = fk_ev d qX5_reach 53 L (.int (x >>> (y &&& 31)) :: st) h) ∧
  (∀ (d : Nat) (L st : List Value) (h : fk_H), fk_ev d qX5_reach 53 L st h = fk_ev d qX5_reach 54 L (.int (nI 1) :: st) h) ∧
  (∀ (d : Nat) (L : List Value) (x y : Int32) (st : List Value) (h : fk_H), fk_ev d qX5_reach 54 L (.int y :: .int x :: st) h = fk_ev d qX5_reach 55 L (.int (x &&& y) :: st) h) ∧
  (∀ (d : Nat) (L : List Value) (x : Int32) (st : List Value) (h : fk_H), fk_ev d qX5_reach 55 L (.int x :: st) h = if x = nI 0 then fk_ev d qX5_reach 68 L st h else fk_ev d qX5_reach 58 L st h) ∧
  (∀ (d : Nat) (a1 a2 a3 a4 a5 a6 a7 : Value) (x : Nat) (st : List Value) (h : fk_H), fk_ev d qX5_reach 58 [.ref x, a1, a2, a3, a4, a5, a6, a7] st h = fk_ev d qX5_reach 59 [.ref x, a1, a2, a3, a4, a5, a6, a7] (.ref x :: st) h) ∧
  (∀ (d : Nat) (L st : List Value) (N : Nat) (y : Nat → Nat → Int32) (l : Nat → Nat → Int64), fk_ev d qX5_reach 59 L (.ref 18 :: st) (fk_E N y l) = fk_ev d qX5_reach 62 L (.ref 24 :: st) (fk_E N y l)) ∧
  (∀ (d : Nat) (a0 a1 a2 a3 a4 a5 a6 : Value) (x : Int32) (st : List Value) (h : fk_H), fk_ev d qX5_reach 62 [a0, a1, a2, a3, a4, a5, a6, .int x] st h = fk_ev d qX5_reach 64 [a0, a1, a2, a3, a4, a5, a6, .int x] (.int x :: st) h) ∧
  (∀ (d : Nat) (L st : List Value) (N : Nat) (y : Nat → Nat → Int32) (l : Nat → Nat → Int64) (i : Nat), i < 16 → fk_ev d qX5_reach 64 L (.int (nI i) :: .ref 24 :: st) (fk_E N y l) = fk_ev d qX5_reach 65 L (.int (y 24 i) :: st) (fk_E N y l)) ∧
  (∀ (d : Nat) (L st : List Value) (h : fk_H), fk_ev d qX5_reach 65 L st h = fk_ev d qX5_reach 69 L st h) ∧
  (∀ (d : Nat) (L st : List Value) (h : fk_H), fk_ev d qX5_reach 68 L st h = fk_ev d qX5_reach 69 L (.int (nI 0) :: st) h) ∧
  (∀ (d : Nat) (L : List Value) (x y : Int32) (st : List Value) (h : fk_H), fk_ev d qX5_reach 69 L (.int y :: .int x :: st) h = fk_ev d qX5_reach 70 L (.int (x ||| y) :: st) h) ∧
  (∀ (d : Nat) (a0 a1 a2 a3 a4 a5 a6 a7 : Value) (x : Int32) (st : List Value) (h : fk_H), fk_ev d qX5_reach 70 [a0, a1, a2, a3, a4, a5, a6, a7] (.int x :: st) h = fk_ev d qX5_reach 72 [a0, a1, a2, a3, a4, a5, .int x, a7] st h) ∧
  (∀ (d : Nat) (a0 a1 a2 a3 a4 a5 a6 : Value) (x : Int32) (st : List Value) (h : fk_H), fk_ev d qX5_reach 72 [a0, a1, a2, a3, a4, a5, a6, .int x] st h = fk_ev d qX5_reach 75 [a0, a1, a2, a3, a4, a5, a6, .int (x + nI 1)] st h) ∧
  (∀ (d : Nat) (L st : List Value) (h : fk_H), fk_ev d qX5_reach 75 L st h = fk_ev d qX5_reach 39 L st h) ∧
  (∀ (d : Nat) (a0 a1 a2 a3 a4 a5 a7 : Value) (x : Int32) (st : List Value) (h : fk_H), fk_ev d qX5_reach 78 [a0, a1, a2, a3, a4, a5, .int x, a7] st h = fk_ev d qX5_reach 80 [a0, a1, a2, a3, a4, a5, .int x, a7] (.int x :: st) h) ∧
  (∀ (d : Nat) (a0 a1 a2 a4 a5 a6 a7 : Value) (x : Int32) (st : List Value) (h : fk_H), fk_ev d qX5_reach 80 [a0, a1, a2, .int x, a4, a5, a6, a7] st h = fk_ev d qX5_reach 81 [a0, a1, a2, .int x, a4, a5, a6, a7] (.int x :: st) h) ∧
  (∀ (d : Nat) (L st : List Value) (h : fk_H), fk_ev d qX5_reach 81 L st h = fk_ev d qX5_reach 82 L (.int ((-1 : Int32)) :: st) h) ∧
  (∀ (d : Nat) (L : List Value) (x y : Int32) (st : List Value) (h : fk_H), fk_ev d qX5_reach 82 L (.int y :: .int x :: st) h = fk_ev d qX5_reach 83 L (.int (x ^^^ y) :: st) h) ∧
  (∀ (d : Nat) (L : List Value) (x y : Int32) (st : List Value) (h : fk_H), fk_ev d qX5_reach 83 L (.int y :: .int x :: st) h = fk_ev d qX5_reach 84 L (.int (x &&& y) :: st) h) ∧
  (∀ (d : Nat) (a0 a1 a3 a4 a5 a6 a7 : Value) (x : Int32) (st : List Value) (h : fk_H), fk_ev d qX5_reach 84 [a0, a1, .int x, a3, a4, a5, a6, a7] st h = fk_ev d qX5_reach 85 [a0, a1, .int x, a3, a4, a5, a6, a7] (.int x :: st) h) ∧
  (∀ (d : Nat) (L st : List Value) (h : fk_H), fk_ev d qX5_reach 85 L st h = fk_ev d qX5_reach 86 L (.int ((-1 : Int32)) :: st) h) ∧
  (∀ (d : Nat) (L : List Value) (x y : Int32) (st : List Value) (h : fk_H), fk_ev d qX5_reach 86 L (.int y :: .int x :: st) h = fk_ev d qX5_reach 87 L (.int (x ^^^ y) :: st) h) ∧
  (∀ (d : Nat) (L : List Value) (x y : Int32) (st : List Value) (h : fk_H), fk_ev d qX5_reach 87 L (.int y :: .int x :: st) h = fk_ev d qX5_reach 88 L (.int (x &&& y) :: st) h) ∧
  (∀ (d : Nat) (a0 a1 a2 a3 a4 a5 a6 a7 : Value) (x : Int32) (st : List Value) (h : fk_H), fk_ev d qX5_reach 88 [a0, a1, a2, a3, a4, a5, a6, a7] (.int x :: st) h = fk_ev d qX5_reach 90 [a0, a1, a2, a3, .int x, a5, a6, a7] st h) ∧
  (∀ (d : Nat) (a0 a1 a2 a4 a5 a6 a7 : Value) (x : Int32) (st : List Value) (h : fk_H), fk_ev d qX5_reach 90 [a0, a1, a2, .int x, a4, a5, a6, a7] st h = fk_ev d qX5_reach 91 [a0, a1, a2, .int x, a4, a5, a6, a7] (.int x :: st) h) ∧
  (∀ (d : Nat) (a0 a1 a2 a3 a5 a6 a7 : Value) (x : Int32) (st : List Value) (h : fk_H), fk_ev d qX5_reach 91 [a0, a1, a2, a3, .int x, a5, a6, a7] st h = fk_ev d qX5_reach 93 [a0, a1, a2, a3, .int x, a5, a6, a7] (.int x :: st) h) ∧
  (∀ (d : Nat) (L : List Value) (x y : Int32) (st : List Value) (h : fk_H), fk_ev d qX5_reach 93 L (.int y :: .int x :: st) h = fk_ev d qX5_reach 94 L (.int (x ||| y) :: st) h) ∧
  (∀ (d : Nat) (a0 a1 a2 a3 a4 a5 a6 a7 : Value) (x : Int32) (st : List Value) (h : fk_H), fk_ev d qX5_reach 94 [a0, a1, a2, a3, a4, a5, a6, a7] (.int x :: st) h = fk_ev d qX5_reach 95 [a0, a1, a2, .int x, a4, a5, a6, a7] st h) ∧
  (∀ (d : Nat) (a0 a1 a2 a3 a4 a6 a7 : Value) (x : Int32) (st : List Value) (h : fk_H), fk_ev d qX5_reach 95 [a0, a1, a2, a3, a4, .int x, a6, a7] st h = fk_ev d qX5_reach 98 [a0, a1, a2, a3, a4, .int (x + nI 1), a6, a7] st h) ∧
  (∀ (d : Nat) (L st : List Value) (h : fk_H), fk_ev d qX5_reach 98 L st h = fk_ev d qX5_reach 21 L st h) ∧
  (∀ (d : Nat) (a0 a1 a2 a4 a5 a6 a7 : Value) (x : Int32) (st : List Value) (h : fk_H), fk_ev d qX5_reach 101 [a0, a1, a2, .int x, a4, a5, a6, a7] st h = fk_ev d qX5_reach 102 [a0, a1, a2, .int x, a4, a5, a6, a7] (.int x :: st) h) ∧
  (∀ (d : Nat) (L : List Value) (x : Int32) (h : fk_H), fk_ev d qX5_reach 102 L [.int x] h = some (some (.int x), h)) := ⟨fun d a0 a2 a3 a4 a5 a6 a7 x st h => fk_w_iloadn 1 [a0, .int x, a2, a3, a4, a5, a6, a7] dX5_reach_0 rfl,
  fun d L st h => fk_w_bipush dX5_reach_1 (by decide),
  fun d L x0 x1 h => fk_g_calls [.int x0, .int x1] [] rfl lm_5_44 dX5_reach_3 rfl ⟨rfl, by decide⟩ (by simp),
  fun d L x st h => fk_r_if_ne dX5_reach_6 (by decide),
  fun d L st h => fk_w_iconst dX5_reach_9 (by decide),
  fun d L x h => fk_r_ret dX5_reach_10 (Or.inl rfl),
  fun d L st h => fk_w_iconst dX5_reach_11 (by decide),
  fun d a0 a2 a3 a4 a5 a6 a7 x st h => fk_w_iloadn 1 [a0, .int x, a2, a3, a4, a5, a6, a7] dX5_reach_12 rfl,
  fun d L x y st h => fk_r_ishl dX5_reach_13,
  fun d a0 a1 a2 a3 a4 a5 a6 a7 x st h => fk_w_istoren 3 8 [] [a0, a1, a2, a3, a4, a5, a6, a7] [a0, a1, a2, .int x, a4, a5, a6, a7] dX5_reach_14 rfl rfl (by decide) rfl,
  fun d a0 a1 a2 a4 a5 a6 a7 x st h => fk_w_iloadn 3 [a0, a1, a2, .int x, a4, a5, a6, a7] dX5_reach_15 rfl,
  fun d a0 a1 a2 a3 a4 a5 a6 a7 x st h => fk_w_istore 4 8 [] [a0, a1, a2, a3, a4, a5, a6, a7] [a0, a1, a2, a3, .int x, a5, a6, a7] dX5_reach_16 rfl rfl (by decide) rfl,
  fun d L st h => fk_w_iconst dX5_reach_18 (by decide),
  fun d a0 a1 a2 a3 a4 a5 a6 a7 x st h => fk_w_istore 5 8 [] [a0, a1, a2, a3, a4, a5, a6, a7] [a0, a1, a2, a3, a4, .int x, a6, a7] dX5_reach_19 rfl rfl (by decide) rfl,
  fun d L st h => fk_w_bipush dX5_reach_23 (by decide),
  fun d L x y st h => fk_r_icmp_ge dX5_reach_25 (by decide),
  fun d a0 a1 a2 a3 a5 a6 a7 x st h => fk_w_iload 4 [a0, a1, a2, a3, .int x, a5, a6, a7] dX5_reach_28 rfl,
  fun d L x st h => fk_r_if_eq dX5_reach_30 (by decide),
  fun d L st h => fk_w_iconst dX5_reach_33 (by decide),
  fun d a0 a1 a2 a3 a4 a5 a6 a7 x st h => fk_w_istore 6 8 [] [a0, a1, a2, a3, a4, a5, a6, a7] [a0, a1, a2, a3, a4, a5, .int x, a7] dX5_reach_34 rfl rfl (by decide) rfl,
  fun d L st h => fk_w_iconst dX5_reach_36 (by decide),
  fun d a0 a1 a2 a3 a4 a5 a6 a7 x st h => fk_w_istore 7 8 [] [a0, a1, a2, a3, a4, a5, a6, a7] [a0, a1, a2, a3, a4, a5, a6, .int x] dX5_reach_37 rfl rfl (by decide) rfl,
  fun d L st h => fk_w_bipush dX5_reach_41 (by decide),
  fun d L x y st h => fk_r_icmp_ge dX5_reach_43 (by decide),
  fun d a0 a1 a2 a3 a4 a5 a7 x st h => fk_w_iload 6 [a0, a1, a2, a3, a4, a5, .int x, a7] dX5_reach_46 rfl,
  fun d a0 a1 a2 a3 a5 a6 a7 x st h => fk_w_iload 4 [a0, a1, a2, a3, .int x, a5, a6, a7] dX5_reach_48 rfl,
  fun d a0 a1 a2 a3 a4 a5 a6 x st h => fk_w_iload 7 [a0, a1, a2, a3, a4, a5, a6, .int x] dX5_reach_50 rfl,
  fun d L x y st h => fk_r_ishr dX5_reach_52,
  fun d L st h => fk_w_iconst dX5_reach_53 (by decide),
  fun d L x y st h => fk_r_iand dX5_reach_54,
  fun d L x st h => fk_r_if_eq dX5_reach_55 (by decide),
  fun d a1 a2 a3 a4 a5 a6 a7 x st h => fk_w_aloadn 0 [.ref x, a1, a2, a3, a4, a5, a6, a7] dX5_reach_58 rfl,
  fun d L st N y l => fk_g_getC rfl lf_5_27 (by decide) rfl dX5_reach_59 fk_at_18,
  fun d a0 a1 a2 a3 a4 a5 a6 x st h => fk_w_iload 7 [a0, a1, a2, a3, a4, a5, a6, .int x] dX5_reach_62 rfl,
  fun d L st N y l i hi => fk_g_iald fk_at_24 fk_ln_24 (by decide) dX5_reach_64 hi,
  fun d L st h => fk_r_goto dX5_reach_65 (by decide),
  fun d L st h => fk_w_iconst dX5_reach_68 (by decide),
  fun d L x y st h => fk_r_ior dX5_reach_69,
  fun d a0 a1 a2 a3 a4 a5 a6 a7 x st h => fk_w_istore 6 8 [] [a0, a1, a2, a3, a4, a5, a6, a7] [a0, a1, a2, a3, a4, a5, .int x, a7] dX5_reach_70 rfl rfl (by decide) rfl,
  fun d a0 a1 a2 a3 a4 a5 a6 x st h => fk_w_iinc 7 8 (1) [] [a0, a1, a2, a3, a4, a5, a6, .int x] [a0, a1, a2, a3, a4, a5, a6, .int (x + nI 1)] dX5_reach_72 rfl rfl rfl (by decide) rfl,
  fun d L st h => fk_r_goto dX5_reach_75 (by decide),
  fun d a0 a1 a2 a3 a4 a5 a7 x st h => fk_w_iload 6 [a0, a1, a2, a3, a4, a5, .int x, a7] dX5_reach_78 rfl,
  fun d a0 a1 a2 a4 a5 a6 a7 x st h => fk_w_iloadn 3 [a0, a1, a2, .int x, a4, a5, a6, a7] dX5_reach_80 rfl,
  fun d L st h => fk_w_iconst dX5_reach_81 (by decide),
  fun d L x y st h => fk_r_ixor dX5_reach_82,
  fun d L x y st h => fk_r_iand dX5_reach_83,
  fun d a0 a1 a3 a4 a5 a6 a7 x st h => fk_w_iloadn 2 [a0, a1, .int x, a3, a4, a5, a6, a7] dX5_reach_84 rfl,
  fun d L st h => fk_w_iconst dX5_reach_85 (by decide),
  fun d L x y st h => fk_r_ixor dX5_reach_86,
  fun d L x y st h => fk_r_iand dX5_reach_87,
  fun d a0 a1 a2 a3 a4 a5 a6 a7 x st h => fk_w_istore 4 8 [] [a0, a1, a2, a3, a4, a5, a6, a7] [a0, a1, a2, a3, .int x, a5, a6, a7] dX5_reach_88 rfl rfl (by decide) rfl,
  fun d a0 a1 a2 a4 a5 a6 a7 x st h => fk_w_iloadn 3 [a0, a1, a2, .int x, a4, a5, a6, a7] dX5_reach_90 rfl,
  fun d a0 a1 a2 a3 a5 a6 a7 x st h => fk_w_iload 4 [a0, a1, a2, a3, .int x, a5, a6, a7] dX5_reach_91 rfl,
  fun d L x y st h => fk_r_ior dX5_reach_93,
  fun d a0 a1 a2 a3 a4 a5 a6 a7 x st h => fk_w_istoren 3 8 [] [a0, a1, a2, a3, a4, a5, a6, a7] [a0, a1, a2, .int x, a4, a5, a6, a7] dX5_reach_94 rfl rfl (by decide) rfl,
  fun d a0 a1 a2 a3 a4 a6 a7 x st h => fk_w_iinc 5 8 (1) [] [a0, a1, a2, a3, a4, .int x, a6, a7] [a0, a1, a2, a3, a4, .int (x + nI 1), a6, a7] dX5_reach_95 rfl rfl rfl (by decide) rfl,
  fun d L st h => fk_r_goto dX5_reach_98 (by decide),
  fun d a0 a1 a2 a4 a5 a6 a7 x st h => fk_w_iloadn 3 [a0, a1, a2, .int x, a4, a5, a6, a7] dX5_reach_101 rfl,
  fun d L x h => fk_r_ret dX5_reach_102 (Or.inl rfl)⟩
theorem hX5_reach_21 : ∀ (d : Nat) (a0 a1 a2 a3 a4 a6 a7 : Value) (x : Int32) (st : List Value) (h : fk_H), fk_ev d qX5_reach 21 [a0, a1, a2, a3, a4, .int x, a6, a7] st h = fk_ev d qX5_reach 23 [a0, a1, a2, a3, a4, .int x, a6, a7] (.int x :: st) h := fun d a0 a1 a2 a3 a4 a6 a7 x st h => fk_w_iload 5 [a0, a1, a2, a3, a4, .int x, a6, a7] dX5_reach_21 rfl
theorem hX5_reach_39 : ∀ (d : Nat) (a0 a1 a2 a3 a4 a5 a6 : Value) (x : Int32) (st : List Value) (h : fk_H), fk_ev d qX5_reach 39 [a0, a1, a2, a3, a4, a5, a6, .int x] st h = fk_ev d qX5_reach 41 [a0, a1, a2, a3, a4, a5, a6, .int x] (.int x :: st) h := fun d a0 a1 a2 a3 a4 a5 a6 x st h => fk_w_iload 7 [a0, a1, a2, a3, a4, a5, a6, .int x] dX5_reach_39 rfl
theorem dX5_groupOf_0 : decode cX5_groupOf 0 = .ok (.aload_n 0, 1) := by decide +kernel
theorem dX5_groupOf_1 : decode cX5_groupOf 1 = .ok (.iload_n 1, 1) := by decide +kernel
theorem dX5_groupOf_2 : decode cX5_groupOf 2 = .ok (.iconst 0, 1) := by decide +kernel
theorem dX5_groupOf_3 : decode cX5_groupOf 3 = .ok (.invokevirtual 57, 3) := by decide +kernel
theorem dX5_groupOf_6 : decode cX5_groupOf 6 = .ok (.istore_n 2, 1) := by decide +kernel
theorem dX5_groupOf_7 : decode cX5_groupOf 7 = .ok (.aload_n 0, 1) := by decide +kernel
theorem dX5_groupOf_8 : decode cX5_groupOf 8 = .ok (.getfield 27, 3) := by decide +kernel
theorem dX5_groupOf_11 : decode cX5_groupOf 11 = .ok (.iload_n 1, 1) := by decide +kernel
theorem dX5_groupOf_12 : decode cX5_groupOf 12 = .ok (.iaload, 1) := by decide +kernel
theorem dX5_groupOf_13 : decode cX5_groupOf 13 = .ok (.ifCond .eq 7, 3) := by decide +kernel
theorem dX5_groupOf_16 : decode cX5_groupOf 16 = .ok (.iconst 1, 1) := by decide +kernel
theorem dX5_groupOf_17 : decode cX5_groupOf 17 = .ok (.goto 4, 3) := by decide +kernel
theorem dX5_groupOf_20 : decode cX5_groupOf 20 = .ok (.iconst 0, 1) := by decide +kernel
theorem dX5_groupOf_21 : decode cX5_groupOf 21 = .ok (.istore_n 3, 1) := by decide +kernel
theorem dX5_groupOf_22 : decode cX5_groupOf 22 = .ok (.iconst 0, 1) := by decide +kernel
theorem dX5_groupOf_23 : decode cX5_groupOf 23 = .ok (.istore 4, 2) := by decide +kernel
theorem dX5_groupOf_25 : decode cX5_groupOf 25 = .ok (.iload 4, 2) := by decide +kernel
theorem dX5_groupOf_27 : decode cX5_groupOf 27 = .ok (.bipush 16, 2) := by decide +kernel
theorem dX5_groupOf_29 : decode cX5_groupOf 29 = .ok (.if_icmp .ge 58, 3) := by decide +kernel
theorem dX5_groupOf_32 : decode cX5_groupOf 32 = .ok (.iload_n 3, 1) := by decide +kernel
theorem dX5_groupOf_33 : decode cX5_groupOf 33 = .ok (.ifCond .ne 17, 3) := by decide +kernel
theorem dX5_groupOf_36 : decode cX5_groupOf 36 = .ok (.aload_n 0, 1) := by decide +kernel
theorem dX5_groupOf_37 : decode cX5_groupOf 37 = .ok (.getfield 27, 3) := by decide +kernel
theorem dX5_groupOf_40 : decode cX5_groupOf 40 = .ok (.iload 4, 2) := by decide +kernel
theorem dX5_groupOf_42 : decode cX5_groupOf 42 = .ok (.iaload, 1) := by decide +kernel
theorem dX5_groupOf_43 : decode cX5_groupOf 43 = .ok (.iload_n 1, 1) := by decide +kernel
theorem dX5_groupOf_44 : decode cX5_groupOf 44 = .ok (.ishr, 1) := by decide +kernel
theorem dX5_groupOf_45 : decode cX5_groupOf 45 = .ok (.iconst 1, 1) := by decide +kernel
theorem dX5_groupOf_46 : decode cX5_groupOf 46 = .ok (.iand, 1) := by decide +kernel
theorem dX5_groupOf_47 : decode cX5_groupOf 47 = .ok (.ifCond .eq 7, 3) := by decide +kernel
theorem dX5_groupOf_50 : decode cX5_groupOf 50 = .ok (.iconst 1, 1) := by decide +kernel
theorem dX5_groupOf_51 : decode cX5_groupOf 51 = .ok (.goto 4, 3) := by decide +kernel
theorem dX5_groupOf_54 : decode cX5_groupOf 54 = .ok (.iconst 0, 1) := by decide +kernel
theorem dX5_groupOf_55 : decode cX5_groupOf 55 = .ok (.istore_n 3, 1) := by decide +kernel
theorem dX5_groupOf_56 : decode cX5_groupOf 56 = .ok (.iload_n 2, 1) := by decide +kernel
theorem dX5_groupOf_57 : decode cX5_groupOf 57 = .ok (.iload 4, 2) := by decide +kernel
theorem dX5_groupOf_59 : decode cX5_groupOf 59 = .ok (.ishr, 1) := by decide +kernel
theorem dX5_groupOf_60 : decode cX5_groupOf 60 = .ok (.iconst 1, 1) := by decide +kernel
theorem dX5_groupOf_61 : decode cX5_groupOf 61 = .ok (.iand, 1) := by decide +kernel
theorem dX5_groupOf_62 : decode cX5_groupOf 62 = .ok (.ifCond .eq 19, 3) := by decide +kernel
theorem dX5_groupOf_65 : decode cX5_groupOf 65 = .ok (.aload_n 0, 1) := by decide +kernel
theorem dX5_groupOf_66 : decode cX5_groupOf 66 = .ok (.iload 4, 2) := by decide +kernel
theorem dX5_groupOf_68 : decode cX5_groupOf 68 = .ok (.iconst 0, 1) := by decide +kernel
theorem dX5_groupOf_69 : decode cX5_groupOf 69 = .ok (.invokevirtual 57, 3) := by decide +kernel
theorem dX5_groupOf_72 : decode cX5_groupOf 72 = .ok (.iload_n 1, 1) := by decide +kernel
theorem dX5_groupOf_73 : decode cX5_groupOf 73 = .ok (.ishr, 1) := by decide +kernel
theorem dX5_groupOf_74 : decode cX5_groupOf 74 = .ok (.iconst 1, 1) := by decide +kernel
theorem dX5_groupOf_75 : decode cX5_groupOf 75 = .ok (.iand, 1) := by decide +kernel
theorem dX5_groupOf_76 : decode cX5_groupOf 76 = .ok (.ifCond .ne 5, 3) := by decide +kernel
theorem dX5_groupOf_79 : decode cX5_groupOf 79 = .ok (.iconst 0, 1) := by decide +kernel
theorem dX5_groupOf_80 : decode cX5_groupOf 80 = .ok (.ireturn, 1) := by decide +kernel
theorem dX5_groupOf_81 : decode cX5_groupOf 81 = .ok (.iinc 4 1, 3) := by decide +kernel
theorem dX5_groupOf_84 : decode cX5_groupOf 84 = .ok (.goto (-59), 3) := by decide +kernel
theorem dX5_groupOf_87 : decode cX5_groupOf 87 = .ok (.iload_n 3, 1) := by decide +kernel
theorem dX5_groupOf_88 : decode cX5_groupOf 88 = .ok (.ifCond .eq 7, 3) := by decide +kernel
theorem dX5_groupOf_91 : decode cX5_groupOf 91 = .ok (.iload_n 2, 1) := by decide +kernel
theorem dX5_groupOf_92 : decode cX5_groupOf 92 = .ok (.goto 4, 3) := by decide +kernel
theorem dX5_groupOf_95 : decode cX5_groupOf 95 = .ok (.iconst 0, 1) := by decide +kernel
theorem dX5_groupOf_96 : decode cX5_groupOf 96 = .ok (.ireturn, 1) := by decide +kernel
theorem rX5_groupOf : (∀ (d : Nat) (a1 a2 a3 a4 : Value) (x : Nat) (st : List Value) (h : fk_H), fk_ev d qX5_groupOf 0 [.ref x, a1, a2, a3, a4] st h = fk_ev d qX5_groupOf 1 [.ref x, a1, a2, a3, a4] (.ref x :: st) h) ∧
  (∀ (d : Nat) (a0 a2 a3 a4 : Value) (x : Int32) (st : List Value) (h : fk_H), fk_ev d qX5_groupOf 1 [a0, .int x, a2, a3, a4] st h = fk_ev d qX5_groupOf 2 [a0, .int x, a2, a3, a4] (.int x :: st) h) ∧
  (∀ (d : Nat) (L st : List Value) (h : fk_H), fk_ev d qX5_groupOf 2 L st h = fk_ev d qX5_groupOf 3 L (.int (nI 0) :: st) h) ∧
  (∀ (d : Nat) (L : List Value) (x0 : Int32) (x1 : Int32)  (N : Nat) (y : Nat → Nat → Int32) (l : Nat → Nat → Int64), fk_ev (d + 1) qX5_groupOf 3 L (.int x1 :: .int x0 :: .ref 18 :: []) (fk_E N y l) = (fk_ev d qX5_reach 0 [.ref 18, .int x0, .int x1, .null, .null, .null, .null, .null] [] (fk_E N y l)).bind fun o => fk_ev (d + 1) qX5_groupOf 6 L (o.1.toList ++ []) o.2) ∧
  (∀ (d : Nat) (a0 a1 a2 a3 a4 : Value) (x : Int32) (st : List Value) (h : fk_H), fk_ev d qX5_groupOf 6 [a0, a1, a2, a3, a4] (.int x :: st) h = fk_ev d qX5_groupOf 7 [a0, a1, .int x, a3, a4] st h) ∧
  (∀ (d : Nat) (a1 a2 a3 a4 : Value) (x : Nat) (st : List Value) (h : fk_H), fk_ev d qX5_groupOf 7 [.ref x, a1, a2, a3, a4] st h = fk_ev d qX5_groupOf 8 [.ref x, a1, a2, a3, a4] (.ref x :: st) h) ∧
  (∀ (d : Nat) (L st : List Value) (N : Nat) (y : Nat → Nat → Int32) (l : Nat → Nat → Int64), fk_ev d qX5_groupOf 8 L (.ref 18 :: st) (fk_E N y l) = fk_ev d qX5_groupOf 11 L (.ref 24 :: st) (fk_E N y l)) ∧
  (∀ (d : Nat) (a0 a2 a3 a4 : Value) (x : Int32) (st : List Value) (h : fk_H), fk_ev d qX5_groupOf 11 [a0, .int x, a2, a3, a4] st h = fk_ev d qX5_groupOf 12 [a0, .int x, a2, a3, a4] (.int x :: st) h) ∧
  (∀ (d : Nat) (L st : List Value) (N : Nat) (y : Nat → Nat → Int32) (l : Nat → Nat → Int64) (i : Nat), i < 16 → fk_ev d qX5_groupOf 12 L (.int (nI i) :: .ref 24 :: st) (fk_E N y l) = fk_ev d qX5_groupOf 13 L (.int (y 24 i) :: st) (fk_E N y l)) ∧
  (∀ (d : Nat) (L : List Value) (x : Int32) (st : List Value) (h : fk_H), fk_ev d qX5_groupOf 13 L (.int x :: st) h = if x = nI 0 then fk_ev d qX5_groupOf 20 L st h else fk_ev d qX5_groupOf 16 L st h) ∧
  (∀ (d : Nat) (L st : List Value) (h : fk_H), fk_ev d qX5_groupOf 16 L st h = fk_ev d qX5_groupOf 17 L (.int (nI 1) :: st) h) ∧
  (∀ (d : Nat) (L st : List Value) (h : fk_H), fk_ev d qX5_groupOf 17 L st h = fk_ev d qX5_groupOf 21 L st h) ∧
  (∀ (d : Nat) (L st : List Value) (h : fk_H), fk_ev d qX5_groupOf 20 L st h = fk_ev d qX5_groupOf 21 L (.int (nI 0) :: st) h) ∧
  (∀ (d : Nat) (a0 a1 a2 a3 a4 : Value) (x : Int32) (st : List Value) (h : fk_H), fk_ev d qX5_groupOf 21 [a0, a1, a2, a3, a4] (.int x :: st) h = fk_ev d qX5_groupOf 22 [a0, a1, a2, .int x, a4] st h) ∧
  (∀ (d : Nat) (L st : List Value) (h : fk_H), fk_ev d qX5_groupOf 22 L st h = fk_ev d qX5_groupOf 23 L (.int (nI 0) :: st) h) ∧
  (∀ (d : Nat) (a0 a1 a2 a3 a4 : Value) (x : Int32) (st : List Value) (h : fk_H), fk_ev d qX5_groupOf 23 [a0, a1, a2, a3, a4] (.int x :: st) h = fk_ev d qX5_groupOf 25 [a0, a1, a2, a3, .int x] st h) ∧
  (∀ (d : Nat) (L st : List Value) (h : fk_H), fk_ev d qX5_groupOf 27 L st h = fk_ev d qX5_groupOf 29 L (.int (nI 16) :: st) h) ∧
  (∀ (d : Nat) (L : List Value) (x y : Int32) (st : List Value) (h : fk_H), fk_ev d qX5_groupOf 29 L (.int y :: .int x :: st) h = if y ≤ x then fk_ev d qX5_groupOf 87 L st h else fk_ev d qX5_groupOf 32 L st h) ∧
  (∀ (d : Nat) (a0 a1 a2 a4 : Value) (x : Int32) (st : List Value) (h : fk_H), fk_ev d qX5_groupOf 32 [a0, a1, a2, .int x, a4] st h = fk_ev d qX5_groupOf 33 [a0, a1, a2, .int x, a4] (.int x :: st) h) ∧
  (∀ (d : Nat) (L : List Value) (x : Int32) (st : List Value) (h : fk_H), fk_ev d qX5_groupOf 33 L (.int x :: st) h = if ¬ x = nI 0 then fk_ev d qX5_groupOf 50 L st h else fk_ev d qX5_groupOf 36 L st h) ∧
  (∀ (d : Nat) (a1 a2 a3 a4 : Value) (x : Nat) (st : List Value) (h : fk_H), fk_ev d qX5_groupOf 36 [.ref x, a1, a2, a3, a4] st h = fk_ev d qX5_groupOf 37 [.ref x, a1, a2, a3, a4] (.ref x :: st) h) ∧
  (∀ (d : Nat) (L st : List Value) (N : Nat) (y : Nat → Nat → Int32) (l : Nat → Nat → Int64), fk_ev d qX5_groupOf 37 L (.ref 18 :: st) (fk_E N y l) = fk_ev d qX5_groupOf 40 L (.ref 24 :: st) (fk_E N y l)) ∧
  (∀ (d : Nat) (a0 a1 a2 a3 : Value) (x : Int32) (st : List Value) (h : fk_H), fk_ev d qX5_groupOf 40 [a0, a1, a2, a3, .int x] st h = fk_ev d qX5_groupOf 42 [a0, a1, a2, a3, .int x] (.int x :: st) h) ∧
  (∀ (d : Nat) (L st : List Value) (N : Nat) (y : Nat → Nat → Int32) (l : Nat → Nat → Int64) (i : Nat), i < 16 → fk_ev d qX5_groupOf 42 L (.int (nI i) :: .ref 24 :: st) (fk_E N y l) = fk_ev d qX5_groupOf 43 L (.int (y 24 i) :: st) (fk_E N y l)) ∧
  (∀ (d : Nat) (a0 a2 a3 a4 : Value) (x : Int32) (st : List Value) (h : fk_H), fk_ev d qX5_groupOf 43 [a0, .int x, a2, a3, a4] st h = fk_ev d qX5_groupOf 44 [a0, .int x, a2, a3, a4] (.int x :: st) h) ∧
  (∀ (d : Nat) (L : List Value) (x y : Int32) (st : List Value) (h : fk_H), fk_ev d qX5_groupOf 44 L (.int y :: .int x :: st) h = fk_ev d qX5_groupOf 45 L (.int (x >>> (y &&& 31)) :: st) h) ∧
  (∀ (d : Nat) (L st : List Value) (h : fk_H), fk_ev d qX5_groupOf 45 L st h = fk_ev d qX5_groupOf 46 L (.int (nI 1) :: st) h) ∧
  (∀ (d : Nat) (L : List Value) (x y : Int32) (st : List Value) (h : fk_H), fk_ev d qX5_groupOf 46 L (.int y :: .int x :: st) h = fk_ev d qX5_groupOf 47 L (.int (x &&& y) :: st) h) ∧
  (∀ (d : Nat) (L : List Value) (x : Int32) (st : List Value) (h : fk_H), fk_ev d qX5_groupOf 47 L (.int x :: st) h = if x = nI 0 then fk_ev d qX5_groupOf 54 L st h else fk_ev d qX5_groupOf 50 L st h) ∧
  (∀ (d : Nat) (L st : List Value) (h : fk_H), fk_ev d qX5_groupOf 50 L st h = fk_ev d qX5_groupOf 51 L (.int (nI 1) :: st) h) ∧
  (∀ (d : Nat) (L st : List Value) (h : fk_H), fk_ev d qX5_groupOf 51 L st h = fk_ev d qX5_groupOf 55 L st h) ∧
  (∀ (d : Nat) (L st : List Value) (h : fk_H), fk_ev d qX5_groupOf 54 L st h = fk_ev d qX5_groupOf 55 L (.int (nI 0) :: st) h) ∧
  (∀ (d : Nat) (a0 a1 a2 a3 a4 : Value) (x : Int32) (st : List Value) (h : fk_H), fk_ev d qX5_groupOf 55 [a0, a1, a2, a3, a4] (.int x :: st) h = fk_ev d qX5_groupOf 56 [a0, a1, a2, .int x, a4] st h) ∧
  (∀ (d : Nat) (a0 a1 a3 a4 : Value) (x : Int32) (st : List Value) (h : fk_H), fk_ev d qX5_groupOf 56 [a0, a1, .int x, a3, a4] st h = fk_ev d qX5_groupOf 57 [a0, a1, .int x, a3, a4] (.int x :: st) h) ∧
  (∀ (d : Nat) (a0 a1 a2 a3 : Value) (x : Int32) (st : List Value) (h : fk_H), fk_ev d qX5_groupOf 57 [a0, a1, a2, a3, .int x] st h = fk_ev d qX5_groupOf 59 [a0, a1, a2, a3, .int x] (.int x :: st) h) ∧
  (∀ (d : Nat) (L : List Value) (x y : Int32) (st : List Value) (h : fk_H), fk_ev d qX5_groupOf 59 L (.int y :: .int x :: st) h = fk_ev d qX5_groupOf 60 L (.int (x >>> (y &&& 31)) :: st) h) ∧
  (∀ (d : Nat) (L st : List Value) (h : fk_H), fk_ev d qX5_groupOf 60 L st h = fk_ev d qX5_groupOf 61 L (.int (nI 1) :: st) h) ∧
  (∀ (d : Nat) (L : List Value) (x y : Int32) (st : List Value) (h : fk_H), fk_ev d qX5_groupOf 61 L (.int y :: .int x :: st) h = fk_ev d qX5_groupOf 62 L (.int (x &&& y) :: st) h) ∧
  (∀ (d : Nat) (L : List Value) (x : Int32) (st : List Value) (h : fk_H), fk_ev d qX5_groupOf 62 L (.int x :: st) h = if x = nI 0 then fk_ev d qX5_groupOf 81 L st h else fk_ev d qX5_groupOf 65 L st h) ∧
  (∀ (d : Nat) (a1 a2 a3 a4 : Value) (x : Nat) (st : List Value) (h : fk_H), fk_ev d qX5_groupOf 65 [.ref x, a1, a2, a3, a4] st h = fk_ev d qX5_groupOf 66 [.ref x, a1, a2, a3, a4] (.ref x :: st) h) ∧
  (∀ (d : Nat) (a0 a1 a2 a3 : Value) (x : Int32) (st : List Value) (h : fk_H), fk_ev d qX5_groupOf 66 [a0, a1, a2, a3, .int x] st h = fk_ev d qX5_groupOf 68 [a0, a1, a2, a3, .int x] (.int x :: st) h) ∧
  (∀ (d : Nat) (L st : List Value) (h : fk_H), fk_ev d qX5_groupOf 68 L st h = fk_ev d qX5_groupOf 69 L (.int (nI 0) :: st) h) ∧
  (∀ (d : Nat) (L : List Value) (x0 : Int32) (x1 : Int32)  (N : Nat) (y : Nat → Nat → Int32) (l : Nat → Nat → Int64), fk_ev (d + 1) qX5_groupOf 69 L (.int x1 :: .int x0 :: .ref 18 :: []) (fk_E N y l) = (fk_ev d qX5_reach 0 [.ref 18, .int x0, .int x1, .null, .null, .null, .null, .null] [] (fk_E N y l)).bind fun o => fk_ev (d + 1) qX5_groupOf 72 L (o.1.toList ++ []) o.2) ∧
  (∀ (d : Nat) (a0 a2 a3 a4 : Value) (x : Int32) (st : List Value) (h : fk_H), fk_ev d qX5_groupOf 72 [a0, .int x, a2, a3, a4] st h = fk_ev d qX5_groupOf 73 [a0, .int x, a2, a3, a4] (.int x :: st) h) ∧
  (∀ (d : Nat) (L : List Value) (x y : Int32) (st : List Value) (h : fk_H), fk_ev d qX5_groupOf 73 L (.int y :: .int x :: st) h = fk_ev d qX5_groupOf 74 L (.int (x >>> (y &&& 31)) :: st) h) ∧
  (∀ (d : Nat) (L st : List Value) (h : fk_H), fk_ev d qX5_groupOf 74 L st h = fk_ev d qX5_groupOf 75 L (.int (nI 1) :: st) h) ∧
  (∀ (d : Nat) (L : List Value) (x y : Int32) (st : List Value) (h : fk_H), fk_ev d qX5_groupOf 75 L (.int y :: .int x :: st) h = fk_ev d qX5_groupOf 76 L (.int (x &&& y) :: st) h) ∧
  (∀ (d : Nat) (L : List Value) (x : Int32) (st : List Value) (h : fk_H), fk_ev d qX5_groupOf 76 L (.int x :: st) h = if ¬ x = nI 0 then fk_ev d qX5_groupOf 81 L st h else fk_ev d qX5_groupOf 79 L st h) ∧
  (∀ (d : Nat) (L st : List Value) (h : fk_H), fk_ev d qX5_groupOf 79 L st h = fk_ev d qX5_groupOf 80 L (.int (nI 0) :: st) h) ∧
  (∀ (d : Nat) (L : List Value) (x : Int32) (h : fk_H), fk_ev d qX5_groupOf 80 L [.int x] h = some (some (.int x), h)) ∧
  (∀ (d : Nat) (a0 a1 a2 a3 : Value) (x : Int32) (st : List Value) (h : fk_H), fk_ev d qX5_groupOf 81 [a0, a1, a2, a3, .int x] st h = fk_ev d qX5_groupOf 84 [a0, a1, a2, a3, .int (x + nI 1)] st h) ∧
  (∀ (d : Nat) (L st : List Value) (h : fk_H), fk_ev d qX5_groupOf 84 L st h = fk_ev d qX5_groupOf 25 L st h) ∧
  (∀ (d : Nat) (a0 a1 a2 a4 : Value) (x : Int32) (st : List Value) (h : fk_H), fk_ev d qX5_groupOf 87 [a0, a1, a2, .int x, a4] st h = fk_ev d qX5_groupOf 88 [a0, a1, a2, .int x, a4] (.int x :: st) h) ∧
  (∀ (d : Nat) (L : List Value) (x : Int32) (st : List Value) (h : fk_H), fk_ev d qX5_groupOf 88 L (.int x :: st) h = if x = nI 0 then fk_ev d qX5_groupOf 95 L st h else fk_ev d qX5_groupOf 91 L st h) ∧
  (∀ (d : Nat) (a0 a1 a3 a4 : Value) (x : Int32) (st : List Value) (h : fk_H), fk_ev d qX5_groupOf 91 [a0, a1, .int x, a3, a4] st h = fk_ev d qX5_groupOf 92 [a0, a1, .int x, a3, a4] (.int x :: st) h) ∧
  (∀ (d : Nat) (L st : List Value) (h : fk_H), fk_ev d qX5_groupOf 92 L st h = fk_ev d qX5_groupOf 96 L st h) ∧
  (∀ (d : Nat) (L st : List Value) (h : fk_H), fk_ev d qX5_groupOf 95 L st h = fk_ev d qX5_groupOf 96 L (.int (nI 0) :: st) h) ∧
  (∀ (d : Nat) (L : List Value) (x : Int32) (h : fk_H), fk_ev d qX5_groupOf 96 L [.int x] h = some (some (.int x), h)) := ⟨fun d a1 a2 a3 a4 x st h => fk_w_aloadn 0 [.ref x, a1, a2, a3, a4] dX5_groupOf_0 rfl,
  fun d a0 a2 a3 a4 x st h => fk_w_iloadn 1 [a0, .int x, a2, a3, a4] dX5_groupOf_1 rfl,
  fun d L st h => fk_w_iconst dX5_groupOf_2 (by decide),
  fun d L x0 x1 N y l  => fk_g_call [.int x0, .int x1] [] rfl lm_5_57 dX5_groupOf_3 rfl ⟨rfl, by decide⟩ (by simp) fk_at_18,
  fun d a0 a1 a2 a3 a4 x st h => fk_w_istoren 2 5 [] [a0, a1, a2, a3, a4] [a0, a1, .int x, a3, a4] dX5_groupOf_6 rfl rfl (by decide) rfl,
  fun d a1 a2 a3 a4 x st h => fk_w_aloadn 0 [.ref x, a1, a2, a3, a4] dX5_groupOf_7 rfl,
  fun d L st N y l => fk_g_getC rfl lf_5_27 (by decide) rfl dX5_groupOf_8 fk_at_18,
  fun d a0 a2 a3 a4 x st h => fk_w_iloadn 1 [a0, .int x, a2, a3, a4] dX5_groupOf_11 rfl,
  fun d L st N y l i hi => fk_g_iald fk_at_24 fk_ln_24 (by decide) dX5_groupOf_12 hi,
  fun d L x st h => fk_r_if_eq dX5_groupOf_13 (by decide),
  fun d L st h => fk_w_iconst dX5_groupOf_16 (by decide),
  fun d L st h => fk_r_goto dX5_groupOf_17 (by decide),
  fun d L st h => fk_w_iconst dX5_groupOf_20 (by decide),
  fun d a0 a1 a2 a3 a4 x st h => fk_w_istoren 3 5 [] [a0, a1, a2, a3, a4] [a0, a1, a2, .int x, a4] dX5_groupOf_21 rfl rfl (by decide) rfl,
  fun d L st h => fk_w_iconst dX5_groupOf_22 (by decide),
  fun d a0 a1 a2 a3 a4 x st h => fk_w_istore 4 5 [] [a0, a1, a2, a3, a4] [a0, a1, a2, a3, .int x] dX5_groupOf_23 rfl rfl (by decide) rfl,
  fun d L st h => fk_w_bipush dX5_groupOf_27 (by decide),
  fun d L x y st h => fk_r_icmp_ge dX5_groupOf_29 (by decide),
  fun d a0 a1 a2 a4 x st h => fk_w_iloadn 3 [a0, a1, a2, .int x, a4] dX5_groupOf_32 rfl,
  fun d L x st h => fk_r_if_ne dX5_groupOf_33 (by decide),
  fun d a1 a2 a3 a4 x st h => fk_w_aloadn 0 [.ref x, a1, a2, a3, a4] dX5_groupOf_36 rfl,
  fun d L st N y l => fk_g_getC rfl lf_5_27 (by decide) rfl dX5_groupOf_37 fk_at_18,
  fun d a0 a1 a2 a3 x st h => fk_w_iload 4 [a0, a1, a2, a3, .int x] dX5_groupOf_40 rfl,
  fun d L st N y l i hi => fk_g_iald fk_at_24 fk_ln_24 (by decide) dX5_groupOf_42 hi,
  fun d a0 a2 a3 a4 x st h => fk_w_iloadn 1 [a0, .int x, a2, a3, a4] dX5_groupOf_43 rfl,
  fun d L x y st h => fk_r_ishr dX5_groupOf_44,
  fun d L st h => fk_w_iconst dX5_groupOf_45 (by decide),
  fun d L x y st h => fk_r_iand dX5_groupOf_46,
  fun d L x st h => fk_r_if_eq dX5_groupOf_47 (by decide),
  fun d L st h => fk_w_iconst dX5_groupOf_50 (by decide),
  fun d L st h => fk_r_goto dX5_groupOf_51 (by decide),
  fun d L st h => fk_w_iconst dX5_groupOf_54 (by decide),
  fun d a0 a1 a2 a3 a4 x st h => fk_w_istoren 3 5 [] [a0, a1, a2, a3, a4] [a0, a1, a2, .int x, a4] dX5_groupOf_55 rfl rfl (by decide) rfl,
  fun d a0 a1 a3 a4 x st h => fk_w_iloadn 2 [a0, a1, .int x, a3, a4] dX5_groupOf_56 rfl,
  fun d a0 a1 a2 a3 x st h => fk_w_iload 4 [a0, a1, a2, a3, .int x] dX5_groupOf_57 rfl,
  fun d L x y st h => fk_r_ishr dX5_groupOf_59,
  fun d L st h => fk_w_iconst dX5_groupOf_60 (by decide),
  fun d L x y st h => fk_r_iand dX5_groupOf_61,
  fun d L x st h => fk_r_if_eq dX5_groupOf_62 (by decide),
  fun d a1 a2 a3 a4 x st h => fk_w_aloadn 0 [.ref x, a1, a2, a3, a4] dX5_groupOf_65 rfl,
  fun d a0 a1 a2 a3 x st h => fk_w_iload 4 [a0, a1, a2, a3, .int x] dX5_groupOf_66 rfl,
  fun d L st h => fk_w_iconst dX5_groupOf_68 (by decide),
  fun d L x0 x1 N y l  => fk_g_call [.int x0, .int x1] [] rfl lm_5_57 dX5_groupOf_69 rfl ⟨rfl, by decide⟩ (by simp) fk_at_18,
  fun d a0 a2 a3 a4 x st h => fk_w_iloadn 1 [a0, .int x, a2, a3, a4] dX5_groupOf_72 rfl,
  fun d L x y st h => fk_r_ishr dX5_groupOf_73,
  fun d L st h => fk_w_iconst dX5_groupOf_74 (by decide),
  fun d L x y st h => fk_r_iand dX5_groupOf_75,
  fun d L x st h => fk_r_if_ne dX5_groupOf_76 (by decide),
  fun d L st h => fk_w_iconst dX5_groupOf_79 (by decide),
  fun d L x h => fk_r_ret dX5_groupOf_80 (Or.inl rfl),
  fun d a0 a1 a2 a3 x st h => fk_w_iinc 4 5 (1) [] [a0, a1, a2, a3, .int x] [a0, a1, a2, a3, .int (x + nI 1)] dX5_groupOf_81 rfl rfl rfl (by decide) rfl,
  fun d L st h => fk_r_goto dX5_groupOf_84 (by decide),
  fun d a0 a1 a2 a4 x st h => fk_w_iloadn 3 [a0, a1, a2, .int x, a4] dX5_groupOf_87 rfl,
  fun d L x st h => fk_r_if_eq dX5_groupOf_88 (by decide),
  fun d a0 a1 a3 a4 x st h => fk_w_iloadn 2 [a0, a1, .int x, a3, a4] dX5_groupOf_91 rfl,
  fun d L st h => fk_r_goto dX5_groupOf_92 (by decide),
  fun d L st h => fk_w_iconst dX5_groupOf_95 (by decide),
  fun d L x h => fk_r_ret dX5_groupOf_96 (Or.inl rfl)⟩
theorem hX5_groupOf_25 : ∀ (d : Nat) (a0 a1 a2 a3 : Value) (x : Int32) (st : List Value) (h : fk_H), fk_ev d qX5_groupOf 25 [a0, a1, a2, a3, .int x] st h = fk_ev d qX5_groupOf 27 [a0, a1, a2, a3, .int x] (.int x :: st) h := fun d a0 a1 a2 a3 x st h => fk_w_iload 4 [a0, a1, a2, a3, .int x] dX5_groupOf_25 rfl
theorem dX5_fewestClosed_0 : decode cX5_fewestClosed 0 = .ok (.aload_n 0, 1) := by decide +kernel
theorem dX5_fewestClosed_1 : decode cX5_fewestClosed 1 = .ok (.getfield 27, 3) := by decide +kernel
theorem dX5_fewestClosed_4 : decode cX5_fewestClosed 4 = .ok (.iload_n 1, 1) := by decide +kernel
theorem dX5_fewestClosed_5 : decode cX5_fewestClosed 5 = .ok (.iaload, 1) := by decide +kernel
theorem dX5_fewestClosed_6 : decode cX5_fewestClosed 6 = .ok (.iload_n 2, 1) := by decide +kernel
theorem dX5_fewestClosed_7 : decode cX5_fewestClosed 7 = .ok (.ishr, 1) := by decide +kernel
theorem dX5_fewestClosed_8 : decode cX5_fewestClosed 8 = .ok (.iconst 1, 1) := by decide +kernel
theorem dX5_fewestClosed_9 : decode cX5_fewestClosed 9 = .ok (.iand, 1) := by decide +kernel
theorem dX5_fewestClosed_10 : decode cX5_fewestClosed 10 = .ok (.ifCond .eq 5, 3) := by decide +kernel
theorem dX5_fewestClosed_13 : decode cX5_fewestClosed 13 = .ok (.iconst (-1), 1) := by decide +kernel
theorem dX5_fewestClosed_14 : decode cX5_fewestClosed 14 = .ok (.ireturn, 1) := by decide +kernel
theorem dX5_fewestClosed_15 : decode cX5_fewestClosed 15 = .ok (.aload_n 0, 1) := by decide +kernel
theorem dX5_fewestClosed_16 : decode cX5_fewestClosed 16 = .ok (.iload_n 1, 1) := by decide +kernel
theorem dX5_fewestClosed_17 : decode cX5_fewestClosed 17 = .ok (.iload_n 2, 1) := by decide +kernel
theorem dX5_fewestClosed_18 : decode cX5_fewestClosed 18 = .ok (.invokevirtual 61, 3) := by decide +kernel
theorem dX5_fewestClosed_21 : decode cX5_fewestClosed 21 = .ok (.istore_n 3, 1) := by decide +kernel
theorem dX5_fewestClosed_22 : decode cX5_fewestClosed 22 = .ok (.iload_n 3, 1) := by decide +kernel
theorem dX5_fewestClosed_23 : decode cX5_fewestClosed 23 = .ok (.istore 4, 2) := by decide +kernel
theorem dX5_fewestClosed_25 : decode cX5_fewestClosed 25 = .ok (.iconst 0, 1) := by decide +kernel
theorem dX5_fewestClosed_26 : decode cX5_fewestClosed 26 = .ok (.istore 5, 2) := by decide +kernel
theorem dX5_fewestClosed_28 : decode cX5_fewestClosed 28 = .ok (.iconst 0, 1) := by decide +kernel
theorem dX5_fewestClosed_29 : decode cX5_fewestClosed 29 = .ok (.istore 6, 2) := by decide +kernel
theorem dX5_fewestClosed_31 : decode cX5_fewestClosed 31 = .ok (.iload 6, 2) := by decide +kernel
theorem dX5_fewestClosed_33 : decode cX5_fewestClosed 33 = .ok (.ldc 64, 2) := by decide +kernel
theorem dX5_fewestClosed_35 : decode cX5_fewestClosed 35 = .ok (.if_icmp .gt 73, 3) := by decide +kernel
theorem dX5_fewestClosed_38 : decode cX5_fewestClosed 38 = .ok (.iload 6, 2) := by decide +kernel
theorem dX5_fewestClosed_40 : decode cX5_fewestClosed 40 = .ok (.ifCond .eq 16, 3) := by decide +kernel
theorem dX5_fewestClosed_43 : decode cX5_fewestClosed 43 = .ok (.iload 5, 2) := by decide +kernel
theorem dX5_fewestClosed_45 : decode cX5_fewestClosed 45 = .ok (.invokestatic 65, 3) := by decide +kernel
theorem dX5_fewestClosed_48 : decode cX5_fewestClosed 48 = .ok (.iload 4, 2) := by decide +kernel
theorem dX5_fewestClosed_50 : decode cX5_fewestClosed 50 = .ok (.invokestatic 65, 3) := by decide +kernel
theorem dX5_fewestClosed_53 : decode cX5_fewestClosed 53 = .ok (.if_icmp .ge 7, 3) := by decide +kernel
theorem dX5_fewestClosed_56 : decode cX5_fewestClosed 56 = .ok (.iconst 1, 1) := by decide +kernel
theorem dX5_fewestClosed_57 : decode cX5_fewestClosed 57 = .ok (.goto 4, 3) := by decide +kernel
theorem dX5_fewestClosed_60 : decode cX5_fewestClosed 60 = .ok (.iconst 0, 1) := by decide +kernel
theorem dX5_fewestClosed_61 : decode cX5_fewestClosed 61 = .ok (.istore 7, 2) := by decide +kernel
theorem dX5_fewestClosed_63 : decode cX5_fewestClosed 63 = .ok (.iload 7, 2) := by decide +kernel
theorem dX5_fewestClosed_65 : decode cX5_fewestClosed 65 = .ok (.ifCond .eq 21, 3) := by decide +kernel
theorem dX5_fewestClosed_68 : decode cX5_fewestClosed 68 = .ok (.aload_n 0, 1) := by decide +kernel
theorem dX5_fewestClosed_69 : decode cX5_fewestClosed 69 = .ok (.iload_n 1, 1) := by decide +kernel
theorem dX5_fewestClosed_70 : decode cX5_fewestClosed 70 = .ok (.iload 5, 2) := by decide +kernel
theorem dX5_fewestClosed_72 : decode cX5_fewestClosed 72 = .ok (.invokevirtual 57, 3) := by decide +kernel
theorem dX5_fewestClosed_75 : decode cX5_fewestClosed 75 = .ok (.iload_n 2, 1) := by decide +kernel
theorem dX5_fewestClosed_76 : decode cX5_fewestClosed 76 = .ok (.ishr, 1) := by decide +kernel
theorem dX5_fewestClosed_77 : decode cX5_fewestClosed 77 = .ok (.iconst 1, 1) := by decide +kernel
theorem dX5_fewestClosed_78 : decode cX5_fewestClosed 78 = .ok (.iand, 1) := by decide +kernel
theorem dX5_fewestClosed_79 : decode cX5_fewestClosed 79 = .ok (.ifCond .ne 7, 3) := by decide +kernel
theorem dX5_fewestClosed_82 : decode cX5_fewestClosed 82 = .ok (.iload 5, 2) := by decide +kernel
theorem dX5_fewestClosed_84 : decode cX5_fewestClosed 84 = .ok (.istore 4, 2) := by decide +kernel
theorem dX5_fewestClosed_86 : decode cX5_fewestClosed 86 = .ok (.iload 5, 2) := by decide +kernel
theorem dX5_fewestClosed_88 : decode cX5_fewestClosed 88 = .ok (.iload_n 3, 1) := by decide +kernel
theorem dX5_fewestClosed_89 : decode cX5_fewestClosed 89 = .ok (.isub, 1) := by decide +kernel
theorem dX5_fewestClosed_90 : decode cX5_fewestClosed 90 = .ok (.iload_n 3, 1) := by decide +kernel
theorem dX5_fewestClosed_91 : decode cX5_fewestClosed 91 = .ok (.iand, 1) := by decide +kernel
theorem dX5_fewestClosed_92 : decode cX5_fewestClosed 92 = .ok (.istore 5, 2) := by decide +kernel
theorem dX5_fewestClosed_94 : decode cX5_fewestClosed 94 = .ok (.iload 5, 2) := by decide +kernel
theorem dX5_fewestClosed_96 : decode cX5_fewestClosed 96 = .ok (.ifCond .ne 6, 3) := by decide +kernel
theorem dX5_fewestClosed_99 : decode cX5_fewestClosed 99 = .ok (.goto 9, 3) := by decide +kernel
theorem dX5_fewestClosed_102 : decode cX5_fewestClosed 102 = .ok (.iinc 6 1, 3) := by decide +kernel
theorem dX5_fewestClosed_105 : decode cX5_fewestClosed 105 = .ok (.goto (-74), 3) := by decide +kernel
theorem dX5_fewestClosed_108 : decode cX5_fewestClosed 108 = .ok (.iload 4, 2) := by decide +kernel
theorem dX5_fewestClosed_110 : decode cX5_fewestClosed 110 = .ok (.ireturn, 1) := by decide +kernel
theorem rX5_fewestClosed : (∀ (d : Nat) (a1 a2 a3 a4 a5 a6 a7 : Value) (x : Nat) (st : List Value) (h : fk_H), fk_ev d qX5_fewestClosed 0 [.ref x, a1, a2, a3, a4, a5, a6, a7] st h = fk_ev d qX5_fewestClosed 1 [.ref x, a1, a2, a3, a4, a5, a6, a7] (.ref x :: st) h) ∧
  (∀ (d : Nat) (L st : List Value) (N : Nat) (y : Nat → Nat → Int32) (l : Nat → Nat → Int64), fk_ev d qX5_fewestClosed 1 L (.ref 18 :: st) (fk_E N y l) = fk_ev d qX5_fewestClosed 4 L (.ref 24 :: st) (fk_E N y l)) ∧
  (∀ (d : Nat) (a0 a2 a3 a4 a5 a6 a7 : Value) (x : Int32) (st : List Value) (h : fk_H), fk_ev d qX5_fewestClosed 4 [a0, .int x, a2, a3, a4, a5, a6, a7] st h = fk_ev d qX5_fewestClosed 5 [a0, .int x, a2, a3, a4, a5, a6, a7] (.int x :: st) h) ∧
  (∀ (d : Nat) (L st : List Value) (N : Nat) (y : Nat → Nat → Int32) (l : Nat → Nat → Int64) (i : Nat), i < 16 → fk_ev d qX5_fewestClosed 5 L (.int (nI i) :: .ref 24 :: st) (fk_E N y l) = fk_ev d qX5_fewestClosed 6 L (.int (y 24 i) :: st) (fk_E N y l)) ∧
  (∀ (d : Nat) (a0 a1 a3 a4 a5 a6 a7 : Value) (x : Int32) (st : List Value) (h : fk_H), fk_ev d qX5_fewestClosed 6 [a0, a1, .int x, a3, a4, a5, a6, a7] st h = fk_ev d qX5_fewestClosed 7 [a0, a1, .int x, a3, a4, a5, a6, a7] (.int x :: st) h) ∧
  (∀ (d : Nat) (L : List Value) (x y : Int32) (st : List Value) (h : fk_H), fk_ev d qX5_fewestClosed 7 L (.int y :: .int x :: st) h = fk_ev d qX5_fewestClosed 8 L (.int (x >>> (y &&& 31)) :: st) h) ∧
  (∀ (d : Nat) (L st : List Value) (h : fk_H), fk_ev d qX5_fewestClosed 8 L st h = fk_ev d qX5_fewestClosed 9 L (.int (nI 1) :: st) h) ∧
  (∀ (d : Nat) (L : List Value) (x y : Int32) (st : List Value) (h : fk_H), fk_ev d qX5_fewestClosed 9 L (.int y :: .int x :: st) h = fk_ev d qX5_fewestClosed 10 L (.int (x &&& y) :: st) h) ∧
  (∀ (d : Nat) (L : List Value) (x : Int32) (st : List Value) (h : fk_H), fk_ev d qX5_fewestClosed 10 L (.int x :: st) h = if x = nI 0 then fk_ev d qX5_fewestClosed 15 L st h else fk_ev d qX5_fewestClosed 13 L st h) ∧
  (∀ (d : Nat) (L st : List Value) (h : fk_H), fk_ev d qX5_fewestClosed 13 L st h = fk_ev d qX5_fewestClosed 14 L (.int ((-1 : Int32)) :: st) h) ∧
  (∀ (d : Nat) (L : List Value) (x : Int32) (h : fk_H), fk_ev d qX5_fewestClosed 14 L [.int x] h = some (some (.int x), h)) ∧
  (∀ (d : Nat) (a1 a2 a3 a4 a5 a6 a7 : Value) (x : Nat) (st : List Value) (h : fk_H), fk_ev d qX5_fewestClosed 15 [.ref x, a1, a2, a3, a4, a5, a6, a7] st h = fk_ev d qX5_fewestClosed 16 [.ref x, a1, a2, a3, a4, a5, a6, a7] (.ref x :: st) h) ∧
  (∀ (d : Nat) (a0 a2 a3 a4 a5 a6 a7 : Value) (x : Int32) (st : List Value) (h : fk_H), fk_ev d qX5_fewestClosed 16 [a0, .int x, a2, a3, a4, a5, a6, a7] st h = fk_ev d qX5_fewestClosed 17 [a0, .int x, a2, a3, a4, a5, a6, a7] (.int x :: st) h) ∧
  (∀ (d : Nat) (a0 a1 a3 a4 a5 a6 a7 : Value) (x : Int32) (st : List Value) (h : fk_H), fk_ev d qX5_fewestClosed 17 [a0, a1, .int x, a3, a4, a5, a6, a7] st h = fk_ev d qX5_fewestClosed 18 [a0, a1, .int x, a3, a4, a5, a6, a7] (.int x :: st) h) ∧
  (∀ (d : Nat) (L : List Value) (x0 : Int32) (x1 : Int32)  (N : Nat) (y : Nat → Nat → Int32) (l : Nat → Nat → Int64), fk_ev (d + 1) qX5_fewestClosed 18 L (.int x1 :: .int x0 :: .ref 18 :: []) (fk_E N y l) = (fk_ev d qX5_onTheWay 0 [.ref 18, .int x0, .int x1, .null, .null, .null, .null] [] (fk_E N y l)).bind fun o => fk_ev (d + 1) qX5_fewestClosed 21 L (o.1.toList ++ []) o.2) ∧
  (∀ (d : Nat) (a0 a1 a2 a3 a4 a5 a6 a7 : Value) (x : Int32) (st : List Value) (h : fk_H), fk_ev d qX5_fewestClosed 21 [a0, a1, a2, a3, a4, a5, a6, a7] (.int x :: st) h = fk_ev d qX5_fewestClosed 22 [a0, a1, a2, .int x, a4, a5, a6, a7] st h) ∧
  (∀ (d : Nat) (a0 a1 a2 a4 a5 a6 a7 : Value) (x : Int32) (st : List Value) (h : fk_H), fk_ev d qX5_fewestClosed 22 [a0, a1, a2, .int x, a4, a5, a6, a7] st h = fk_ev d qX5_fewestClosed 23 [a0, a1, a2, .int x, a4, a5, a6, a7] (.int x :: st) h) ∧
  (∀ (d : Nat) (a0 a1 a2 a3 a4 a5 a6 a7 : Value) (x : Int32) (st : List Value) (h : fk_H), fk_ev d qX5_fewestClosed 23 [a0, a1, a2, a3, a4, a5, a6, a7] (.int x :: st) h = fk_ev d qX5_fewestClosed 25 [a0, a1, a2, a3, .int x, a5, a6, a7] st h) ∧
  (∀ (d : Nat) (L st : List Value) (h : fk_H), fk_ev d qX5_fewestClosed 25 L st h = fk_ev d qX5_fewestClosed 26 L (.int (nI 0) :: st) h) ∧
  (∀ (d : Nat) (a0 a1 a2 a3 a4 a5 a6 a7 : Value) (x : Int32) (st : List Value) (h : fk_H), fk_ev d qX5_fewestClosed 26 [a0, a1, a2, a3, a4, a5, a6, a7] (.int x :: st) h = fk_ev d qX5_fewestClosed 28 [a0, a1, a2, a3, a4, .int x, a6, a7] st h) ∧
  (∀ (d : Nat) (L st : List Value) (h : fk_H), fk_ev d qX5_fewestClosed 28 L st h = fk_ev d qX5_fewestClosed 29 L (.int (nI 0) :: st) h) ∧
  (∀ (d : Nat) (a0 a1 a2 a3 a4 a5 a6 a7 : Value) (x : Int32) (st : List Value) (h : fk_H), fk_ev d qX5_fewestClosed 29 [a0, a1, a2, a3, a4, a5, a6, a7] (.int x :: st) h = fk_ev d qX5_fewestClosed 31 [a0, a1, a2, a3, a4, a5, .int x, a7] st h) ∧
  (∀ (d : Nat) (L st : List Value) (h : fk_H), fk_ev d qX5_fewestClosed 33 L st h = fk_ev d qX5_fewestClosed 35 L (.int (nI 65535) :: st) h) ∧
  (∀ (d : Nat) (L : List Value) (x y : Int32) (st : List Value) (h : fk_H), fk_ev d qX5_fewestClosed 35 L (.int y :: .int x :: st) h = if y < x then fk_ev d qX5_fewestClosed 108 L st h else fk_ev d qX5_fewestClosed 38 L st h) ∧
  (∀ (d : Nat) (a0 a1 a2 a3 a4 a5 a7 : Value) (x : Int32) (st : List Value) (h : fk_H), fk_ev d qX5_fewestClosed 38 [a0, a1, a2, a3, a4, a5, .int x, a7] st h = fk_ev d qX5_fewestClosed 40 [a0, a1, a2, a3, a4, a5, .int x, a7] (.int x :: st) h) ∧
  (∀ (d : Nat) (L : List Value) (x : Int32) (st : List Value) (h : fk_H), fk_ev d qX5_fewestClosed 40 L (.int x :: st) h = if x = nI 0 then fk_ev d qX5_fewestClosed 56 L st h else fk_ev d qX5_fewestClosed 43 L st h) ∧
  (∀ (d : Nat) (a0 a1 a2 a3 a4 a6 a7 : Value) (x : Int32) (st : List Value) (h : fk_H), fk_ev d qX5_fewestClosed 43 [a0, a1, a2, a3, a4, .int x, a6, a7] st h = fk_ev d qX5_fewestClosed 45 [a0, a1, a2, a3, a4, .int x, a6, a7] (.int x :: st) h) ∧
  (∀ (d : Nat) (L : List Value) (x0 : Int32)  (h : fk_H), fk_ev (d + 1) qX5_fewestClosed 45 L (.int x0 :: []) h = (fk_ev d qJ6_bitCount_0f7a4 0 [.int x0] [] h).bind fun o => fk_ev (d + 1) qX5_fewestClosed 48 L (o.1.toList ++ []) o.2) ∧
  (∀ (d : Nat) (a0 a1 a2 a3 a5 a6 a7 : Value) (x : Int32) (st : List Value) (h : fk_H), fk_ev d qX5_fewestClosed 48 [a0, a1, a2, a3, .int x, a5, a6, a7] st h = fk_ev d qX5_fewestClosed 50 [a0, a1, a2, a3, .int x, a5, a6, a7] (.int x :: st) h) ∧
  (∀ (d : Nat) (L : List Value) (x0 : Int32) (w0 : Value) (h : fk_H), fk_ev (d + 1) qX5_fewestClosed 50 L (.int x0 :: [w0]) h = (fk_ev d qJ6_bitCount_0f7a4 0 [.int x0] [] h).bind fun o => fk_ev (d + 1) qX5_fewestClosed 53 L (o.1.toList ++ [w0]) o.2) ∧
  (∀ (d : Nat) (L : List Value) (x y : Int32) (st : List Value) (h : fk_H), fk_ev d qX5_fewestClosed 53 L (.int y :: .int x :: st) h = if y ≤ x then fk_ev d qX5_fewestClosed 60 L st h else fk_ev d qX5_fewestClosed 56 L st h) ∧
  (∀ (d : Nat) (L st : List Value) (h : fk_H), fk_ev d qX5_fewestClosed 56 L st h = fk_ev d qX5_fewestClosed 57 L (.int (nI 1) :: st) h) ∧
  (∀ (d : Nat) (L st : List Value) (h : fk_H), fk_ev d qX5_fewestClosed 57 L st h = fk_ev d qX5_fewestClosed 61 L st h) ∧
  (∀ (d : Nat) (L st : List Value) (h : fk_H), fk_ev d qX5_fewestClosed 60 L st h = fk_ev d qX5_fewestClosed 61 L (.int (nI 0) :: st) h) ∧
  (∀ (d : Nat) (a0 a1 a2 a3 a4 a5 a6 a7 : Value) (x : Int32) (st : List Value) (h : fk_H), fk_ev d qX5_fewestClosed 61 [a0, a1, a2, a3, a4, a5, a6, a7] (.int x :: st) h = fk_ev d qX5_fewestClosed 63 [a0, a1, a2, a3, a4, a5, a6, .int x] st h) ∧
  (∀ (d : Nat) (a0 a1 a2 a3 a4 a5 a6 : Value) (x : Int32) (st : List Value) (h : fk_H), fk_ev d qX5_fewestClosed 63 [a0, a1, a2, a3, a4, a5, a6, .int x] st h = fk_ev d qX5_fewestClosed 65 [a0, a1, a2, a3, a4, a5, a6, .int x] (.int x :: st) h) ∧
  (∀ (d : Nat) (L : List Value) (x : Int32) (st : List Value) (h : fk_H), fk_ev d qX5_fewestClosed 65 L (.int x :: st) h = if x = nI 0 then fk_ev d qX5_fewestClosed 86 L st h else fk_ev d qX5_fewestClosed 68 L st h) ∧
  (∀ (d : Nat) (a1 a2 a3 a4 a5 a6 a7 : Value) (x : Nat) (st : List Value) (h : fk_H), fk_ev d qX5_fewestClosed 68 [.ref x, a1, a2, a3, a4, a5, a6, a7] st h = fk_ev d qX5_fewestClosed 69 [.ref x, a1, a2, a3, a4, a5, a6, a7] (.ref x :: st) h) ∧
  (∀ (d : Nat) (a0 a2 a3 a4 a5 a6 a7 : Value) (x : Int32) (st : List Value) (h : fk_H), fk_ev d qX5_fewestClosed 69 [a0, .int x, a2, a3, a4, a5, a6, a7] st h = fk_ev d qX5_fewestClosed 70 [a0, .int x, a2, a3, a4, a5, a6, a7] (.int x :: st) h) ∧
  (∀ (d : Nat) (a0 a1 a2 a3 a4 a6 a7 : Value) (x : Int32) (st : List Value) (h : fk_H), fk_ev d qX5_fewestClosed 70 [a0, a1, a2, a3, a4, .int x, a6, a7] st h = fk_ev d qX5_fewestClosed 72 [a0, a1, a2, a3, a4, .int x, a6, a7] (.int x :: st) h) ∧
  (∀ (d : Nat) (L : List Value) (x0 : Int32) (x1 : Int32)  (N : Nat) (y : Nat → Nat → Int32) (l : Nat → Nat → Int64), fk_ev (d + 1) qX5_fewestClosed 72 L (.int x1 :: .int x0 :: .ref 18 :: []) (fk_E N y l) = (fk_ev d qX5_reach 0 [.ref 18, .int x0, .int x1, .null, .null, .null, .null, .null] [] (fk_E N y l)).bind fun o => fk_ev (d + 1) qX5_fewestClosed 75 L (o.1.toList ++ []) o.2) ∧
  (∀ (d : Nat) (a0 a1 a3 a4 a5 a6 a7 : Value) (x : Int32) (st : List Value) (h : fk_H), fk_ev d qX5_fewestClosed 75 [a0, a1, .int x, a3, a4, a5, a6, a7] st h = fk_ev d qX5_fewestClosed 76 [a0, a1, .int x, a3, a4, a5, a6, a7] (.int x :: st) h) ∧
  (∀ (d : Nat) (L : List Value) (x y : Int32) (st : List Value) (h : fk_H), fk_ev d qX5_fewestClosed 76 L (.int y :: .int x :: st) h = fk_ev d qX5_fewestClosed 77 L (.int (x >>> (y &&& 31)) :: st) h) ∧
  (∀ (d : Nat) (L st : List Value) (h : fk_H), fk_ev d qX5_fewestClosed 77 L st h = fk_ev d qX5_fewestClosed 78 L (.int (nI 1) :: st) h) ∧
  (∀ (d : Nat) (L : List Value) (x y : Int32) (st : List Value) (h : fk_H), fk_ev d qX5_fewestClosed 78 L (.int y :: .int x :: st) h = fk_ev d qX5_fewestClosed 79 L (.int (x &&& y) :: st) h) ∧
  (∀ (d : Nat) (L : List Value) (x : Int32) (st : List Value) (h : fk_H), fk_ev d qX5_fewestClosed 79 L (.int x :: st) h = if ¬ x = nI 0 then fk_ev d qX5_fewestClosed 86 L st h else fk_ev d qX5_fewestClosed 82 L st h) ∧
  (∀ (d : Nat) (a0 a1 a2 a3 a4 a6 a7 : Value) (x : Int32) (st : List Value) (h : fk_H), fk_ev d qX5_fewestClosed 82 [a0, a1, a2, a3, a4, .int x, a6, a7] st h = fk_ev d qX5_fewestClosed 84 [a0, a1, a2, a3, a4, .int x, a6, a7] (.int x :: st) h) ∧
  (∀ (d : Nat) (a0 a1 a2 a3 a4 a5 a6 a7 : Value) (x : Int32) (st : List Value) (h : fk_H), fk_ev d qX5_fewestClosed 84 [a0, a1, a2, a3, a4, a5, a6, a7] (.int x :: st) h = fk_ev d qX5_fewestClosed 86 [a0, a1, a2, a3, .int x, a5, a6, a7] st h) ∧
  (∀ (d : Nat) (a0 a1 a2 a3 a4 a6 a7 : Value) (x : Int32) (st : List Value) (h : fk_H), fk_ev d qX5_fewestClosed 86 [a0, a1, a2, a3, a4, .int x, a6, a7] st h = fk_ev d qX5_fewestClosed 88 [a0, a1, a2, a3, a4, .int x, a6, a7] (.int x :: st) h) ∧
  (∀ (d : Nat) (a0 a1 a2 a4 a5 a6 a7 : Value) (x : Int32) (st : List Value) (h : fk_H), fk_ev d qX5_fewestClosed 88 [a0, a1, a2, .int x, a4, a5, a6, a7] st h = fk_ev d qX5_fewestClosed 89 [a0, a1, a2, .int x, a4, a5, a6, a7] (.int x :: st) h) ∧
  (∀ (d : Nat) (L : List Value) (x y : Int32) (st : List Value) (h : fk_H), fk_ev d qX5_fewestClosed 89 L (.int y :: .int x :: st) h = fk_ev d qX5_fewestClosed 90 L (.int (x - y) :: st) h) ∧
  (∀ (d : Nat) (a0 a1 a2 a4 a5 a6 a7 : Value) (x : Int32) (st : List Value) (h : fk_H), fk_ev d qX5_fewestClosed 90 [a0, a1, a2, .int x, a4, a5, a6, a7] st h = fk_ev d qX5_fewestClosed 91 [a0, a1, a2, .int x, a4, a5, a6, a7] (.int x :: st) h) ∧
  (∀ (d : Nat) (L : List Value) (x y : Int32) (st : List Value) (h : fk_H), fk_ev d qX5_fewestClosed 91 L (.int y :: .int x :: st) h = fk_ev d qX5_fewestClosed 92 L (.int (x &&& y) :: st) h) ∧
  (∀ (d : Nat) (a0 a1 a2 a3 a4 a5 a6 a7 : Value) (x : Int32) (st : List Value) (h : fk_H), fk_ev d qX5_fewestClosed 92 [a0, a1, a2, a3, a4, a5, a6, a7] (.int x :: st) h = fk_ev d qX5_fewestClosed 94 [a0, a1, a2, a3, a4, .int x, a6, a7] st h) ∧
  (∀ (d : Nat) (a0 a1 a2 a3 a4 a6 a7 : Value) (x : Int32) (st : List Value) (h : fk_H), fk_ev d qX5_fewestClosed 94 [a0, a1, a2, a3, a4, .int x, a6, a7] st h = fk_ev d qX5_fewestClosed 96 [a0, a1, a2, a3, a4, .int x, a6, a7] (.int x :: st) h) ∧
  (∀ (d : Nat) (L : List Value) (x : Int32) (st : List Value) (h : fk_H), fk_ev d qX5_fewestClosed 96 L (.int x :: st) h = if ¬ x = nI 0 then fk_ev d qX5_fewestClosed 102 L st h else fk_ev d qX5_fewestClosed 99 L st h) ∧
  (∀ (d : Nat) (L st : List Value) (h : fk_H), fk_ev d qX5_fewestClosed 99 L st h = fk_ev d qX5_fewestClosed 108 L st h) ∧
  (∀ (d : Nat) (a0 a1 a2 a3 a4 a5 a7 : Value) (x : Int32) (st : List Value) (h : fk_H), fk_ev d qX5_fewestClosed 102 [a0, a1, a2, a3, a4, a5, .int x, a7] st h = fk_ev d qX5_fewestClosed 105 [a0, a1, a2, a3, a4, a5, .int (x + nI 1), a7] st h) ∧
  (∀ (d : Nat) (L st : List Value) (h : fk_H), fk_ev d qX5_fewestClosed 105 L st h = fk_ev d qX5_fewestClosed 31 L st h) ∧
  (∀ (d : Nat) (a0 a1 a2 a3 a5 a6 a7 : Value) (x : Int32) (st : List Value) (h : fk_H), fk_ev d qX5_fewestClosed 108 [a0, a1, a2, a3, .int x, a5, a6, a7] st h = fk_ev d qX5_fewestClosed 110 [a0, a1, a2, a3, .int x, a5, a6, a7] (.int x :: st) h) ∧
  (∀ (d : Nat) (L : List Value) (x : Int32) (h : fk_H), fk_ev d qX5_fewestClosed 110 L [.int x] h = some (some (.int x), h)) := ⟨fun d a1 a2 a3 a4 a5 a6 a7 x st h => fk_w_aloadn 0 [.ref x, a1, a2, a3, a4, a5, a6, a7] dX5_fewestClosed_0 rfl,
  fun d L st N y l => fk_g_getC rfl lf_5_27 (by decide) rfl dX5_fewestClosed_1 fk_at_18,
  fun d a0 a2 a3 a4 a5 a6 a7 x st h => fk_w_iloadn 1 [a0, .int x, a2, a3, a4, a5, a6, a7] dX5_fewestClosed_4 rfl,
  fun d L st N y l i hi => fk_g_iald fk_at_24 fk_ln_24 (by decide) dX5_fewestClosed_5 hi,
  fun d a0 a1 a3 a4 a5 a6 a7 x st h => fk_w_iloadn 2 [a0, a1, .int x, a3, a4, a5, a6, a7] dX5_fewestClosed_6 rfl,
  fun d L x y st h => fk_r_ishr dX5_fewestClosed_7,
  fun d L st h => fk_w_iconst dX5_fewestClosed_8 (by decide),
  fun d L x y st h => fk_r_iand dX5_fewestClosed_9,
  fun d L x st h => fk_r_if_eq dX5_fewestClosed_10 (by decide),
  fun d L st h => fk_w_iconst dX5_fewestClosed_13 (by decide),
  fun d L x h => fk_r_ret dX5_fewestClosed_14 (Or.inl rfl),
  fun d a1 a2 a3 a4 a5 a6 a7 x st h => fk_w_aloadn 0 [.ref x, a1, a2, a3, a4, a5, a6, a7] dX5_fewestClosed_15 rfl,
  fun d a0 a2 a3 a4 a5 a6 a7 x st h => fk_w_iloadn 1 [a0, .int x, a2, a3, a4, a5, a6, a7] dX5_fewestClosed_16 rfl,
  fun d a0 a1 a3 a4 a5 a6 a7 x st h => fk_w_iloadn 2 [a0, a1, .int x, a3, a4, a5, a6, a7] dX5_fewestClosed_17 rfl,
  fun d L x0 x1 N y l  => fk_g_call [.int x0, .int x1] [] rfl lm_5_61 dX5_fewestClosed_18 rfl ⟨rfl, by decide⟩ (by simp) fk_at_18,
  fun d a0 a1 a2 a3 a4 a5 a6 a7 x st h => fk_w_istoren 3 8 [] [a0, a1, a2, a3, a4, a5, a6, a7] [a0, a1, a2, .int x, a4, a5, a6, a7] dX5_fewestClosed_21 rfl rfl (by decide) rfl,
  fun d a0 a1 a2 a4 a5 a6 a7 x st h => fk_w_iloadn 3 [a0, a1, a2, .int x, a4, a5, a6, a7] dX5_fewestClosed_22 rfl,
  fun d a0 a1 a2 a3 a4 a5 a6 a7 x st h => fk_w_istore 4 8 [] [a0, a1, a2, a3, a4, a5, a6, a7] [a0, a1, a2, a3, .int x, a5, a6, a7] dX5_fewestClosed_23 rfl rfl (by decide) rfl,
  fun d L st h => fk_w_iconst dX5_fewestClosed_25 (by decide),
  fun d a0 a1 a2 a3 a4 a5 a6 a7 x st h => fk_w_istore 5 8 [] [a0, a1, a2, a3, a4, a5, a6, a7] [a0, a1, a2, a3, a4, .int x, a6, a7] dX5_fewestClosed_26 rfl rfl (by decide) rfl,
  fun d L st h => fk_w_iconst dX5_fewestClosed_28 (by decide),
  fun d a0 a1 a2 a3 a4 a5 a6 a7 x st h => fk_w_istore 6 8 [] [a0, a1, a2, a3, a4, a5, a6, a7] [a0, a1, a2, a3, a4, a5, .int x, a7] dX5_fewestClosed_29 rfl rfl (by decide) rfl,
  fun d L st h => fk_g_ldc rfl lc_5_64 (by decide) dX5_fewestClosed_33,
  fun d L x y st h => fk_r_icmp_gt dX5_fewestClosed_35 (by decide),
  fun d a0 a1 a2 a3 a4 a5 a7 x st h => fk_w_iload 6 [a0, a1, a2, a3, a4, a5, .int x, a7] dX5_fewestClosed_38 rfl,
  fun d L x st h => fk_r_if_eq dX5_fewestClosed_40 (by decide),
  fun d a0 a1 a2 a3 a4 a6 a7 x st h => fk_w_iload 5 [a0, a1, a2, a3, a4, .int x, a6, a7] dX5_fewestClosed_43 rfl,
  fun d L x0 h => fk_g_calls [.int x0] [] rfl lm_5_65 dX5_fewestClosed_45 rfl ⟨rfl, by decide⟩ (by simp),
  fun d a0 a1 a2 a3 a5 a6 a7 x st h => fk_w_iload 4 [a0, a1, a2, a3, .int x, a5, a6, a7] dX5_fewestClosed_48 rfl,
  fun d L x0 w0 h => fk_g_calls [.int x0] [w0] rfl lm_5_65 dX5_fewestClosed_50 rfl ⟨rfl, by decide⟩ (by simp),
  fun d L x y st h => fk_r_icmp_ge dX5_fewestClosed_53 (by decide),
  fun d L st h => fk_w_iconst dX5_fewestClosed_56 (by decide),
  fun d L st h => fk_r_goto dX5_fewestClosed_57 (by decide),
  fun d L st h => fk_w_iconst dX5_fewestClosed_60 (by decide),
  fun d a0 a1 a2 a3 a4 a5 a6 a7 x st h => fk_w_istore 7 8 [] [a0, a1, a2, a3, a4, a5, a6, a7] [a0, a1, a2, a3, a4, a5, a6, .int x] dX5_fewestClosed_61 rfl rfl (by decide) rfl,
  fun d a0 a1 a2 a3 a4 a5 a6 x st h => fk_w_iload 7 [a0, a1, a2, a3, a4, a5, a6, .int x] dX5_fewestClosed_63 rfl,
  fun d L x st h => fk_r_if_eq dX5_fewestClosed_65 (by decide),
  fun d a1 a2 a3 a4 a5 a6 a7 x st h => fk_w_aloadn 0 [.ref x, a1, a2, a3, a4, a5, a6, a7] dX5_fewestClosed_68 rfl,
  fun d a0 a2 a3 a4 a5 a6 a7 x st h => fk_w_iloadn 1 [a0, .int x, a2, a3, a4, a5, a6, a7] dX5_fewestClosed_69 rfl,
  fun d a0 a1 a2 a3 a4 a6 a7 x st h => fk_w_iload 5 [a0, a1, a2, a3, a4, .int x, a6, a7] dX5_fewestClosed_70 rfl,
  fun d L x0 x1 N y l  => fk_g_call [.int x0, .int x1] [] rfl lm_5_57 dX5_fewestClosed_72 rfl ⟨rfl, by decide⟩ (by simp) fk_at_18,
  fun d a0 a1 a3 a4 a5 a6 a7 x st h => fk_w_iloadn 2 [a0, a1, .int x, a3, a4, a5, a6, a7] dX5_fewestClosed_75 rfl,
  fun d L x y st h => fk_r_ishr dX5_fewestClosed_76,
  fun d L st h => fk_w_iconst dX5_fewestClosed_77 (by decide),
  fun d L x y st h => fk_r_iand dX5_fewestClosed_78,
  fun d L x st h => fk_r_if_ne dX5_fewestClosed_79 (by decide),
  fun d a0 a1 a2 a3 a4 a6 a7 x st h => fk_w_iload 5 [a0, a1, a2, a3, a4, .int x, a6, a7] dX5_fewestClosed_82 rfl,
  fun d a0 a1 a2 a3 a4 a5 a6 a7 x st h => fk_w_istore 4 8 [] [a0, a1, a2, a3, a4, a5, a6, a7] [a0, a1, a2, a3, .int x, a5, a6, a7] dX5_fewestClosed_84 rfl rfl (by decide) rfl,
  fun d a0 a1 a2 a3 a4 a6 a7 x st h => fk_w_iload 5 [a0, a1, a2, a3, a4, .int x, a6, a7] dX5_fewestClosed_86 rfl,
  fun d a0 a1 a2 a4 a5 a6 a7 x st h => fk_w_iloadn 3 [a0, a1, a2, .int x, a4, a5, a6, a7] dX5_fewestClosed_88 rfl,
  fun d L x y st h => fk_r_isub dX5_fewestClosed_89,
  fun d a0 a1 a2 a4 a5 a6 a7 x st h => fk_w_iloadn 3 [a0, a1, a2, .int x, a4, a5, a6, a7] dX5_fewestClosed_90 rfl,
  fun d L x y st h => fk_r_iand dX5_fewestClosed_91,
  fun d a0 a1 a2 a3 a4 a5 a6 a7 x st h => fk_w_istore 5 8 [] [a0, a1, a2, a3, a4, a5, a6, a7] [a0, a1, a2, a3, a4, .int x, a6, a7] dX5_fewestClosed_92 rfl rfl (by decide) rfl,
  fun d a0 a1 a2 a3 a4 a6 a7 x st h => fk_w_iload 5 [a0, a1, a2, a3, a4, .int x, a6, a7] dX5_fewestClosed_94 rfl,
  fun d L x st h => fk_r_if_ne dX5_fewestClosed_96 (by decide),
  fun d L st h => fk_r_goto dX5_fewestClosed_99 (by decide),
  fun d a0 a1 a2 a3 a4 a5 a7 x st h => fk_w_iinc 6 8 (1) [] [a0, a1, a2, a3, a4, a5, .int x, a7] [a0, a1, a2, a3, a4, a5, .int (x + nI 1), a7] dX5_fewestClosed_102 rfl rfl rfl (by decide) rfl,
  fun d L st h => fk_r_goto dX5_fewestClosed_105 (by decide),
  fun d a0 a1 a2 a3 a5 a6 a7 x st h => fk_w_iload 4 [a0, a1, a2, a3, .int x, a5, a6, a7] dX5_fewestClosed_108 rfl,
  fun d L x h => fk_r_ret dX5_fewestClosed_110 (Or.inl rfl)⟩
theorem hX5_fewestClosed_31 : ∀ (d : Nat) (a0 a1 a2 a3 a4 a5 a7 : Value) (x : Int32) (st : List Value) (h : fk_H), fk_ev d qX5_fewestClosed 31 [a0, a1, a2, a3, a4, a5, .int x, a7] st h = fk_ev d qX5_fewestClosed 33 [a0, a1, a2, a3, a4, a5, .int x, a7] (.int x :: st) h := fun d a0 a1 a2 a3 a4 a5 a7 x st h => fk_w_iload 6 [a0, a1, a2, a3, a4, a5, .int x, a7] dX5_fewestClosed_31 rfl
theorem dX5_onTheWay_0 : decode cX5_onTheWay 0 = .ok (.aload_n 0, 1) := by decide +kernel
theorem dX5_onTheWay_1 : decode cX5_onTheWay 1 = .ok (.iload_n 1, 1) := by decide +kernel
theorem dX5_onTheWay_2 : decode cX5_onTheWay 2 = .ok (.iconst 1, 1) := by decide +kernel
theorem dX5_onTheWay_3 : decode cX5_onTheWay 3 = .ok (.iload_n 2, 1) := by decide +kernel
theorem dX5_onTheWay_4 : decode cX5_onTheWay 4 = .ok (.ishl, 1) := by decide +kernel
theorem dX5_onTheWay_5 : decode cX5_onTheWay 5 = .ok (.invokevirtual 57, 3) := by decide +kernel
theorem dX5_onTheWay_8 : decode cX5_onTheWay 8 = .ok (.istore_n 3, 1) := by decide +kernel
theorem dX5_onTheWay_9 : decode cX5_onTheWay 9 = .ok (.iconst 0, 1) := by decide +kernel
theorem dX5_onTheWay_10 : decode cX5_onTheWay 10 = .ok (.istore 4, 2) := by decide +kernel
theorem dX5_onTheWay_12 : decode cX5_onTheWay 12 = .ok (.iconst 0, 1) := by decide +kernel
theorem dX5_onTheWay_13 : decode cX5_onTheWay 13 = .ok (.istore 5, 2) := by decide +kernel
theorem dX5_onTheWay_15 : decode cX5_onTheWay 15 = .ok (.iload 5, 2) := by decide +kernel
theorem dX5_onTheWay_17 : decode cX5_onTheWay 17 = .ok (.bipush 16, 2) := by decide +kernel
theorem dX5_onTheWay_19 : decode cX5_onTheWay 19 = .ok (.if_icmp .ge 71, 3) := by decide +kernel
theorem dX5_onTheWay_22 : decode cX5_onTheWay 22 = .ok (.iload_n 3, 1) := by decide +kernel
theorem dX5_onTheWay_23 : decode cX5_onTheWay 23 = .ok (.iload 5, 2) := by decide +kernel
theorem dX5_onTheWay_25 : decode cX5_onTheWay 25 = .ok (.ishr, 1) := by decide +kernel
theorem dX5_onTheWay_26 : decode cX5_onTheWay 26 = .ok (.iconst 1, 1) := by decide +kernel
theorem dX5_onTheWay_27 : decode cX5_onTheWay 27 = .ok (.iand, 1) := by decide +kernel
theorem dX5_onTheWay_28 : decode cX5_onTheWay 28 = .ok (.ifCond .eq 23, 3) := by decide +kernel
theorem dX5_onTheWay_31 : decode cX5_onTheWay 31 = .ok (.aload_n 0, 1) := by decide +kernel
theorem dX5_onTheWay_32 : decode cX5_onTheWay 32 = .ok (.iload 5, 2) := by decide +kernel
theorem dX5_onTheWay_34 : decode cX5_onTheWay 34 = .ok (.iconst 1, 1) := by decide +kernel
theorem dX5_onTheWay_35 : decode cX5_onTheWay 35 = .ok (.iload_n 1, 1) := by decide +kernel
theorem dX5_onTheWay_36 : decode cX5_onTheWay 36 = .ok (.ishl, 1) := by decide +kernel
theorem dX5_onTheWay_37 : decode cX5_onTheWay 37 = .ok (.invokevirtual 57, 3) := by decide +kernel
theorem dX5_onTheWay_40 : decode cX5_onTheWay 40 = .ok (.iload_n 2, 1) := by decide +kernel
theorem dX5_onTheWay_41 : decode cX5_onTheWay 41 = .ok (.ishr, 1) := by decide +kernel
theorem dX5_onTheWay_42 : decode cX5_onTheWay 42 = .ok (.iconst 1, 1) := by decide +kernel
theorem dX5_onTheWay_43 : decode cX5_onTheWay 43 = .ok (.iand, 1) := by decide +kernel
theorem dX5_onTheWay_44 : decode cX5_onTheWay 44 = .ok (.ifCond .eq 7, 3) := by decide +kernel
theorem dX5_onTheWay_47 : decode cX5_onTheWay 47 = .ok (.iconst 1, 1) := by decide +kernel
theorem dX5_onTheWay_48 : decode cX5_onTheWay 48 = .ok (.goto 4, 3) := by decide +kernel
theorem dX5_onTheWay_51 : decode cX5_onTheWay 51 = .ok (.iconst 0, 1) := by decide +kernel
theorem dX5_onTheWay_52 : decode cX5_onTheWay 52 = .ok (.istore 6, 2) := by decide +kernel
theorem dX5_onTheWay_54 : decode cX5_onTheWay 54 = .ok (.iload 4, 2) := by decide +kernel
theorem dX5_onTheWay_56 : decode cX5_onTheWay 56 = .ok (.iload 6, 2) := by decide +kernel
theorem dX5_onTheWay_58 : decode cX5_onTheWay 58 = .ok (.ifCond .eq 22, 3) := by decide +kernel
theorem dX5_onTheWay_61 : decode cX5_onTheWay 61 = .ok (.iload 5, 2) := by decide +kernel
theorem dX5_onTheWay_63 : decode cX5_onTheWay 63 = .ok (.iload_n 1, 1) := by decide +kernel
theorem dX5_onTheWay_64 : decode cX5_onTheWay 64 = .ok (.if_icmp .eq 16, 3) := by decide +kernel
theorem dX5_onTheWay_67 : decode cX5_onTheWay 67 = .ok (.iload 5, 2) := by decide +kernel
theorem dX5_onTheWay_69 : decode cX5_onTheWay 69 = .ok (.iload_n 2, 1) := by decide +kernel
theorem dX5_onTheWay_70 : decode cX5_onTheWay 70 = .ok (.if_icmp .eq 10, 3) := by decide +kernel
theorem dX5_onTheWay_73 : decode cX5_onTheWay 73 = .ok (.iconst 1, 1) := by decide +kernel
theorem dX5_onTheWay_74 : decode cX5_onTheWay 74 = .ok (.iload 5, 2) := by decide +kernel
theorem dX5_onTheWay_76 : decode cX5_onTheWay 76 = .ok (.ishl, 1) := by decide +kernel
theorem dX5_onTheWay_77 : decode cX5_onTheWay 77 = .ok (.goto 4, 3) := by decide +kernel
theorem dX5_onTheWay_80 : decode cX5_onTheWay 80 = .ok (.iconst 0, 1) := by decide +kernel
theorem dX5_onTheWay_81 : decode cX5_onTheWay 81 = .ok (.ior, 1) := by decide +kernel
theorem dX5_onTheWay_82 : decode cX5_onTheWay 82 = .ok (.istore 4, 2) := by decide +kernel
theorem dX5_onTheWay_84 : decode cX5_onTheWay 84 = .ok (.iinc 5 1, 3) := by decide +kernel
theorem dX5_onTheWay_87 : decode cX5_onTheWay 87 = .ok (.goto (-72), 3) := by decide +kernel
theorem dX5_onTheWay_90 : decode cX5_onTheWay 90 = .ok (.iload 4, 2) := by decide +kernel
theorem dX5_onTheWay_92 : decode cX5_onTheWay 92 = .ok (.ireturn, 1) := by decide +kernel
theorem rX5_onTheWay : (∀ (d : Nat) (a1 a2 a3 a4 a5 a6 : Value) (x : Nat) (st : List Value) (h : fk_H), fk_ev d qX5_onTheWay 0 [.ref x, a1, a2, a3, a4, a5, a6] st h = fk_ev d qX5_onTheWay 1 [.ref x, a1, a2, a3, a4, a5, a6] (.ref x :: st) h) ∧
  (∀ (d : Nat) (a0 a2 a3 a4 a5 a6 : Value) (x : Int32) (st : List Value) (h : fk_H), fk_ev d qX5_onTheWay 1 [a0, .int x, a2, a3, a4, a5, a6] st h = fk_ev d qX5_onTheWay 2 [a0, .int x, a2, a3, a4, a5, a6] (.int x :: st) h) ∧
  (∀ (d : Nat) (L st : List Value) (h : fk_H), fk_ev d qX5_onTheWay 2 L st h = fk_ev d qX5_onTheWay 3 L (.int (nI 1) :: st) h) ∧
  (∀ (d : Nat) (a0 a1 a3 a4 a5 a6 : Value) (x : Int32) (st : List Value) (h : fk_H), fk_ev d qX5_onTheWay 3 [a0, a1, .int x, a3, a4, a5, a6] st h = fk_ev d qX5_onTheWay 4 [a0, a1, .int x, a3, a4, a5, a6] (.int x :: st) h) ∧
  (∀ (d : Nat) (L : List Value) (x y : Int32) (st : List Value) (h : fk_H), fk_ev d qX5_onTheWay 4 L (.int y :: .int x :: st) h = fk_ev d qX5_onTheWay 5 L (.int (x <<< (y &&& 31)) :: st) h) ∧
  (∀ (d : Nat) (L : List Value) (x0 : Int32) (x1 : Int32)  (N : Nat) (y : Nat → Nat → Int32) (l : Nat → Nat → Int64), fk_ev (d + 1) qX5_onTheWay 5 L (.int x1 :: .int x0 :: .ref 18 :: []) (fk_E N y l) = (fk_ev d qX5_reach 0 [.ref 18, .int x0, .int x1, .null, .null, .null, .null, .null] [] (fk_E N y l)).bind fun o => fk_ev (d + 1) qX5_onTheWay 8 L (o.1.toList ++ []) o.2) ∧
  (∀ (d : Nat) (a0 a1 a2 a3 a4 a5 a6 : Value) (x : Int32) (st : List Value) (h : fk_H), fk_ev d qX5_onTheWay 8 [a0, a1, a2, a3, a4, a5, a6] (.int x :: st) h = fk_ev d qX5_onTheWay 9 [a0, a1, a2, .int x, a4, a5, a6] st h) ∧
  (∀ (d : Nat) (L st : List Value) (h : fk_H), fk_ev d qX5_onTheWay 9 L st h = fk_ev d qX5_onTheWay 10 L (.int (nI 0) :: st) h) ∧
  (∀ (d : Nat) (a0 a1 a2 a3 a4 a5 a6 : Value) (x : Int32) (st : List Value) (h : fk_H), fk_ev d qX5_onTheWay 10 [a0, a1, a2, a3, a4, a5, a6] (.int x :: st) h = fk_ev d qX5_onTheWay 12 [a0, a1, a2, a3, .int x, a5, a6] st h) ∧
  (∀ (d : Nat) (L st : List Value) (h : fk_H), fk_ev d qX5_onTheWay 12 L st h = fk_ev d qX5_onTheWay 13 L (.int (nI 0) :: st) h) ∧
  (∀ (d : Nat) (a0 a1 a2 a3 a4 a5 a6 : Value) (x : Int32) (st : List Value) (h : fk_H), fk_ev d qX5_onTheWay 13 [a0, a1, a2, a3, a4, a5, a6] (.int x :: st) h = fk_ev d qX5_onTheWay 15 [a0, a1, a2, a3, a4, .int x, a6] st h) ∧
  (∀ (d : Nat) (L st : List Value) (h : fk_H), fk_ev d qX5_onTheWay 17 L st h = fk_ev d qX5_onTheWay 19 L (.int (nI 16) :: st) h) ∧
  (∀ (d : Nat) (L : List Value) (x y : Int32) (st : List Value) (h : fk_H), fk_ev d qX5_onTheWay 19 L (.int y :: .int x :: st) h = if y ≤ x then fk_ev d qX5_onTheWay 90 L st h else fk_ev d qX5_onTheWay 22 L st h) ∧
  (∀ (d : Nat) (a0 a1 a2 a4 a5 a6 : Value) (x : Int32) (st : List Value) (h : fk_H), fk_ev d qX5_onTheWay 22 [a0, a1, a2, .int x, a4, a5, a6] st h = fk_ev d qX5_onTheWay 23 [a0, a1, a2, .int x, a4, a5, a6] (.int x :: st) h) ∧
  (∀ (d : Nat) (a0 a1 a2 a3 a4 a6 : Value) (x : Int32) (st : List Value) (h : fk_H), fk_ev d qX5_onTheWay 23 [a0, a1, a2, a3, a4, .int x, a6] st h = fk_ev d qX5_onTheWay 25 [a0, a1, a2, a3, a4, .int x, a6] (.int x :: st) h) ∧
  (∀ (d : Nat) (L : List Value) (x y : Int32) (st : List Value) (h : fk_H), fk_ev d qX5_onTheWay 25 L (.int y :: .int x :: st) h = fk_ev d qX5_onTheWay 26 L (.int (x >>> (y &&& 31)) :: st) h) ∧
  (∀ (d : Nat) (L st : List Value) (h : fk_H), fk_ev d qX5_onTheWay 26 L st h = fk_ev d qX5_onTheWay 27 L (.int (nI 1) :: st) h) ∧
  (∀ (d : Nat) (L : List Value) (x y : Int32) (st : List Value) (h : fk_H), fk_ev d qX5_onTheWay 27 L (.int y :: .int x :: st) h = fk_ev d qX5_onTheWay 28 L (.int (x &&& y) :: st) h) ∧
  (∀ (d : Nat) (L : List Value) (x : Int32) (st : List Value) (h : fk_H), fk_ev d qX5_onTheWay 28 L (.int x :: st) h = if x = nI 0 then fk_ev d qX5_onTheWay 51 L st h else fk_ev d qX5_onTheWay 31 L st h) ∧
  (∀ (d : Nat) (a1 a2 a3 a4 a5 a6 : Value) (x : Nat) (st : List Value) (h : fk_H), fk_ev d qX5_onTheWay 31 [.ref x, a1, a2, a3, a4, a5, a6] st h = fk_ev d qX5_onTheWay 32 [.ref x, a1, a2, a3, a4, a5, a6] (.ref x :: st) h) ∧
  (∀ (d : Nat) (a0 a1 a2 a3 a4 a6 : Value) (x : Int32) (st : List Value) (h : fk_H), fk_ev d qX5_onTheWay 32 [a0, a1, a2, a3, a4, .int x, a6] st h = fk_ev d qX5_onTheWay 34 [a0, a1, a2, a3, a4, .int x, a6] (.int x :: st) h) ∧
  (∀ (d : Nat) (L st : List Value) (h : fk_H), fk_ev d qX5_onTheWay 34 L st h = fk_ev d qX5_onTheWay 35 L (.int (nI 1) :: st) h) ∧
  (∀ (d : Nat) (a0 a2 a3 a4 a5 a6 : Value) (x : Int32) (st : List Value) (h : fk_H), fk_ev d qX5_onTheWay 35 [a0, .int x, a2, a3, a4, a5, a6] st h = fk_ev d qX5_onTheWay 36 [a0, .int x, a2, a3, a4, a5, a6] (.int x :: st) h) ∧
  (∀ (d : Nat) (L : List Value) (x y : Int32) (st : List Value) (h : fk_H), fk_ev d qX5_onTheWay 36 L (.int y :: .int x :: st) h = fk_ev d qX5_onTheWay 37 L (.int (x <<< (y &&& 31)) :: st) h) ∧
  (∀ (d : Nat) (L : List Value) (x0 : Int32) (x1 : Int32)  (N : Nat) (y : Nat → Nat → Int32) (l : Nat → Nat → Int64), fk_ev (d + 1) qX5_onTheWay 37 L (.int x1 :: .int x0 :: .ref 18 :: []) (fk_E N y l) = (fk_ev d qX5_reach 0 [.ref 18, .int x0, .int x1, .null, .null, .null, .null, .null] [] (fk_E N y l)).bind fun o => fk_ev (d + 1) qX5_onTheWay 40 L (o.1.toList ++ []) o.2) ∧
  (∀ (d : Nat) (a0 a1 a3 a4 a5 a6 : Value) (x : Int32) (st : List Value) (h : fk_H), fk_ev d qX5_onTheWay 40 [a0, a1, .int x, a3, a4, a5, a6] st h = fk_ev d qX5_onTheWay 41 [a0, a1, .int x, a3, a4, a5, a6] (.int x :: st) h) ∧
  (∀ (d : Nat) (L : List Value) (x y : Int32) (st : List Value) (h : fk_H), fk_ev d qX5_onTheWay 41 L (.int y :: .int x :: st) h = fk_ev d qX5_onTheWay 42 L (.int (x >>> (y &&& 31)) :: st) h) ∧
  (∀ (d : Nat) (L st : List Value) (h : fk_H), fk_ev d qX5_onTheWay 42 L st h = fk_ev d qX5_onTheWay 43 L (.int (nI 1) :: st) h) ∧
  (∀ (d : Nat) (L : List Value) (x y : Int32) (st : List Value) (h : fk_H), fk_ev d qX5_onTheWay 43 L (.int y :: .int x :: st) h = fk_ev d qX5_onTheWay 44 L (.int (x &&& y) :: st) h) ∧
  (∀ (d : Nat) (L : List Value) (x : Int32) (st : List Value) (h : fk_H), fk_ev d qX5_onTheWay 44 L (.int x :: st) h = if x = nI 0 then fk_ev d qX5_onTheWay 51 L st h else fk_ev d qX5_onTheWay 47 L st h) ∧
  (∀ (d : Nat) (L st : List Value) (h : fk_H), fk_ev d qX5_onTheWay 47 L st h = fk_ev d qX5_onTheWay 48 L (.int (nI 1) :: st) h) ∧
  (∀ (d : Nat) (L st : List Value) (h : fk_H), fk_ev d qX5_onTheWay 48 L st h = fk_ev d qX5_onTheWay 52 L st h) ∧
  (∀ (d : Nat) (L st : List Value) (h : fk_H), fk_ev d qX5_onTheWay 51 L st h = fk_ev d qX5_onTheWay 52 L (.int (nI 0) :: st) h) ∧
  (∀ (d : Nat) (a0 a1 a2 a3 a4 a5 a6 : Value) (x : Int32) (st : List Value) (h : fk_H), fk_ev d qX5_onTheWay 52 [a0, a1, a2, a3, a4, a5, a6] (.int x :: st) h = fk_ev d qX5_onTheWay 54 [a0, a1, a2, a3, a4, a5, .int x] st h) ∧
  (∀ (d : Nat) (a0 a1 a2 a3 a5 a6 : Value) (x : Int32) (st : List Value) (h : fk_H), fk_ev d qX5_onTheWay 54 [a0, a1, a2, a3, .int x, a5, a6] st h = fk_ev d qX5_onTheWay 56 [a0, a1, a2, a3, .int x, a5, a6] (.int x :: st) h) ∧
  (∀ (d : Nat) (a0 a1 a2 a3 a4 a5 : Value) (x : Int32) (st : List Value) (h : fk_H), fk_ev d qX5_onTheWay 56 [a0, a1, a2, a3, a4, a5, .int x] st h = fk_ev d qX5_onTheWay 58 [a0, a1, a2, a3, a4, a5, .int x] (.int x :: st) h) ∧
  (∀ (d : Nat) (L : List Value) (x : Int32) (st : List Value) (h : fk_H), fk_ev d qX5_onTheWay 58 L (.int x :: st) h = if x = nI 0 then fk_ev d qX5_onTheWay 80 L st h else fk_ev d qX5_onTheWay 61 L st h) ∧
  (∀ (d : Nat) (a0 a1 a2 a3 a4 a6 : Value) (x : Int32) (st : List Value) (h : fk_H), fk_ev d qX5_onTheWay 61 [a0, a1, a2, a3, a4, .int x, a6] st h = fk_ev d qX5_onTheWay 63 [a0, a1, a2, a3, a4, .int x, a6] (.int x :: st) h) ∧
  (∀ (d : Nat) (a0 a2 a3 a4 a5 a6 : Value) (x : Int32) (st : List Value) (h : fk_H), fk_ev d qX5_onTheWay 63 [a0, .int x, a2, a3, a4, a5, a6] st h = fk_ev d qX5_onTheWay 64 [a0, .int x, a2, a3, a4, a5, a6] (.int x :: st) h) ∧
  (∀ (d : Nat) (L : List Value) (x y : Int32) (st : List Value) (h : fk_H), fk_ev d qX5_onTheWay 64 L (.int y :: .int x :: st) h = if x = y then fk_ev d qX5_onTheWay 80 L st h else fk_ev d qX5_onTheWay 67 L st h) ∧
  (∀ (d : Nat) (a0 a1 a2 a3 a4 a6 : Value) (x : Int32) (st : List Value) (h : fk_H), fk_ev d qX5_onTheWay 67 [a0, a1, a2, a3, a4, .int x, a6] st h = fk_ev d qX5_onTheWay 69 [a0, a1, a2, a3, a4, .int x, a6] (.int x :: st) h) ∧
  (∀ (d : Nat) (a0 a1 a3 a4 a5 a6 : Value) (x : Int32) (st : List Value) (h : fk_H), fk_ev d qX5_onTheWay 69 [a0, a1, .int x, a3, a4, a5, a6] st h = fk_ev d qX5_onTheWay 70 [a0, a1, .int x, a3, a4, a5, a6] (.int x :: st) h) ∧
  (∀ (d : Nat) (L : List Value) (x y : Int32) (st : List Value) (h : fk_H), fk_ev d qX5_onTheWay 70 L (.int y :: .int x :: st) h = if x = y then fk_ev d qX5_onTheWay 80 L st h else fk_ev d qX5_onTheWay 73 L st h) ∧
  (∀ (d : Nat) (L st : List Value) (h : fk_H), fk_ev d qX5_onTheWay 73 L st h = fk_ev d qX5_onTheWay 74 L (.int (nI 1) :: st) h) ∧
  (∀ (d : Nat) (a0 a1 a2 a3 a4 a6 : Value) (x : Int32) (st : List Value) (h : fk_H), fk_ev d qX5_onTheWay 74 [a0, a1, a2, a3, a4, .int x, a6] st h = fk_ev d qX5_onTheWay 76 [a0, a1, a2, a3, a4, .int x, a6] (.int x :: st) h) ∧
  (∀ (d : Nat) (L : List Value) (x y : Int32) (st : List Value) (h : fk_H), fk_ev d qX5_onTheWay 76 L (.int y :: .int x :: st) h = fk_ev d qX5_onTheWay 77 L (.int (x <<< (y &&& 31)) :: st) h) ∧
  (∀ (d : Nat) (L st : List Value) (h : fk_H), fk_ev d qX5_onTheWay 77 L st h = fk_ev d qX5_onTheWay 81 L st h) ∧
  (∀ (d : Nat) (L st : List Value) (h : fk_H), fk_ev d qX5_onTheWay 80 L st h = fk_ev d qX5_onTheWay 81 L (.int (nI 0) :: st) h) ∧
  (∀ (d : Nat) (L : List Value) (x y : Int32) (st : List Value) (h : fk_H), fk_ev d qX5_onTheWay 81 L (.int y :: .int x :: st) h = fk_ev d qX5_onTheWay 82 L (.int (x ||| y) :: st) h) ∧
  (∀ (d : Nat) (a0 a1 a2 a3 a4 a5 a6 : Value) (x : Int32) (st : List Value) (h : fk_H), fk_ev d qX5_onTheWay 82 [a0, a1, a2, a3, a4, a5, a6] (.int x :: st) h = fk_ev d qX5_onTheWay 84 [a0, a1, a2, a3, .int x, a5, a6] st h) ∧
  (∀ (d : Nat) (a0 a1 a2 a3 a4 a6 : Value) (x : Int32) (st : List Value) (h : fk_H), fk_ev d qX5_onTheWay 84 [a0, a1, a2, a3, a4, .int x, a6] st h = fk_ev d qX5_onTheWay 87 [a0, a1, a2, a3, a4, .int (x + nI 1), a6] st h) ∧
  (∀ (d : Nat) (L st : List Value) (h : fk_H), fk_ev d qX5_onTheWay 87 L st h = fk_ev d qX5_onTheWay 15 L st h) ∧
  (∀ (d : Nat) (a0 a1 a2 a3 a5 a6 : Value) (x : Int32) (st : List Value) (h : fk_H), fk_ev d qX5_onTheWay 90 [a0, a1, a2, a3, .int x, a5, a6] st h = fk_ev d qX5_onTheWay 92 [a0, a1, a2, a3, .int x, a5, a6] (.int x :: st) h) ∧
  (∀ (d : Nat) (L : List Value) (x : Int32) (h : fk_H), fk_ev d qX5_onTheWay 92 L [.int x] h = some (some (.int x), h)) := ⟨fun d a1 a2 a3 a4 a5 a6 x st h => fk_w_aloadn 0 [.ref x, a1, a2, a3, a4, a5, a6] dX5_onTheWay_0 rfl,
  fun d a0 a2 a3 a4 a5 a6 x st h => fk_w_iloadn 1 [a0, .int x, a2, a3, a4, a5, a6] dX5_onTheWay_1 rfl,
  fun d L st h => fk_w_iconst dX5_onTheWay_2 (by decide),
  fun d a0 a1 a3 a4 a5 a6 x st h => fk_w_iloadn 2 [a0, a1, .int x, a3, a4, a5, a6] dX5_onTheWay_3 rfl,
  fun d L x y st h => fk_r_ishl dX5_onTheWay_4,
  fun d L x0 x1 N y l  => fk_g_call [.int x0, .int x1] [] rfl lm_5_57 dX5_onTheWay_5 rfl ⟨rfl, by decide⟩ (by simp) fk_at_18,
  fun d a0 a1 a2 a3 a4 a5 a6 x st h => fk_w_istoren 3 7 [] [a0, a1, a2, a3, a4, a5, a6] [a0, a1, a2, .int x, a4, a5, a6] dX5_onTheWay_8 rfl rfl (by decide) rfl,
  fun d L st h => fk_w_iconst dX5_onTheWay_9 (by decide),
  fun d a0 a1 a2 a3 a4 a5 a6 x st h => fk_w_istore 4 7 [] [a0, a1, a2, a3, a4, a5, a6] [a0, a1, a2, a3, .int x, a5, a6] dX5_onTheWay_10 rfl rfl (by decide) rfl,
  fun d L st h => fk_w_iconst dX5_onTheWay_12 (by decide),
  fun d a0 a1 a2 a3 a4 a5 a6 x st h => fk_w_istore 5 7 [] [a0, a1, a2, a3, a4, a5, a6] [a0, a1, a2, a3, a4, .int x, a6] dX5_onTheWay_13 rfl rfl (by decide) rfl,
  fun d L st h => fk_w_bipush dX5_onTheWay_17 (by decide),
  fun d L x y st h => fk_r_icmp_ge dX5_onTheWay_19 (by decide),
  fun d a0 a1 a2 a4 a5 a6 x st h => fk_w_iloadn 3 [a0, a1, a2, .int x, a4, a5, a6] dX5_onTheWay_22 rfl,
  fun d a0 a1 a2 a3 a4 a6 x st h => fk_w_iload 5 [a0, a1, a2, a3, a4, .int x, a6] dX5_onTheWay_23 rfl,
  fun d L x y st h => fk_r_ishr dX5_onTheWay_25,
  fun d L st h => fk_w_iconst dX5_onTheWay_26 (by decide),
  fun d L x y st h => fk_r_iand dX5_onTheWay_27,
  fun d L x st h => fk_r_if_eq dX5_onTheWay_28 (by decide),
  fun d a1 a2 a3 a4 a5 a6 x st h => fk_w_aloadn 0 [.ref x, a1, a2, a3, a4, a5, a6] dX5_onTheWay_31 rfl,
  fun d a0 a1 a2 a3 a4 a6 x st h => fk_w_iload 5 [a0, a1, a2, a3, a4, .int x, a6] dX5_onTheWay_32 rfl,
  fun d L st h => fk_w_iconst dX5_onTheWay_34 (by decide),
  fun d a0 a2 a3 a4 a5 a6 x st h => fk_w_iloadn 1 [a0, .int x, a2, a3, a4, a5, a6] dX5_onTheWay_35 rfl,
  fun d L x y st h => fk_r_ishl dX5_onTheWay_36,
  fun d L x0 x1 N y l  => fk_g_call [.int x0, .int x1] [] rfl lm_5_57 dX5_onTheWay_37 rfl ⟨rfl, by decide⟩ (by simp) fk_at_18,
  fun d a0 a1 a3 a4 a5 a6 x st h => fk_w_iloadn 2 [a0, a1, .int x, a3, a4, a5, a6] dX5_onTheWay_40 rfl,
  fun d L x y st h => fk_r_ishr dX5_onTheWay_41,
  fun d L st h => fk_w_iconst dX5_onTheWay_42 (by decide),
  fun d L x y st h => fk_r_iand dX5_onTheWay_43,
  fun d L x st h => fk_r_if_eq dX5_onTheWay_44 (by decide),
  fun d L st h => fk_w_iconst dX5_onTheWay_47 (by decide),
  fun d L st h => fk_r_goto dX5_onTheWay_48 (by decide),
  fun d L st h => fk_w_iconst dX5_onTheWay_51 (by decide),
  fun d a0 a1 a2 a3 a4 a5 a6 x st h => fk_w_istore 6 7 [] [a0, a1, a2, a3, a4, a5, a6] [a0, a1, a2, a3, a4, a5, .int x] dX5_onTheWay_52 rfl rfl (by decide) rfl,
  fun d a0 a1 a2 a3 a5 a6 x st h => fk_w_iload 4 [a0, a1, a2, a3, .int x, a5, a6] dX5_onTheWay_54 rfl,
  fun d a0 a1 a2 a3 a4 a5 x st h => fk_w_iload 6 [a0, a1, a2, a3, a4, a5, .int x] dX5_onTheWay_56 rfl,
  fun d L x st h => fk_r_if_eq dX5_onTheWay_58 (by decide),
  fun d a0 a1 a2 a3 a4 a6 x st h => fk_w_iload 5 [a0, a1, a2, a3, a4, .int x, a6] dX5_onTheWay_61 rfl,
  fun d a0 a2 a3 a4 a5 a6 x st h => fk_w_iloadn 1 [a0, .int x, a2, a3, a4, a5, a6] dX5_onTheWay_63 rfl,
  fun d L x y st h => fk_r_icmp_eq dX5_onTheWay_64 (by decide),
  fun d a0 a1 a2 a3 a4 a6 x st h => fk_w_iload 5 [a0, a1, a2, a3, a4, .int x, a6] dX5_onTheWay_67 rfl,
  fun d a0 a1 a3 a4 a5 a6 x st h => fk_w_iloadn 2 [a0, a1, .int x, a3, a4, a5, a6] dX5_onTheWay_69 rfl,
  fun d L x y st h => fk_r_icmp_eq dX5_onTheWay_70 (by decide),
  fun d L st h => fk_w_iconst dX5_onTheWay_73 (by decide),
  fun d a0 a1 a2 a3 a4 a6 x st h => fk_w_iload 5 [a0, a1, a2, a3, a4, .int x, a6] dX5_onTheWay_74 rfl,
  fun d L x y st h => fk_r_ishl dX5_onTheWay_76,
  fun d L st h => fk_r_goto dX5_onTheWay_77 (by decide),
  fun d L st h => fk_w_iconst dX5_onTheWay_80 (by decide),
  fun d L x y st h => fk_r_ior dX5_onTheWay_81,
  fun d a0 a1 a2 a3 a4 a5 a6 x st h => fk_w_istore 4 7 [] [a0, a1, a2, a3, a4, a5, a6] [a0, a1, a2, a3, .int x, a5, a6] dX5_onTheWay_82 rfl rfl (by decide) rfl,
  fun d a0 a1 a2 a3 a4 a6 x st h => fk_w_iinc 5 7 (1) [] [a0, a1, a2, a3, a4, .int x, a6] [a0, a1, a2, a3, a4, .int (x + nI 1), a6] dX5_onTheWay_84 rfl rfl rfl (by decide) rfl,
  fun d L st h => fk_r_goto dX5_onTheWay_87 (by decide),
  fun d a0 a1 a2 a3 a5 a6 x st h => fk_w_iload 4 [a0, a1, a2, a3, .int x, a5, a6] dX5_onTheWay_90 rfl,
  fun d L x h => fk_r_ret dX5_onTheWay_92 (Or.inl rfl)⟩
theorem hX5_onTheWay_15 : ∀ (d : Nat) (a0 a1 a2 a3 a4 a6 : Value) (x : Int32) (st : List Value) (h : fk_H), fk_ev d qX5_onTheWay 15 [a0, a1, a2, a3, a4, .int x, a6] st h = fk_ev d qX5_onTheWay 17 [a0, a1, a2, a3, a4, .int x, a6] (.int x :: st) h := fun d a0 a1 a2 a3 a4 a6 x st h => fk_w_iload 5 [a0, a1, a2, a3, a4, .int x, a6] dX5_onTheWay_15 rfl
theorem dX5_forkPlaces_0 : decode cX5_forkPlaces 0 = .ok (.iconst 0, 1) := by decide +kernel
theorem dX5_forkPlaces_1 : decode cX5_forkPlaces 1 = .ok (.istore_n 1, 1) := by decide +kernel
theorem dX5_forkPlaces_2 : decode cX5_forkPlaces 2 = .ok (.iconst 0, 1) := by decide +kernel
theorem dX5_forkPlaces_3 : decode cX5_forkPlaces 3 = .ok (.istore_n 2, 1) := by decide +kernel
theorem dX5_forkPlaces_4 : decode cX5_forkPlaces 4 = .ok (.iload_n 2, 1) := by decide +kernel
theorem dX5_forkPlaces_5 : decode cX5_forkPlaces 5 = .ok (.bipush 16, 2) := by decide +kernel
theorem dX5_forkPlaces_7 : decode cX5_forkPlaces 7 = .ok (.if_icmp .ge 70, 3) := by decide +kernel
theorem dX5_forkPlaces_10 : decode cX5_forkPlaces 10 = .ok (.iload_n 1, 1) := by decide +kernel
theorem dX5_forkPlaces_11 : decode cX5_forkPlaces 11 = .ok (.invokestatic 65, 3) := by decide +kernel
theorem dX5_forkPlaces_14 : decode cX5_forkPlaces 14 = .ok (.bipush 8, 2) := by decide +kernel
theorem dX5_forkPlaces_16 : decode cX5_forkPlaces 16 = .ok (.if_icmp .ge 61, 3) := by decide +kernel
theorem dX5_forkPlaces_19 : decode cX5_forkPlaces 19 = .ok (.iconst 0, 1) := by decide +kernel
theorem dX5_forkPlaces_20 : decode cX5_forkPlaces 20 = .ok (.istore_n 3, 1) := by decide +kernel
theorem dX5_forkPlaces_21 : decode cX5_forkPlaces 21 = .ok (.iconst 0, 1) := by decide +kernel
theorem dX5_forkPlaces_22 : decode cX5_forkPlaces 22 = .ok (.istore 4, 2) := by decide +kernel
theorem dX5_forkPlaces_24 : decode cX5_forkPlaces 24 = .ok (.iload 4, 2) := by decide +kernel
theorem dX5_forkPlaces_26 : decode cX5_forkPlaces 26 = .ok (.bipush 32, 2) := by decide +kernel
theorem dX5_forkPlaces_28 : decode cX5_forkPlaces 28 = .ok (.if_icmp .ge 28, 3) := by decide +kernel
theorem dX5_forkPlaces_31 : decode cX5_forkPlaces 31 = .ok (.iload_n 3, 1) := by decide +kernel
theorem dX5_forkPlaces_32 : decode cX5_forkPlaces 32 = .ok (.aload_n 0, 1) := by decide +kernel
theorem dX5_forkPlaces_33 : decode cX5_forkPlaces 33 = .ok (.getfield 9, 3) := by decide +kernel
theorem dX5_forkPlaces_36 : decode cX5_forkPlaces 36 = .ok (.iload 4, 2) := by decide +kernel
theorem dX5_forkPlaces_38 : decode cX5_forkPlaces 38 = .ok (.iaload, 1) := by decide +kernel
theorem dX5_forkPlaces_39 : decode cX5_forkPlaces 39 = .ok (.iload_n 2, 1) := by decide +kernel
theorem dX5_forkPlaces_40 : decode cX5_forkPlaces 40 = .ok (.if_icmp .ne 7, 3) := by decide +kernel
theorem dX5_forkPlaces_43 : decode cX5_forkPlaces 43 = .ok (.iconst 1, 1) := by decide +kernel
theorem dX5_forkPlaces_44 : decode cX5_forkPlaces 44 = .ok (.goto 4, 3) := by decide +kernel
theorem dX5_forkPlaces_47 : decode cX5_forkPlaces 47 = .ok (.iconst 0, 1) := by decide +kernel
theorem dX5_forkPlaces_48 : decode cX5_forkPlaces 48 = .ok (.iadd, 1) := by decide +kernel
theorem dX5_forkPlaces_49 : decode cX5_forkPlaces 49 = .ok (.istore_n 3, 1) := by decide +kernel
theorem dX5_forkPlaces_50 : decode cX5_forkPlaces 50 = .ok (.iinc 4 1, 3) := by decide +kernel
theorem dX5_forkPlaces_53 : decode cX5_forkPlaces 53 = .ok (.goto (-29), 3) := by decide +kernel
theorem dX5_forkPlaces_56 : decode cX5_forkPlaces 56 = .ok (.iload_n 1, 1) := by decide +kernel
theorem dX5_forkPlaces_57 : decode cX5_forkPlaces 57 = .ok (.iload_n 3, 1) := by decide +kernel
theorem dX5_forkPlaces_58 : decode cX5_forkPlaces 58 = .ok (.iconst 2, 1) := by decide +kernel
theorem dX5_forkPlaces_59 : decode cX5_forkPlaces 59 = .ok (.if_icmp .lt 9, 3) := by decide +kernel
theorem dX5_forkPlaces_62 : decode cX5_forkPlaces 62 = .ok (.iconst 1, 1) := by decide +kernel
theorem dX5_forkPlaces_63 : decode cX5_forkPlaces 63 = .ok (.iload_n 2, 1) := by decide +kernel
theorem dX5_forkPlaces_64 : decode cX5_forkPlaces 64 = .ok (.ishl, 1) := by decide +kernel
theorem dX5_forkPlaces_65 : decode cX5_forkPlaces 65 = .ok (.goto 4, 3) := by decide +kernel
theorem dX5_forkPlaces_68 : decode cX5_forkPlaces 68 = .ok (.iconst 0, 1) := by decide +kernel
theorem dX5_forkPlaces_69 : decode cX5_forkPlaces 69 = .ok (.ior, 1) := by decide +kernel
theorem dX5_forkPlaces_70 : decode cX5_forkPlaces 70 = .ok (.istore_n 1, 1) := by decide +kernel
theorem dX5_forkPlaces_71 : decode cX5_forkPlaces 71 = .ok (.iinc 2 1, 3) := by decide +kernel
theorem dX5_forkPlaces_74 : decode cX5_forkPlaces 74 = .ok (.goto (-70), 3) := by decide +kernel
theorem dX5_forkPlaces_77 : decode cX5_forkPlaces 77 = .ok (.iload_n 1, 1) := by decide +kernel
theorem dX5_forkPlaces_78 : decode cX5_forkPlaces 78 = .ok (.ireturn, 1) := by decide +kernel
theorem rX5_forkPlaces : (∀ (d : Nat) (L st : List Value) (h : fk_H), fk_ev d qX5_forkPlaces 0 L st h = fk_ev d qX5_forkPlaces 1 L (.int (nI 0) :: st) h) ∧
  (∀ (d : Nat) (a0 a1 a2 a3 a4 : Value) (x : Int32) (st : List Value) (h : fk_H), fk_ev d qX5_forkPlaces 1 [a0, a1, a2, a3, a4] (.int x :: st) h = fk_ev d qX5_forkPlaces 2 [a0, .int x, a2, a3, a4] st h) ∧
  (∀ (d : Nat) (L st : List Value) (h : fk_H), fk_ev d qX5_forkPlaces 2 L st h = fk_ev d qX5_forkPlaces 3 L (.int (nI 0) :: st) h) ∧
  (∀ (d : Nat) (a0 a1 a2 a3 a4 : Value) (x : Int32) (st : List Value) (h : fk_H), fk_ev d qX5_forkPlaces 3 [a0, a1, a2, a3, a4] (.int x :: st) h = fk_ev d qX5_forkPlaces 4 [a0, a1, .int x, a3, a4] st h) ∧
  (∀ (d : Nat) (L st : List Value) (h : fk_H), fk_ev d qX5_forkPlaces 5 L st h = fk_ev d qX5_forkPlaces 7 L (.int (nI 16) :: st) h) ∧
  (∀ (d : Nat) (L : List Value) (x y : Int32) (st : List Value) (h : fk_H), fk_ev d qX5_forkPlaces 7 L (.int y :: .int x :: st) h = if y ≤ x then fk_ev d qX5_forkPlaces 77 L st h else fk_ev d qX5_forkPlaces 10 L st h) ∧
  (∀ (d : Nat) (a0 a2 a3 a4 : Value) (x : Int32) (st : List Value) (h : fk_H), fk_ev d qX5_forkPlaces 10 [a0, .int x, a2, a3, a4] st h = fk_ev d qX5_forkPlaces 11 [a0, .int x, a2, a3, a4] (.int x :: st) h) ∧
  (∀ (d : Nat) (L : List Value) (x0 : Int32)  (h : fk_H), fk_ev (d + 1) qX5_forkPlaces 11 L (.int x0 :: []) h = (fk_ev d qJ6_bitCount_0f7a4 0 [.int x0] [] h).bind fun o => fk_ev (d + 1) qX5_forkPlaces 14 L (o.1.toList ++ []) o.2) ∧
  (∀ (d : Nat) (L st : List Value) (h : fk_H), fk_ev d qX5_forkPlaces 14 L st h = fk_ev d qX5_forkPlaces 16 L (.int (nI 8) :: st) h) ∧
  (∀ (d : Nat) (L : List Value) (x y : Int32) (st : List Value) (h : fk_H), fk_ev d qX5_forkPlaces 16 L (.int y :: .int x :: st) h = if y ≤ x then fk_ev d qX5_forkPlaces 77 L st h else fk_ev d qX5_forkPlaces 19 L st h) ∧
  (∀ (d : Nat) (L st : List Value) (h : fk_H), fk_ev d qX5_forkPlaces 19 L st h = fk_ev d qX5_forkPlaces 20 L (.int (nI 0) :: st) h) ∧
  (∀ (d : Nat) (a0 a1 a2 a3 a4 : Value) (x : Int32) (st : List Value) (h : fk_H), fk_ev d qX5_forkPlaces 20 [a0, a1, a2, a3, a4] (.int x :: st) h = fk_ev d qX5_forkPlaces 21 [a0, a1, a2, .int x, a4] st h) ∧
  (∀ (d : Nat) (L st : List Value) (h : fk_H), fk_ev d qX5_forkPlaces 21 L st h = fk_ev d qX5_forkPlaces 22 L (.int (nI 0) :: st) h) ∧
  (∀ (d : Nat) (a0 a1 a2 a3 a4 : Value) (x : Int32) (st : List Value) (h : fk_H), fk_ev d qX5_forkPlaces 22 [a0, a1, a2, a3, a4] (.int x :: st) h = fk_ev d qX5_forkPlaces 24 [a0, a1, a2, a3, .int x] st h) ∧
  (∀ (d : Nat) (L st : List Value) (h : fk_H), fk_ev d qX5_forkPlaces 26 L st h = fk_ev d qX5_forkPlaces 28 L (.int (nI 32) :: st) h) ∧
  (∀ (d : Nat) (L : List Value) (x y : Int32) (st : List Value) (h : fk_H), fk_ev d qX5_forkPlaces 28 L (.int y :: .int x :: st) h = if y ≤ x then fk_ev d qX5_forkPlaces 56 L st h else fk_ev d qX5_forkPlaces 31 L st h) ∧
  (∀ (d : Nat) (a0 a1 a2 a4 : Value) (x : Int32) (st : List Value) (h : fk_H), fk_ev d qX5_forkPlaces 31 [a0, a1, a2, .int x, a4] st h = fk_ev d qX5_forkPlaces 32 [a0, a1, a2, .int x, a4] (.int x :: st) h) ∧
  (∀ (d : Nat) (a1 a2 a3 a4 : Value) (x : Nat) (st : List Value) (h : fk_H), fk_ev d qX5_forkPlaces 32 [.ref x, a1, a2, a3, a4] st h = fk_ev d qX5_forkPlaces 33 [.ref x, a1, a2, a3, a4] (.ref x :: st) h) ∧
  (∀ (d : Nat) (L st : List Value) (N : Nat) (y : Nat → Nat → Int32) (l : Nat → Nat → Int64), fk_ev d qX5_forkPlaces 33 L (.ref 18 :: st) (fk_E N y l) = fk_ev d qX5_forkPlaces 36 L (.ref 19 :: st) (fk_E N y l)) ∧
  (∀ (d : Nat) (a0 a1 a2 a3 : Value) (x : Int32) (st : List Value) (h : fk_H), fk_ev d qX5_forkPlaces 36 [a0, a1, a2, a3, .int x] st h = fk_ev d qX5_forkPlaces 38 [a0, a1, a2, a3, .int x] (.int x :: st) h) ∧
  (∀ (d : Nat) (L st : List Value) (N : Nat) (y : Nat → Nat → Int32) (l : Nat → Nat → Int64) (i : Nat), i < 32 → fk_ev d qX5_forkPlaces 38 L (.int (nI i) :: .ref 19 :: st) (fk_E N y l) = fk_ev d qX5_forkPlaces 39 L (.int (y 19 i) :: st) (fk_E N y l)) ∧
  (∀ (d : Nat) (a0 a1 a3 a4 : Value) (x : Int32) (st : List Value) (h : fk_H), fk_ev d qX5_forkPlaces 39 [a0, a1, .int x, a3, a4] st h = fk_ev d qX5_forkPlaces 40 [a0, a1, .int x, a3, a4] (.int x :: st) h) ∧
  (∀ (d : Nat) (L : List Value) (x y : Int32) (st : List Value) (h : fk_H), fk_ev d qX5_forkPlaces 40 L (.int y :: .int x :: st) h = if ¬ x = y then fk_ev d qX5_forkPlaces 47 L st h else fk_ev d qX5_forkPlaces 43 L st h) ∧
  (∀ (d : Nat) (L st : List Value) (h : fk_H), fk_ev d qX5_forkPlaces 43 L st h = fk_ev d qX5_forkPlaces 44 L (.int (nI 1) :: st) h) ∧
  (∀ (d : Nat) (L st : List Value) (h : fk_H), fk_ev d qX5_forkPlaces 44 L st h = fk_ev d qX5_forkPlaces 48 L st h) ∧
  (∀ (d : Nat) (L st : List Value) (h : fk_H), fk_ev d qX5_forkPlaces 47 L st h = fk_ev d qX5_forkPlaces 48 L (.int (nI 0) :: st) h) ∧
  (∀ (d : Nat) (L : List Value) (x y : Int32) (st : List Value) (h : fk_H), fk_ev d qX5_forkPlaces 48 L (.int y :: .int x :: st) h = fk_ev d qX5_forkPlaces 49 L (.int (x + y) :: st) h) ∧
  (∀ (d : Nat) (a0 a1 a2 a3 a4 : Value) (x : Int32) (st : List Value) (h : fk_H), fk_ev d qX5_forkPlaces 49 [a0, a1, a2, a3, a4] (.int x :: st) h = fk_ev d qX5_forkPlaces 50 [a0, a1, a2, .int x, a4] st h) ∧
  (∀ (d : Nat) (a0 a1 a2 a3 : Value) (x : Int32) (st : List Value) (h : fk_H), fk_ev d qX5_forkPlaces 50 [a0, a1, a2, a3, .int x] st h = fk_ev d qX5_forkPlaces 53 [a0, a1, a2, a3, .int (x + nI 1)] st h) ∧
  (∀ (d : Nat) (L st : List Value) (h : fk_H), fk_ev d qX5_forkPlaces 53 L st h = fk_ev d qX5_forkPlaces 24 L st h) ∧
  (∀ (d : Nat) (a0 a2 a3 a4 : Value) (x : Int32) (st : List Value) (h : fk_H), fk_ev d qX5_forkPlaces 56 [a0, .int x, a2, a3, a4] st h = fk_ev d qX5_forkPlaces 57 [a0, .int x, a2, a3, a4] (.int x :: st) h) ∧
  (∀ (d : Nat) (a0 a1 a2 a4 : Value) (x : Int32) (st : List Value) (h : fk_H), fk_ev d qX5_forkPlaces 57 [a0, a1, a2, .int x, a4] st h = fk_ev d qX5_forkPlaces 58 [a0, a1, a2, .int x, a4] (.int x :: st) h) ∧
  (∀ (d : Nat) (L st : List Value) (h : fk_H), fk_ev d qX5_forkPlaces 58 L st h = fk_ev d qX5_forkPlaces 59 L (.int (nI 2) :: st) h) ∧
  (∀ (d : Nat) (L : List Value) (x y : Int32) (st : List Value) (h : fk_H), fk_ev d qX5_forkPlaces 59 L (.int y :: .int x :: st) h = if x < y then fk_ev d qX5_forkPlaces 68 L st h else fk_ev d qX5_forkPlaces 62 L st h) ∧
  (∀ (d : Nat) (L st : List Value) (h : fk_H), fk_ev d qX5_forkPlaces 62 L st h = fk_ev d qX5_forkPlaces 63 L (.int (nI 1) :: st) h) ∧
  (∀ (d : Nat) (a0 a1 a3 a4 : Value) (x : Int32) (st : List Value) (h : fk_H), fk_ev d qX5_forkPlaces 63 [a0, a1, .int x, a3, a4] st h = fk_ev d qX5_forkPlaces 64 [a0, a1, .int x, a3, a4] (.int x :: st) h) ∧
  (∀ (d : Nat) (L : List Value) (x y : Int32) (st : List Value) (h : fk_H), fk_ev d qX5_forkPlaces 64 L (.int y :: .int x :: st) h = fk_ev d qX5_forkPlaces 65 L (.int (x <<< (y &&& 31)) :: st) h) ∧
  (∀ (d : Nat) (L st : List Value) (h : fk_H), fk_ev d qX5_forkPlaces 65 L st h = fk_ev d qX5_forkPlaces 69 L st h) ∧
  (∀ (d : Nat) (L st : List Value) (h : fk_H), fk_ev d qX5_forkPlaces 68 L st h = fk_ev d qX5_forkPlaces 69 L (.int (nI 0) :: st) h) ∧
  (∀ (d : Nat) (L : List Value) (x y : Int32) (st : List Value) (h : fk_H), fk_ev d qX5_forkPlaces 69 L (.int y :: .int x :: st) h = fk_ev d qX5_forkPlaces 70 L (.int (x ||| y) :: st) h) ∧
  (∀ (d : Nat) (a0 a1 a2 a3 a4 : Value) (x : Int32) (st : List Value) (h : fk_H), fk_ev d qX5_forkPlaces 70 [a0, a1, a2, a3, a4] (.int x :: st) h = fk_ev d qX5_forkPlaces 71 [a0, .int x, a2, a3, a4] st h) ∧
  (∀ (d : Nat) (a0 a1 a3 a4 : Value) (x : Int32) (st : List Value) (h : fk_H), fk_ev d qX5_forkPlaces 71 [a0, a1, .int x, a3, a4] st h = fk_ev d qX5_forkPlaces 74 [a0, a1, .int (x + nI 1), a3, a4] st h) ∧
  (∀ (d : Nat) (L st : List Value) (h : fk_H), fk_ev d qX5_forkPlaces 74 L st h = fk_ev d qX5_forkPlaces 4 L st h) ∧
  (∀ (d : Nat) (a0 a2 a3 a4 : Value) (x : Int32) (st : List Value) (h : fk_H), fk_ev d qX5_forkPlaces 77 [a0, .int x, a2, a3, a4] st h = fk_ev d qX5_forkPlaces 78 [a0, .int x, a2, a3, a4] (.int x :: st) h) ∧
  (∀ (d : Nat) (L : List Value) (x : Int32) (h : fk_H), fk_ev d qX5_forkPlaces 78 L [.int x] h = some (some (.int x), h)) := ⟨fun d L st h => fk_w_iconst dX5_forkPlaces_0 (by decide),
  fun d a0 a1 a2 a3 a4 x st h => fk_w_istoren 1 5 [] [a0, a1, a2, a3, a4] [a0, .int x, a2, a3, a4] dX5_forkPlaces_1 rfl rfl (by decide) rfl,
  fun d L st h => fk_w_iconst dX5_forkPlaces_2 (by decide),
  fun d a0 a1 a2 a3 a4 x st h => fk_w_istoren 2 5 [] [a0, a1, a2, a3, a4] [a0, a1, .int x, a3, a4] dX5_forkPlaces_3 rfl rfl (by decide) rfl,
  fun d L st h => fk_w_bipush dX5_forkPlaces_5 (by decide),
  fun d L x y st h => fk_r_icmp_ge dX5_forkPlaces_7 (by decide),
  fun d a0 a2 a3 a4 x st h => fk_w_iloadn 1 [a0, .int x, a2, a3, a4] dX5_forkPlaces_10 rfl,
  fun d L x0 h => fk_g_calls [.int x0] [] rfl lm_5_65 dX5_forkPlaces_11 rfl ⟨rfl, by decide⟩ (by simp),
  fun d L st h => fk_w_bipush dX5_forkPlaces_14 (by decide),
  fun d L x y st h => fk_r_icmp_ge dX5_forkPlaces_16 (by decide),
  fun d L st h => fk_w_iconst dX5_forkPlaces_19 (by decide),
  fun d a0 a1 a2 a3 a4 x st h => fk_w_istoren 3 5 [] [a0, a1, a2, a3, a4] [a0, a1, a2, .int x, a4] dX5_forkPlaces_20 rfl rfl (by decide) rfl,
  fun d L st h => fk_w_iconst dX5_forkPlaces_21 (by decide),
  fun d a0 a1 a2 a3 a4 x st h => fk_w_istore 4 5 [] [a0, a1, a2, a3, a4] [a0, a1, a2, a3, .int x] dX5_forkPlaces_22 rfl rfl (by decide) rfl,
  fun d L st h => fk_w_bipush dX5_forkPlaces_26 (by decide),
  fun d L x y st h => fk_r_icmp_ge dX5_forkPlaces_28 (by decide),
  fun d a0 a1 a2 a4 x st h => fk_w_iloadn 3 [a0, a1, a2, .int x, a4] dX5_forkPlaces_31 rfl,
  fun d a1 a2 a3 a4 x st h => fk_w_aloadn 0 [.ref x, a1, a2, a3, a4] dX5_forkPlaces_32 rfl,
  fun d L st N y l => fk_g_getC rfl lf_5_9 (by decide) rfl dX5_forkPlaces_33 fk_at_18,
  fun d a0 a1 a2 a3 x st h => fk_w_iload 4 [a0, a1, a2, a3, .int x] dX5_forkPlaces_36 rfl,
  fun d L st N y l i hi => fk_g_iald fk_at_19 fk_ln_19 (by decide) dX5_forkPlaces_38 hi,
  fun d a0 a1 a3 a4 x st h => fk_w_iloadn 2 [a0, a1, .int x, a3, a4] dX5_forkPlaces_39 rfl,
  fun d L x y st h => fk_r_icmp_ne dX5_forkPlaces_40 (by decide),
  fun d L st h => fk_w_iconst dX5_forkPlaces_43 (by decide),
  fun d L st h => fk_r_goto dX5_forkPlaces_44 (by decide),
  fun d L st h => fk_w_iconst dX5_forkPlaces_47 (by decide),
  fun d L x y st h => fk_r_iadd dX5_forkPlaces_48,
  fun d a0 a1 a2 a3 a4 x st h => fk_w_istoren 3 5 [] [a0, a1, a2, a3, a4] [a0, a1, a2, .int x, a4] dX5_forkPlaces_49 rfl rfl (by decide) rfl,
  fun d a0 a1 a2 a3 x st h => fk_w_iinc 4 5 (1) [] [a0, a1, a2, a3, .int x] [a0, a1, a2, a3, .int (x + nI 1)] dX5_forkPlaces_50 rfl rfl rfl (by decide) rfl,
  fun d L st h => fk_r_goto dX5_forkPlaces_53 (by decide),
  fun d a0 a2 a3 a4 x st h => fk_w_iloadn 1 [a0, .int x, a2, a3, a4] dX5_forkPlaces_56 rfl,
  fun d a0 a1 a2 a4 x st h => fk_w_iloadn 3 [a0, a1, a2, .int x, a4] dX5_forkPlaces_57 rfl,
  fun d L st h => fk_w_iconst dX5_forkPlaces_58 (by decide),
  fun d L x y st h => fk_r_icmp_lt dX5_forkPlaces_59 (by decide),
  fun d L st h => fk_w_iconst dX5_forkPlaces_62 (by decide),
  fun d a0 a1 a3 a4 x st h => fk_w_iloadn 2 [a0, a1, .int x, a3, a4] dX5_forkPlaces_63 rfl,
  fun d L x y st h => fk_r_ishl dX5_forkPlaces_64,
  fun d L st h => fk_r_goto dX5_forkPlaces_65 (by decide),
  fun d L st h => fk_w_iconst dX5_forkPlaces_68 (by decide),
  fun d L x y st h => fk_r_ior dX5_forkPlaces_69,
  fun d a0 a1 a2 a3 a4 x st h => fk_w_istoren 1 5 [] [a0, a1, a2, a3, a4] [a0, .int x, a2, a3, a4] dX5_forkPlaces_70 rfl rfl (by decide) rfl,
  fun d a0 a1 a3 a4 x st h => fk_w_iinc 2 5 (1) [] [a0, a1, .int x, a3, a4] [a0, a1, .int (x + nI 1), a3, a4] dX5_forkPlaces_71 rfl rfl rfl (by decide) rfl,
  fun d L st h => fk_r_goto dX5_forkPlaces_74 (by decide),
  fun d a0 a2 a3 a4 x st h => fk_w_iloadn 1 [a0, .int x, a2, a3, a4] dX5_forkPlaces_77 rfl,
  fun d L x h => fk_r_ret dX5_forkPlaces_78 (Or.inl rfl)⟩
theorem hX5_forkPlaces_4 : ∀ (d : Nat) (a0 a1 a3 a4 : Value) (x : Int32) (st : List Value) (h : fk_H), fk_ev d qX5_forkPlaces 4 [a0, a1, .int x, a3, a4] st h = fk_ev d qX5_forkPlaces 5 [a0, a1, .int x, a3, a4] (.int x :: st) h := fun d a0 a1 a3 a4 x st h => fk_w_iloadn 2 [a0, a1, .int x, a3, a4] dX5_forkPlaces_4 rfl
theorem hX5_forkPlaces_24 : ∀ (d : Nat) (a0 a1 a2 a3 : Value) (x : Int32) (st : List Value) (h : fk_H), fk_ev d qX5_forkPlaces 24 [a0, a1, a2, a3, .int x] st h = fk_ev d qX5_forkPlaces 26 [a0, a1, a2, a3, .int x] (.int x :: st) h := fun d a0 a1 a2 a3 x st h => fk_w_iload 4 [a0, a1, a2, a3, .int x] dX5_forkPlaces_24 rfl
theorem dX5_forked_0 : decode cX5_forked 0 = .ok (.iload_n 1, 1) := by decide +kernel
theorem dX5_forked_1 : decode cX5_forked 1 = .ok (.bipush 16, 2) := by decide +kernel
theorem dX5_forked_3 : decode cX5_forked 3 = .ok (.invokestatic 44, 3) := by decide +kernel
theorem dX5_forked_6 : decode cX5_forked 6 = .ok (.ifCond .eq 12, 3) := by decide +kernel
theorem dX5_forked_9 : decode cX5_forked 9 = .ok (.iload_n 2, 1) := by decide +kernel
theorem dX5_forked_10 : decode cX5_forked 10 = .ok (.bipush 61, 2) := by decide +kernel
theorem dX5_forked_12 : decode cX5_forked 12 = .ok (.invokestatic 44, 3) := by decide +kernel
theorem dX5_forked_15 : decode cX5_forked 15 = .ok (.ifCond .ne 7, 3) := by decide +kernel
theorem dX5_forked_18 : decode cX5_forked 18 = .ok (.ldc2_w 71, 3) := by decide +kernel
theorem dX5_forked_21 : decode cX5_forked 21 = .ok (.lreturn, 1) := by decide +kernel
theorem dX5_forked_22 : decode cX5_forked 22 = .ok (.iconst 0, 1) := by decide +kernel
theorem dX5_forked_23 : decode cX5_forked 23 = .ok (.istore_n 3, 1) := by decide +kernel
theorem dX5_forked_24 : decode cX5_forked 24 = .ok (.iload_n 3, 1) := by decide +kernel
theorem dX5_forked_25 : decode cX5_forked 25 = .ok (.iload_n 2, 1) := by decide +kernel
theorem dX5_forked_26 : decode cX5_forked 26 = .ok (.if_icmp .gt 62, 3) := by decide +kernel
theorem dX5_forked_29 : decode cX5_forked 29 = .ok (.iconst 0, 1) := by decide +kernel
theorem dX5_forked_30 : decode cX5_forked 30 = .ok (.istore 4, 2) := by decide +kernel
theorem dX5_forked_32 : decode cX5_forked 32 = .ok (.iload 4, 2) := by decide +kernel
theorem dX5_forked_34 : decode cX5_forked 34 = .ok (.bipush 16, 2) := by decide +kernel
theorem dX5_forked_36 : decode cX5_forked 36 = .ok (.if_icmp .ge 46, 3) := by decide +kernel
theorem dX5_forked_39 : decode cX5_forked 39 = .ok (.aload_n 0, 1) := by decide +kernel
theorem dX5_forked_40 : decode cX5_forked 40 = .ok (.getfield 30, 3) := by decide +kernel
theorem dX5_forked_43 : decode cX5_forked 43 = .ok (.iload_n 3, 1) := by decide +kernel
theorem dX5_forked_44 : decode cX5_forked 44 = .ok (.bipush 16, 2) := by decide +kernel
theorem dX5_forked_46 : decode cX5_forked 46 = .ok (.imul, 1) := by decide +kernel
theorem dX5_forked_47 : decode cX5_forked 47 = .ok (.iload 4, 2) := by decide +kernel
theorem dX5_forked_49 : decode cX5_forked 49 = .ok (.iadd, 1) := by decide +kernel
theorem dX5_forked_50 : decode cX5_forked 50 = .ok (.iload_n 3, 1) := by decide +kernel
theorem dX5_forked_51 : decode cX5_forked 51 = .ok (.ifCond .eq 13, 3) := by decide +kernel
theorem dX5_forked_54 : decode cX5_forked 54 = .ok (.aload_n 0, 1) := by decide +kernel
theorem dX5_forked_55 : decode cX5_forked 55 = .ok (.getfield 27, 3) := by decide +kernel
theorem dX5_forked_58 : decode cX5_forked 58 = .ok (.iload 4, 2) := by decide +kernel
theorem dX5_forked_60 : decode cX5_forked 60 = .ok (.iaload, 1) := by decide +kernel
theorem dX5_forked_61 : decode cX5_forked 61 = .ok (.ifCond .ne 7, 3) := by decide +kernel
theorem dX5_forked_64 : decode cX5_forked 64 = .ok (.lconst 1, 1) := by decide +kernel
theorem dX5_forked_65 : decode cX5_forked 65 = .ok (.goto 10, 3) := by decide +kernel
theorem dX5_forked_68 : decode cX5_forked 68 = .ok (.aload_n 0, 1) := by decide +kernel
theorem dX5_forked_69 : decode cX5_forked 69 = .ok (.iload 4, 2) := by decide +kernel
theorem dX5_forked_71 : decode cX5_forked 71 = .ok (.iload_n 3, 1) := by decide +kernel
theorem dX5_forked_72 : decode cX5_forked 72 = .ok (.invokevirtual 73, 3) := by decide +kernel
theorem dX5_forked_75 : decode cX5_forked 75 = .ok (.lastore, 1) := by decide +kernel
theorem dX5_forked_76 : decode cX5_forked 76 = .ok (.iinc 4 1, 3) := by decide +kernel
theorem dX5_forked_79 : decode cX5_forked 79 = .ok (.goto (-47), 3) := by decide +kernel
theorem dX5_forked_82 : decode cX5_forked 82 = .ok (.iinc 3 1, 3) := by decide +kernel
theorem dX5_forked_85 : decode cX5_forked 85 = .ok (.goto (-61), 3) := by decide +kernel
theorem dX5_forked_88 : decode cX5_forked 88 = .ok (.aload_n 0, 1) := by decide +kernel
theorem dX5_forked_89 : decode cX5_forked 89 = .ok (.getfield 30, 3) := by decide +kernel
theorem dX5_forked_92 : decode cX5_forked 92 = .ok (.iload_n 2, 1) := by decide +kernel
theorem dX5_forked_93 : decode cX5_forked 93 = .ok (.bipush 16, 2) := by decide +kernel
theorem dX5_forked_95 : decode cX5_forked 95 = .ok (.imul, 1) := by decide +kernel
theorem dX5_forked_96 : decode cX5_forked 96 = .ok (.iload_n 1, 1) := by decide +kernel
theorem dX5_forked_97 : decode cX5_forked 97 = .ok (.iadd, 1) := by decide +kernel
theorem dX5_forked_98 : decode cX5_forked 98 = .ok (.laload, 1) := by decide +kernel
theorem dX5_forked_99 : decode cX5_forked 99 = .ok (.lreturn, 1) := by decide +kernel
theorem rX5_forked : (∀ (d : Nat) (a0 a2 a3 a4 : Value) (x : Int32) (st : List Value) (h : fk_H), fk_ev d qX5_forked 0 [a0, .int x, a2, a3, a4] st h = fk_ev d qX5_forked 1 [a0, .int x, a2, a3, a4] (.int x :: st) h) ∧
  (∀ (d : Nat) (L st : List Value) (h : fk_H), fk_ev d qX5_forked 1 L st h = fk_ev d qX5_forked 3 L (.int (nI 16) :: st) h) ∧
  (∀ (d : Nat) (L : List Value) (x0 : Int32) (x1 : Int32)  (h : fk_H), fk_ev (d + 1) qX5_forked 3 L (.int x1 :: .int x0 :: []) h = (fk_ev d qX11_within 0 [.int x0, .int x1] [] h).bind fun o => fk_ev (d + 1) qX5_forked 6 L (o.1.toList ++ []) o.2) ∧
  (∀ (d : Nat) (L : List Value) (x : Int32) (st : List Value) (h : fk_H), fk_ev d qX5_forked 6 L (.int x :: st) h = if x = nI 0 then fk_ev d qX5_forked 18 L st h else fk_ev d qX5_forked 9 L st h) ∧
  (∀ (d : Nat) (a0 a1 a3 a4 : Value) (x : Int32) (st : List Value) (h : fk_H), fk_ev d qX5_forked 9 [a0, a1, .int x, a3, a4] st h = fk_ev d qX5_forked 10 [a0, a1, .int x, a3, a4] (.int x :: st) h) ∧
  (∀ (d : Nat) (L st : List Value) (h : fk_H), fk_ev d qX5_forked 10 L st h = fk_ev d qX5_forked 12 L (.int (nI 61) :: st) h) ∧
  (∀ (d : Nat) (L : List Value) (x0 : Int32) (x1 : Int32)  (h : fk_H), fk_ev (d + 1) qX5_forked 12 L (.int x1 :: .int x0 :: []) h = (fk_ev d qX11_within 0 [.int x0, .int x1] [] h).bind fun o => fk_ev (d + 1) qX5_forked 15 L (o.1.toList ++ []) o.2) ∧
  (∀ (d : Nat) (L : List Value) (x : Int32) (st : List Value) (h : fk_H), fk_ev d qX5_forked 15 L (.int x :: st) h = if ¬ x = nI 0 then fk_ev d qX5_forked 22 L st h else fk_ev d qX5_forked 18 L st h) ∧
  (∀ (d : Nat) (L st : List Value) (h : fk_H), fk_ev d qX5_forked 18 L st h = fk_ev d qX5_forked 21 L (.long (-1) :: st) h) ∧
  (∀ (d : Nat) (L : List Value) (x : Int64) (h : fk_H), fk_ev d qX5_forked 21 L [.long x] h = some (some (.long x), h)) ∧
  (∀ (d : Nat) (L st : List Value) (h : fk_H), fk_ev d qX5_forked 22 L st h = fk_ev d qX5_forked 23 L (.int (nI 0) :: st) h) ∧
  (∀ (d : Nat) (a0 a1 a2 a3 a4 : Value) (x : Int32) (st : List Value) (h : fk_H), fk_ev d qX5_forked 23 [a0, a1, a2, a3, a4] (.int x :: st) h = fk_ev d qX5_forked 24 [a0, a1, a2, .int x, a4] st h) ∧
  (∀ (d : Nat) (a0 a1 a3 a4 : Value) (x : Int32) (st : List Value) (h : fk_H), fk_ev d qX5_forked 25 [a0, a1, .int x, a3, a4] st h = fk_ev d qX5_forked 26 [a0, a1, .int x, a3, a4] (.int x :: st) h) ∧
  (∀ (d : Nat) (L : List Value) (x y : Int32) (st : List Value) (h : fk_H), fk_ev d qX5_forked 26 L (.int y :: .int x :: st) h = if y < x then fk_ev d qX5_forked 88 L st h else fk_ev d qX5_forked 29 L st h) ∧
  (∀ (d : Nat) (L st : List Value) (h : fk_H), fk_ev d qX5_forked 29 L st h = fk_ev d qX5_forked 30 L (.int (nI 0) :: st) h) ∧
  (∀ (d : Nat) (a0 a1 a2 a3 a4 : Value) (x : Int32) (st : List Value) (h : fk_H), fk_ev d qX5_forked 30 [a0, a1, a2, a3, a4] (.int x :: st) h = fk_ev d qX5_forked 32 [a0, a1, a2, a3, .int x] st h) ∧
  (∀ (d : Nat) (L st : List Value) (h : fk_H), fk_ev d qX5_forked 34 L st h = fk_ev d qX5_forked 36 L (.int (nI 16) :: st) h) ∧
  (∀ (d : Nat) (L : List Value) (x y : Int32) (st : List Value) (h : fk_H), fk_ev d qX5_forked 36 L (.int y :: .int x :: st) h = if y ≤ x then fk_ev d qX5_forked 82 L st h else fk_ev d qX5_forked 39 L st h) ∧
  (∀ (d : Nat) (a1 a2 a3 a4 : Value) (x : Nat) (st : List Value) (h : fk_H), fk_ev d qX5_forked 39 [.ref x, a1, a2, a3, a4] st h = fk_ev d qX5_forked 40 [.ref x, a1, a2, a3, a4] (.ref x :: st) h) ∧
  (∀ (d : Nat) (L st : List Value) (N : Nat) (y : Nat → Nat → Int32) (l : Nat → Nat → Int64), fk_ev d qX5_forked 40 L (.ref 18 :: st) (fk_E N y l) = fk_ev d qX5_forked 43 L (.ref 25 :: st) (fk_E N y l)) ∧
  (∀ (d : Nat) (a0 a1 a2 a4 : Value) (x : Int32) (st : List Value) (h : fk_H), fk_ev d qX5_forked 43 [a0, a1, a2, .int x, a4] st h = fk_ev d qX5_forked 44 [a0, a1, a2, .int x, a4] (.int x :: st) h) ∧
  (∀ (d : Nat) (L st : List Value) (h : fk_H), fk_ev d qX5_forked 44 L st h = fk_ev d qX5_forked 46 L (.int (nI 16) :: st) h) ∧
  (∀ (d : Nat) (L : List Value) (x y : Int32) (st : List Value) (h : fk_H), fk_ev d qX5_forked 46 L (.int y :: .int x :: st) h = fk_ev d qX5_forked 47 L (.int (x * y) :: st) h) ∧
  (∀ (d : Nat) (a0 a1 a2 a3 : Value) (x : Int32) (st : List Value) (h : fk_H), fk_ev d qX5_forked 47 [a0, a1, a2, a3, .int x] st h = fk_ev d qX5_forked 49 [a0, a1, a2, a3, .int x] (.int x :: st) h) ∧
  (∀ (d : Nat) (L : List Value) (x y : Int32) (st : List Value) (h : fk_H), fk_ev d qX5_forked 49 L (.int y :: .int x :: st) h = fk_ev d qX5_forked 50 L (.int (x + y) :: st) h) ∧
  (∀ (d : Nat) (a0 a1 a2 a4 : Value) (x : Int32) (st : List Value) (h : fk_H), fk_ev d qX5_forked 50 [a0, a1, a2, .int x, a4] st h = fk_ev d qX5_forked 51 [a0, a1, a2, .int x, a4] (.int x :: st) h) ∧
  (∀ (d : Nat) (L : List Value) (x : Int32) (st : List Value) (h : fk_H), fk_ev d qX5_forked 51 L (.int x :: st) h = if x = nI 0 then fk_ev d qX5_forked 64 L st h else fk_ev d qX5_forked 54 L st h) ∧
  (∀ (d : Nat) (a1 a2 a3 a4 : Value) (x : Nat) (st : List Value) (h : fk_H), fk_ev d qX5_forked 54 [.ref x, a1, a2, a3, a4] st h = fk_ev d qX5_forked 55 [.ref x, a1, a2, a3, a4] (.ref x :: st) h) ∧
  (∀ (d : Nat) (L st : List Value) (N : Nat) (y : Nat → Nat → Int32) (l : Nat → Nat → Int64), fk_ev d qX5_forked 55 L (.ref 18 :: st) (fk_E N y l) = fk_ev d qX5_forked 58 L (.ref 24 :: st) (fk_E N y l)) ∧
  (∀ (d : Nat) (a0 a1 a2 a3 : Value) (x : Int32) (st : List Value) (h : fk_H), fk_ev d qX5_forked 58 [a0, a1, a2, a3, .int x] st h = fk_ev d qX5_forked 60 [a0, a1, a2, a3, .int x] (.int x :: st) h) ∧
  (∀ (d : Nat) (L st : List Value) (N : Nat) (y : Nat → Nat → Int32) (l : Nat → Nat → Int64) (i : Nat), i < 16 → fk_ev d qX5_forked 60 L (.int (nI i) :: .ref 24 :: st) (fk_E N y l) = fk_ev d qX5_forked 61 L (.int (y 24 i) :: st) (fk_E N y l)) ∧
  (∀ (d : Nat) (L : List Value) (x : Int32) (st : List Value) (h : fk_H), fk_ev d qX5_forked 61 L (.int x :: st) h = if ¬ x = nI 0 then fk_ev d qX5_forked 68 L st h else fk_ev d qX5_forked 64 L st h) ∧
  (∀ (d : Nat) (L st : List Value) (h : fk_H), fk_ev d qX5_forked 64 L st h = fk_ev d qX5_forked 65 L (.long 1 :: st) h) ∧
  (∀ (d : Nat) (L st : List Value) (h : fk_H), fk_ev d qX5_forked 65 L st h = fk_ev d qX5_forked 75 L st h) ∧
  (∀ (d : Nat) (a1 a2 a3 a4 : Value) (x : Nat) (st : List Value) (h : fk_H), fk_ev d qX5_forked 68 [.ref x, a1, a2, a3, a4] st h = fk_ev d qX5_forked 69 [.ref x, a1, a2, a3, a4] (.ref x :: st) h) ∧
  (∀ (d : Nat) (a0 a1 a2 a3 : Value) (x : Int32) (st : List Value) (h : fk_H), fk_ev d qX5_forked 69 [a0, a1, a2, a3, .int x] st h = fk_ev d qX5_forked 71 [a0, a1, a2, a3, .int x] (.int x :: st) h) ∧
  (∀ (d : Nat) (a0 a1 a2 a4 : Value) (x : Int32) (st : List Value) (h : fk_H), fk_ev d qX5_forked 71 [a0, a1, a2, .int x, a4] st h = fk_ev d qX5_forked 72 [a0, a1, a2, .int x, a4] (.int x :: st) h) ∧
  (∀ (d : Nat) (L : List Value) (x0 : Int32) (x1 : Int32) (w0 w1 : Value) (N : Nat) (y : Nat → Nat → Int32) (l : Nat → Nat → Int64), fk_ev (d + 1) qX5_forked 72 L (.int x1 :: .int x0 :: .ref 18 :: [w0, w1]) (fk_E N y l) = (fk_ev d qX5_forkedOnce 0 [.ref 18, .int x0, .int x1, .null, .null, .null, .null] [] (fk_E N y l)).bind fun o => fk_ev (d + 1) qX5_forked 75 L (o.1.toList ++ [w0, w1]) o.2) ∧
  (∀ (d : Nat) (L st : List Value) (N : Nat) (y : Nat → Nat → Int32) (l : Nat → Nat → Int64) (i : Nat) (v : Int64), i < 976 → fk_ev d qX5_forked 75 L (.long v :: .int (nI i) :: .ref 25 :: st) (fk_E N y l) = fk_ev d qX5_forked 76 L st (fk_E N y (fk_ul l 25 i v))) ∧
  (∀ (d : Nat) (a0 a1 a2 a3 : Value) (x : Int32) (st : List Value) (h : fk_H), fk_ev d qX5_forked 76 [a0, a1, a2, a3, .int x] st h = fk_ev d qX5_forked 79 [a0, a1, a2, a3, .int (x + nI 1)] st h) ∧
  (∀ (d : Nat) (L st : List Value) (h : fk_H), fk_ev d qX5_forked 79 L st h = fk_ev d qX5_forked 32 L st h) ∧
  (∀ (d : Nat) (a0 a1 a2 a4 : Value) (x : Int32) (st : List Value) (h : fk_H), fk_ev d qX5_forked 82 [a0, a1, a2, .int x, a4] st h = fk_ev d qX5_forked 85 [a0, a1, a2, .int (x + nI 1), a4] st h) ∧
  (∀ (d : Nat) (L st : List Value) (h : fk_H), fk_ev d qX5_forked 85 L st h = fk_ev d qX5_forked 24 L st h) ∧
  (∀ (d : Nat) (a1 a2 a3 a4 : Value) (x : Nat) (st : List Value) (h : fk_H), fk_ev d qX5_forked 88 [.ref x, a1, a2, a3, a4] st h = fk_ev d qX5_forked 89 [.ref x, a1, a2, a3, a4] (.ref x :: st) h) ∧
  (∀ (d : Nat) (L st : List Value) (N : Nat) (y : Nat → Nat → Int32) (l : Nat → Nat → Int64), fk_ev d qX5_forked 89 L (.ref 18 :: st) (fk_E N y l) = fk_ev d qX5_forked 92 L (.ref 25 :: st) (fk_E N y l)) ∧
  (∀ (d : Nat) (a0 a1 a3 a4 : Value) (x : Int32) (st : List Value) (h : fk_H), fk_ev d qX5_forked 92 [a0, a1, .int x, a3, a4] st h = fk_ev d qX5_forked 93 [a0, a1, .int x, a3, a4] (.int x :: st) h) ∧
  (∀ (d : Nat) (L st : List Value) (h : fk_H), fk_ev d qX5_forked 93 L st h = fk_ev d qX5_forked 95 L (.int (nI 16) :: st) h) ∧
  (∀ (d : Nat) (L : List Value) (x y : Int32) (st : List Value) (h : fk_H), fk_ev d qX5_forked 95 L (.int y :: .int x :: st) h = fk_ev d qX5_forked 96 L (.int (x * y) :: st) h) ∧
  (∀ (d : Nat) (a0 a2 a3 a4 : Value) (x : Int32) (st : List Value) (h : fk_H), fk_ev d qX5_forked 96 [a0, .int x, a2, a3, a4] st h = fk_ev d qX5_forked 97 [a0, .int x, a2, a3, a4] (.int x :: st) h) ∧
  (∀ (d : Nat) (L : List Value) (x y : Int32) (st : List Value) (h : fk_H), fk_ev d qX5_forked 97 L (.int y :: .int x :: st) h = fk_ev d qX5_forked 98 L (.int (x + y) :: st) h) ∧
  (∀ (d : Nat) (L st : List Value) (N : Nat) (y : Nat → Nat → Int32) (l : Nat → Nat → Int64) (i : Nat), i < 976 → fk_ev d qX5_forked 98 L (.int (nI i) :: .ref 25 :: st) (fk_E N y l) = fk_ev d qX5_forked 99 L (.long (l 25 i) :: st) (fk_E N y l)) ∧
  (∀ (d : Nat) (L : List Value) (x : Int64) (h : fk_H), fk_ev d qX5_forked 99 L [.long x] h = some (some (.long x), h)) := ⟨fun d a0 a2 a3 a4 x st h => fk_w_iloadn 1 [a0, .int x, a2, a3, a4] dX5_forked_0 rfl,
  fun d L st h => fk_w_bipush dX5_forked_1 (by decide),
  fun d L x0 x1 h => fk_g_calls [.int x0, .int x1] [] rfl lm_5_44 dX5_forked_3 rfl ⟨rfl, by decide⟩ (by simp),
  fun d L x st h => fk_r_if_eq dX5_forked_6 (by decide),
  fun d a0 a1 a3 a4 x st h => fk_w_iloadn 2 [a0, a1, .int x, a3, a4] dX5_forked_9 rfl,
  fun d L st h => fk_w_bipush dX5_forked_10 (by decide),
  fun d L x0 x1 h => fk_g_calls [.int x0, .int x1] [] rfl lm_5_44 dX5_forked_12 rfl ⟨rfl, by decide⟩ (by simp),
  fun d L x st h => fk_r_if_ne dX5_forked_15 (by decide),
  fun d L st h => fk_r_ldc2 dX5_forked_18 (by decide +kernel),
  fun d L x h => fk_r_lret dX5_forked_21 rfl,
  fun d L st h => fk_w_iconst dX5_forked_22 (by decide),
  fun d a0 a1 a2 a3 a4 x st h => fk_w_istoren 3 5 [] [a0, a1, a2, a3, a4] [a0, a1, a2, .int x, a4] dX5_forked_23 rfl rfl (by decide) rfl,
  fun d a0 a1 a3 a4 x st h => fk_w_iloadn 2 [a0, a1, .int x, a3, a4] dX5_forked_25 rfl,
  fun d L x y st h => fk_r_icmp_gt dX5_forked_26 (by decide),
  fun d L st h => fk_w_iconst dX5_forked_29 (by decide),
  fun d a0 a1 a2 a3 a4 x st h => fk_w_istore 4 5 [] [a0, a1, a2, a3, a4] [a0, a1, a2, a3, .int x] dX5_forked_30 rfl rfl (by decide) rfl,
  fun d L st h => fk_w_bipush dX5_forked_34 (by decide),
  fun d L x y st h => fk_r_icmp_ge dX5_forked_36 (by decide),
  fun d a1 a2 a3 a4 x st h => fk_w_aloadn 0 [.ref x, a1, a2, a3, a4] dX5_forked_39 rfl,
  fun d L st N y l => fk_g_getC rfl lf_5_30 (by decide) rfl dX5_forked_40 fk_at_18,
  fun d a0 a1 a2 a4 x st h => fk_w_iloadn 3 [a0, a1, a2, .int x, a4] dX5_forked_43 rfl,
  fun d L st h => fk_w_bipush dX5_forked_44 (by decide),
  fun d L x y st h => fk_r_imul dX5_forked_46,
  fun d a0 a1 a2 a3 x st h => fk_w_iload 4 [a0, a1, a2, a3, .int x] dX5_forked_47 rfl,
  fun d L x y st h => fk_r_iadd dX5_forked_49,
  fun d a0 a1 a2 a4 x st h => fk_w_iloadn 3 [a0, a1, a2, .int x, a4] dX5_forked_50 rfl,
  fun d L x st h => fk_r_if_eq dX5_forked_51 (by decide),
  fun d a1 a2 a3 a4 x st h => fk_w_aloadn 0 [.ref x, a1, a2, a3, a4] dX5_forked_54 rfl,
  fun d L st N y l => fk_g_getC rfl lf_5_27 (by decide) rfl dX5_forked_55 fk_at_18,
  fun d a0 a1 a2 a3 x st h => fk_w_iload 4 [a0, a1, a2, a3, .int x] dX5_forked_58 rfl,
  fun d L st N y l i hi => fk_g_iald fk_at_24 fk_ln_24 (by decide) dX5_forked_60 hi,
  fun d L x st h => fk_r_if_ne dX5_forked_61 (by decide),
  fun d L st h => fk_w_lconst dX5_forked_64 (by decide),
  fun d L st h => fk_r_goto dX5_forked_65 (by decide),
  fun d a1 a2 a3 a4 x st h => fk_w_aloadn 0 [.ref x, a1, a2, a3, a4] dX5_forked_68 rfl,
  fun d a0 a1 a2 a3 x st h => fk_w_iload 4 [a0, a1, a2, a3, .int x] dX5_forked_69 rfl,
  fun d a0 a1 a2 a4 x st h => fk_w_iloadn 3 [a0, a1, a2, .int x, a4] dX5_forked_71 rfl,
  fun d L x0 x1 w0 w1 N y l  => fk_g_call [.int x0, .int x1] [w0, w1] rfl lm_5_73 dX5_forked_72 rfl ⟨rfl, by decide⟩ (by simp) fk_at_18,
  fun d L st N y l i v hi => fk_g_last fk_at_25 fk_ln_25 (by decide) dX5_forked_75 hi,
  fun d a0 a1 a2 a3 x st h => fk_w_iinc 4 5 (1) [] [a0, a1, a2, a3, .int x] [a0, a1, a2, a3, .int (x + nI 1)] dX5_forked_76 rfl rfl rfl (by decide) rfl,
  fun d L st h => fk_r_goto dX5_forked_79 (by decide),
  fun d a0 a1 a2 a4 x st h => fk_w_iinc 3 5 (1) [] [a0, a1, a2, .int x, a4] [a0, a1, a2, .int (x + nI 1), a4] dX5_forked_82 rfl rfl rfl (by decide) rfl,
  fun d L st h => fk_r_goto dX5_forked_85 (by decide),
  fun d a1 a2 a3 a4 x st h => fk_w_aloadn 0 [.ref x, a1, a2, a3, a4] dX5_forked_88 rfl,
  fun d L st N y l => fk_g_getC rfl lf_5_30 (by decide) rfl dX5_forked_89 fk_at_18,
  fun d a0 a1 a3 a4 x st h => fk_w_iloadn 2 [a0, a1, .int x, a3, a4] dX5_forked_92 rfl,
  fun d L st h => fk_w_bipush dX5_forked_93 (by decide),
  fun d L x y st h => fk_r_imul dX5_forked_95,
  fun d a0 a2 a3 a4 x st h => fk_w_iloadn 1 [a0, .int x, a2, a3, a4] dX5_forked_96 rfl,
  fun d L x y st h => fk_r_iadd dX5_forked_97,
  fun d L st N y l i hi => fk_g_lald fk_at_25 fk_ln_25 (by decide) dX5_forked_98 hi,
  fun d L x h => fk_r_lret dX5_forked_99 rfl⟩
theorem hX5_forked_24 : ∀ (d : Nat) (a0 a1 a2 a4 : Value) (x : Int32) (st : List Value) (h : fk_H), fk_ev d qX5_forked 24 [a0, a1, a2, .int x, a4] st h = fk_ev d qX5_forked 25 [a0, a1, a2, .int x, a4] (.int x :: st) h := fun d a0 a1 a2 a4 x st h => fk_w_iloadn 3 [a0, a1, a2, .int x, a4] dX5_forked_24 rfl
theorem hX5_forked_32 : ∀ (d : Nat) (a0 a1 a2 a3 : Value) (x : Int32) (st : List Value) (h : fk_H), fk_ev d qX5_forked 32 [a0, a1, a2, a3, .int x] st h = fk_ev d qX5_forked 34 [a0, a1, a2, a3, .int x] (.int x :: st) h := fun d a0 a1 a2 a3 x st h => fk_w_iload 4 [a0, a1, a2, a3, .int x] dX5_forked_32 rfl
theorem dX5_forkedOnce_0 : decode cX5_forkedOnce 0 = .ok (.lconst 0, 1) := by decide +kernel
theorem dX5_forkedOnce_1 : decode cX5_forkedOnce 1 = .ok (.lstore_n 3, 1) := by decide +kernel
theorem dX5_forkedOnce_2 : decode cX5_forkedOnce 2 = .ok (.iconst 0, 1) := by decide +kernel
theorem dX5_forkedOnce_3 : decode cX5_forkedOnce 3 = .ok (.istore 5, 2) := by decide +kernel
theorem dX5_forkedOnce_5 : decode cX5_forkedOnce 5 = .ok (.iload 5, 2) := by decide +kernel
theorem dX5_forkedOnce_7 : decode cX5_forkedOnce 7 = .ok (.bipush 32, 2) := by decide +kernel
theorem dX5_forkedOnce_9 : decode cX5_forkedOnce 9 = .ok (.if_icmp .ge 61, 3) := by decide +kernel
theorem dX5_forkedOnce_12 : decode cX5_forkedOnce 12 = .ok (.aload_n 0, 1) := by decide +kernel
theorem dX5_forkedOnce_13 : decode cX5_forkedOnce 13 = .ok (.getfield 9, 3) := by decide +kernel
theorem dX5_forkedOnce_16 : decode cX5_forkedOnce 16 = .ok (.iload 5, 2) := by decide +kernel
theorem dX5_forkedOnce_18 : decode cX5_forkedOnce 18 = .ok (.iaload, 1) := by decide +kernel
theorem dX5_forkedOnce_19 : decode cX5_forkedOnce 19 = .ok (.iload_n 1, 1) := by decide +kernel
theorem dX5_forkedOnce_20 : decode cX5_forkedOnce 20 = .ok (.if_icmp .ne 44, 3) := by decide +kernel
theorem dX5_forkedOnce_23 : decode cX5_forkedOnce 23 = .ok (.iload_n 2, 1) := by decide +kernel
theorem dX5_forkedOnce_24 : decode cX5_forkedOnce 24 = .ok (.aload_n 0, 1) := by decide +kernel
theorem dX5_forkedOnce_25 : decode cX5_forkedOnce 25 = .ok (.getfield 18, 3) := by decide +kernel
theorem dX5_forkedOnce_28 : decode cX5_forkedOnce 28 = .ok (.iload 5, 2) := by decide +kernel
theorem dX5_forkedOnce_30 : decode cX5_forkedOnce 30 = .ok (.iaload, 1) := by decide +kernel
theorem dX5_forkedOnce_31 : decode cX5_forkedOnce 31 = .ok (.isub, 1) := by decide +kernel
theorem dX5_forkedOnce_32 : decode cX5_forkedOnce 32 = .ok (.istore 6, 2) := by decide +kernel
theorem dX5_forkedOnce_34 : decode cX5_forkedOnce 34 = .ok (.lload_n 3, 1) := by decide +kernel
theorem dX5_forkedOnce_35 : decode cX5_forkedOnce 35 = .ok (.iload 6, 2) := by decide +kernel
theorem dX5_forkedOnce_37 : decode cX5_forkedOnce 37 = .ok (.ifCond .gt 7, 3) := by decide +kernel
theorem dX5_forkedOnce_40 : decode cX5_forkedOnce 40 = .ok (.lconst 1, 1) := by decide +kernel
theorem dX5_forkedOnce_41 : decode cX5_forkedOnce 41 = .ok (.goto 21, 3) := by decide +kernel
theorem dX5_forkedOnce_44 : decode cX5_forkedOnce 44 = .ok (.aload_n 0, 1) := by decide +kernel
theorem dX5_forkedOnce_45 : decode cX5_forkedOnce 45 = .ok (.getfield 30, 3) := by decide +kernel
theorem dX5_forkedOnce_48 : decode cX5_forkedOnce 48 = .ok (.iload 6, 2) := by decide +kernel
theorem dX5_forkedOnce_50 : decode cX5_forkedOnce 50 = .ok (.bipush 16, 2) := by decide +kernel
theorem dX5_forkedOnce_52 : decode cX5_forkedOnce 52 = .ok (.imul, 1) := by decide +kernel
theorem dX5_forkedOnce_53 : decode cX5_forkedOnce 53 = .ok (.aload_n 0, 1) := by decide +kernel
theorem dX5_forkedOnce_54 : decode cX5_forkedOnce 54 = .ok (.getfield 15, 3) := by decide +kernel
theorem dX5_forkedOnce_57 : decode cX5_forkedOnce 57 = .ok (.iload 5, 2) := by decide +kernel
theorem dX5_forkedOnce_59 : decode cX5_forkedOnce 59 = .ok (.iaload, 1) := by decide +kernel
theorem dX5_forkedOnce_60 : decode cX5_forkedOnce 60 = .ok (.iadd, 1) := by decide +kernel
theorem dX5_forkedOnce_61 : decode cX5_forkedOnce 61 = .ok (.laload, 1) := by decide +kernel
theorem dX5_forkedOnce_62 : decode cX5_forkedOnce 62 = .ok (.ladd, 1) := by decide +kernel
theorem dX5_forkedOnce_63 : decode cX5_forkedOnce 63 = .ok (.lstore_n 3, 1) := by decide +kernel
theorem dX5_forkedOnce_64 : decode cX5_forkedOnce 64 = .ok (.iinc 5 1, 3) := by decide +kernel
theorem dX5_forkedOnce_67 : decode cX5_forkedOnce 67 = .ok (.goto (-62), 3) := by decide +kernel
theorem dX5_forkedOnce_70 : decode cX5_forkedOnce 70 = .ok (.lload_n 3, 1) := by decide +kernel
theorem dX5_forkedOnce_71 : decode cX5_forkedOnce 71 = .ok (.lreturn, 1) := by decide +kernel
theorem rX5_forkedOnce : (∀ (d : Nat) (L st : List Value) (h : fk_H), fk_ev d qX5_forkedOnce 0 L st h = fk_ev d qX5_forkedOnce 1 L (.long 0 :: st) h) ∧
  (∀ (d : Nat) (a0 a1 a2 a3 a5 a6 : Value) (x : Int64) (st : List Value) (h : fk_H), fk_ev d qX5_forkedOnce 1 [a0, a1, a2, a3, .null, a5, a6] (.long x :: st) h = fk_ev d qX5_forkedOnce 2 [a0, a1, a2, .long x, .null, a5, a6] st h) ∧
  (∀ (d : Nat) (L st : List Value) (h : fk_H), fk_ev d qX5_forkedOnce 2 L st h = fk_ev d qX5_forkedOnce 3 L (.int (nI 0) :: st) h) ∧
  (∀ (d : Nat) (a0 a1 a2 a3 a4 a5 a6 : Value) (x : Int32) (st : List Value) (h : fk_H), fk_ev d qX5_forkedOnce 3 [a0, a1, a2, a3, a4, a5, a6] (.int x :: st) h = fk_ev d qX5_forkedOnce 5 [a0, a1, a2, a3, a4, .int x, a6] st h) ∧
  (∀ (d : Nat) (L st : List Value) (h : fk_H), fk_ev d qX5_forkedOnce 7 L st h = fk_ev d qX5_forkedOnce 9 L (.int (nI 32) :: st) h) ∧
  (∀ (d : Nat) (L : List Value) (x y : Int32) (st : List Value) (h : fk_H), fk_ev d qX5_forkedOnce 9 L (.int y :: .int x :: st) h = if y ≤ x then fk_ev d qX5_forkedOnce 70 L st h else fk_ev d qX5_forkedOnce 12 L st h) ∧
  (∀ (d : Nat) (a1 a2 a3 a4 a5 a6 : Value) (x : Nat) (st : List Value) (h : fk_H), fk_ev d qX5_forkedOnce 12 [.ref x, a1, a2, a3, a4, a5, a6] st h = fk_ev d qX5_forkedOnce 13 [.ref x, a1, a2, a3, a4, a5, a6] (.ref x :: st) h) ∧
  (∀ (d : Nat) (L st : List Value) (N : Nat) (y : Nat → Nat → Int32) (l : Nat → Nat → Int64), fk_ev d qX5_forkedOnce 13 L (.ref 18 :: st) (fk_E N y l) = fk_ev d qX5_forkedOnce 16 L (.ref 19 :: st) (fk_E N y l)) ∧
  (∀ (d : Nat) (a0 a1 a2 a3 a4 a6 : Value) (x : Int32) (st : List Value) (h : fk_H), fk_ev d qX5_forkedOnce 16 [a0, a1, a2, a3, a4, .int x, a6] st h = fk_ev d qX5_forkedOnce 18 [a0, a1, a2, a3, a4, .int x, a6] (.int x :: st) h) ∧
  (∀ (d : Nat) (L st : List Value) (N : Nat) (y : Nat → Nat → Int32) (l : Nat → Nat → Int64) (i : Nat), i < 32 → fk_ev d qX5_forkedOnce 18 L (.int (nI i) :: .ref 19 :: st) (fk_E N y l) = fk_ev d qX5_forkedOnce 19 L (.int (y 19 i) :: st) (fk_E N y l)) ∧
  (∀ (d : Nat) (a0 a2 a3 a4 a5 a6 : Value) (x : Int32) (st : List Value) (h : fk_H), fk_ev d qX5_forkedOnce 19 [a0, .int x, a2, a3, a4, a5, a6] st h = fk_ev d qX5_forkedOnce 20 [a0, .int x, a2, a3, a4, a5, a6] (.int x :: st) h) ∧
  (∀ (d : Nat) (L : List Value) (x y : Int32) (st : List Value) (h : fk_H), fk_ev d qX5_forkedOnce 20 L (.int y :: .int x :: st) h = if ¬ x = y then fk_ev d qX5_forkedOnce 64 L st h else fk_ev d qX5_forkedOnce 23 L st h) ∧
  (∀ (d : Nat) (a0 a1 a3 a4 a5 a6 : Value) (x : Int32) (st : List Value) (h : fk_H), fk_ev d qX5_forkedOnce 23 [a0, a1, .int x, a3, a4, a5, a6] st h = fk_ev d qX5_forkedOnce 24 [a0, a1, .int x, a3, a4, a5, a6] (.int x :: st) h) ∧
  (∀ (d : Nat) (a1 a2 a3 a4 a5 a6 : Value) (x : Nat) (st : List Value) (h : fk_H), fk_ev d qX5_forkedOnce 24 [.ref x, a1, a2, a3, a4, a5, a6] st h = fk_ev d qX5_forkedOnce 25 [.ref x, a1, a2, a3, a4, a5, a6] (.ref x :: st) h) ∧
  (∀ (d : Nat) (L st : List Value) (N : Nat) (y : Nat → Nat → Int32) (l : Nat → Nat → Int64), fk_ev d qX5_forkedOnce 25 L (.ref 18 :: st) (fk_E N y l) = fk_ev d qX5_forkedOnce 28 L (.ref 21 :: st) (fk_E N y l)) ∧
  (∀ (d : Nat) (a0 a1 a2 a3 a4 a6 : Value) (x : Int32) (st : List Value) (h : fk_H), fk_ev d qX5_forkedOnce 28 [a0, a1, a2, a3, a4, .int x, a6] st h = fk_ev d qX5_forkedOnce 30 [a0, a1, a2, a3, a4, .int x, a6] (.int x :: st) h) ∧
  (∀ (d : Nat) (L st : List Value) (N : Nat) (y : Nat → Nat → Int32) (l : Nat → Nat → Int64) (i : Nat), i < 32 → fk_ev d qX5_forkedOnce 30 L (.int (nI i) :: .ref 21 :: st) (fk_E N y l) = fk_ev d qX5_forkedOnce 31 L (.int (y 21 i) :: st) (fk_E N y l)) ∧
  (∀ (d : Nat) (L : List Value) (x y : Int32) (st : List Value) (h : fk_H), fk_ev d qX5_forkedOnce 31 L (.int y :: .int x :: st) h = fk_ev d qX5_forkedOnce 32 L (.int (x - y) :: st) h) ∧
  (∀ (d : Nat) (a0 a1 a2 a3 a4 a5 a6 : Value) (x : Int32) (st : List Value) (h : fk_H), fk_ev d qX5_forkedOnce 32 [a0, a1, a2, a3, a4, a5, a6] (.int x :: st) h = fk_ev d qX5_forkedOnce 34 [a0, a1, a2, a3, a4, a5, .int x] st h) ∧
  (∀ (d : Nat) (a0 a1 a2 a4 a5 a6 : Value) (x : Int64) (st : List Value) (h : fk_H), fk_ev d qX5_forkedOnce 34 [a0, a1, a2, .long x, a4, a5, a6] st h = fk_ev d qX5_forkedOnce 35 [a0, a1, a2, .long x, a4, a5, a6] (.long x :: st) h) ∧
  (∀ (d : Nat) (a0 a1 a2 a3 a4 a5 : Value) (x : Int32) (st : List Value) (h : fk_H), fk_ev d qX5_forkedOnce 35 [a0, a1, a2, a3, a4, a5, .int x] st h = fk_ev d qX5_forkedOnce 37 [a0, a1, a2, a3, a4, a5, .int x] (.int x :: st) h) ∧
  (∀ (d : Nat) (L : List Value) (x : Int32) (st : List Value) (h : fk_H), fk_ev d qX5_forkedOnce 37 L (.int x :: st) h = if nI 0 < x then fk_ev d qX5_forkedOnce 44 L st h else fk_ev d qX5_forkedOnce 40 L st h) ∧
  (∀ (d : Nat) (L st : List Value) (h : fk_H), fk_ev d qX5_forkedOnce 40 L st h = fk_ev d qX5_forkedOnce 41 L (.long 1 :: st) h) ∧
  (∀ (d : Nat) (L st : List Value) (h : fk_H), fk_ev d qX5_forkedOnce 41 L st h = fk_ev d qX5_forkedOnce 62 L st h) ∧
  (∀ (d : Nat) (a1 a2 a3 a4 a5 a6 : Value) (x : Nat) (st : List Value) (h : fk_H), fk_ev d qX5_forkedOnce 44 [.ref x, a1, a2, a3, a4, a5, a6] st h = fk_ev d qX5_forkedOnce 45 [.ref x, a1, a2, a3, a4, a5, a6] (.ref x :: st) h) ∧
  (∀ (d : Nat) (L st : List Value) (N : Nat) (y : Nat → Nat → Int32) (l : Nat → Nat → Int64), fk_ev d qX5_forkedOnce 45 L (.ref 18 :: st) (fk_E N y l) = fk_ev d qX5_forkedOnce 48 L (.ref 25 :: st) (fk_E N y l)) ∧
  (∀ (d : Nat) (a0 a1 a2 a3 a4 a5 : Value) (x : Int32) (st : List Value) (h : fk_H), fk_ev d qX5_forkedOnce 48 [a0, a1, a2, a3, a4, a5, .int x] st h = fk_ev d qX5_forkedOnce 50 [a0, a1, a2, a3, a4, a5, .int x] (.int x :: st) h) ∧
  (∀ (d : Nat) (L st : List Value) (h : fk_H), fk_ev d qX5_forkedOnce 50 L st h = fk_ev d qX5_forkedOnce 52 L (.int (nI 16) :: st) h) ∧
  (∀ (d : Nat) (L : List Value) (x y : Int32) (st : List Value) (h : fk_H), fk_ev d qX5_forkedOnce 52 L (.int y :: .int x :: st) h = fk_ev d qX5_forkedOnce 53 L (.int (x * y) :: st) h) ∧
  (∀ (d : Nat) (a1 a2 a3 a4 a5 a6 : Value) (x : Nat) (st : List Value) (h : fk_H), fk_ev d qX5_forkedOnce 53 [.ref x, a1, a2, a3, a4, a5, a6] st h = fk_ev d qX5_forkedOnce 54 [.ref x, a1, a2, a3, a4, a5, a6] (.ref x :: st) h) ∧
  (∀ (d : Nat) (L st : List Value) (N : Nat) (y : Nat → Nat → Int32) (l : Nat → Nat → Int64), fk_ev d qX5_forkedOnce 54 L (.ref 18 :: st) (fk_E N y l) = fk_ev d qX5_forkedOnce 57 L (.ref 20 :: st) (fk_E N y l)) ∧
  (∀ (d : Nat) (a0 a1 a2 a3 a4 a6 : Value) (x : Int32) (st : List Value) (h : fk_H), fk_ev d qX5_forkedOnce 57 [a0, a1, a2, a3, a4, .int x, a6] st h = fk_ev d qX5_forkedOnce 59 [a0, a1, a2, a3, a4, .int x, a6] (.int x :: st) h) ∧
  (∀ (d : Nat) (L st : List Value) (N : Nat) (y : Nat → Nat → Int32) (l : Nat → Nat → Int64) (i : Nat), i < 32 → fk_ev d qX5_forkedOnce 59 L (.int (nI i) :: .ref 20 :: st) (fk_E N y l) = fk_ev d qX5_forkedOnce 60 L (.int (y 20 i) :: st) (fk_E N y l)) ∧
  (∀ (d : Nat) (L : List Value) (x y : Int32) (st : List Value) (h : fk_H), fk_ev d qX5_forkedOnce 60 L (.int y :: .int x :: st) h = fk_ev d qX5_forkedOnce 61 L (.int (x + y) :: st) h) ∧
  (∀ (d : Nat) (L st : List Value) (N : Nat) (y : Nat → Nat → Int32) (l : Nat → Nat → Int64) (i : Nat), i < 976 → fk_ev d qX5_forkedOnce 61 L (.int (nI i) :: .ref 25 :: st) (fk_E N y l) = fk_ev d qX5_forkedOnce 62 L (.long (l 25 i) :: st) (fk_E N y l)) ∧
  (∀ (d : Nat) (L : List Value) (x y : Int64) (st : List Value) (h : fk_H), fk_ev d qX5_forkedOnce 62 L (.long y :: .long x :: st) h = fk_ev d qX5_forkedOnce 63 L (.long (x + y) :: st) h) ∧
  (∀ (d : Nat) (a0 a1 a2 a3 a5 a6 : Value) (x : Int64) (st : List Value) (h : fk_H), fk_ev d qX5_forkedOnce 63 [a0, a1, a2, a3, .null, a5, a6] (.long x :: st) h = fk_ev d qX5_forkedOnce 64 [a0, a1, a2, .long x, .null, a5, a6] st h) ∧
  (∀ (d : Nat) (a0 a1 a2 a3 a4 a6 : Value) (x : Int32) (st : List Value) (h : fk_H), fk_ev d qX5_forkedOnce 64 [a0, a1, a2, a3, a4, .int x, a6] st h = fk_ev d qX5_forkedOnce 67 [a0, a1, a2, a3, a4, .int (x + nI 1), a6] st h) ∧
  (∀ (d : Nat) (L st : List Value) (h : fk_H), fk_ev d qX5_forkedOnce 67 L st h = fk_ev d qX5_forkedOnce 5 L st h) ∧
  (∀ (d : Nat) (a0 a1 a2 a4 a5 a6 : Value) (x : Int64) (st : List Value) (h : fk_H), fk_ev d qX5_forkedOnce 70 [a0, a1, a2, .long x, a4, a5, a6] st h = fk_ev d qX5_forkedOnce 71 [a0, a1, a2, .long x, a4, a5, a6] (.long x :: st) h) ∧
  (∀ (d : Nat) (L : List Value) (x : Int64) (h : fk_H), fk_ev d qX5_forkedOnce 71 L [.long x] h = some (some (.long x), h)) := ⟨fun d L st h => fk_w_lconst dX5_forkedOnce_0 (by decide),
  fun d a0 a1 a2 a3 a5 a6 x st h => fk_w_lstoren 3 7 [4] [a0, a1, a2, a3, .null, a5, a6] [a0, a1, a2, .long x, .null, a5, a6] dX5_forkedOnce_1 rfl rfl (by decide) rfl rfl,
  fun d L st h => fk_w_iconst dX5_forkedOnce_2 (by decide),
  fun d a0 a1 a2 a3 a4 a5 a6 x st h => fk_w_istore 5 7 [4] [a0, a1, a2, a3, a4, a5, a6] [a0, a1, a2, a3, a4, .int x, a6] dX5_forkedOnce_3 rfl rfl (by decide) rfl,
  fun d L st h => fk_w_bipush dX5_forkedOnce_7 (by decide),
  fun d L x y st h => fk_r_icmp_ge dX5_forkedOnce_9 (by decide),
  fun d a1 a2 a3 a4 a5 a6 x st h => fk_w_aloadn 0 [.ref x, a1, a2, a3, a4, a5, a6] dX5_forkedOnce_12 rfl,
  fun d L st N y l => fk_g_getC rfl lf_5_9 (by decide) rfl dX5_forkedOnce_13 fk_at_18,
  fun d a0 a1 a2 a3 a4 a6 x st h => fk_w_iload 5 [a0, a1, a2, a3, a4, .int x, a6] dX5_forkedOnce_16 rfl,
  fun d L st N y l i hi => fk_g_iald fk_at_19 fk_ln_19 (by decide) dX5_forkedOnce_18 hi,
  fun d a0 a2 a3 a4 a5 a6 x st h => fk_w_iloadn 1 [a0, .int x, a2, a3, a4, a5, a6] dX5_forkedOnce_19 rfl,
  fun d L x y st h => fk_r_icmp_ne dX5_forkedOnce_20 (by decide),
  fun d a0 a1 a3 a4 a5 a6 x st h => fk_w_iloadn 2 [a0, a1, .int x, a3, a4, a5, a6] dX5_forkedOnce_23 rfl,
  fun d a1 a2 a3 a4 a5 a6 x st h => fk_w_aloadn 0 [.ref x, a1, a2, a3, a4, a5, a6] dX5_forkedOnce_24 rfl,
  fun d L st N y l => fk_g_getC rfl lf_5_18 (by decide) rfl dX5_forkedOnce_25 fk_at_18,
  fun d a0 a1 a2 a3 a4 a6 x st h => fk_w_iload 5 [a0, a1, a2, a3, a4, .int x, a6] dX5_forkedOnce_28 rfl,
  fun d L st N y l i hi => fk_g_iald fk_at_21 fk_ln_21 (by decide) dX5_forkedOnce_30 hi,
  fun d L x y st h => fk_r_isub dX5_forkedOnce_31,
  fun d a0 a1 a2 a3 a4 a5 a6 x st h => fk_w_istore 6 7 [4] [a0, a1, a2, a3, a4, a5, a6] [a0, a1, a2, a3, a4, a5, .int x] dX5_forkedOnce_32 rfl rfl (by decide) rfl,
  fun d a0 a1 a2 a4 a5 a6 x st h => fk_w_lloadn 3 [a0, a1, a2, .long x, a4, a5, a6] dX5_forkedOnce_34 rfl,
  fun d a0 a1 a2 a3 a4 a5 x st h => fk_w_iload 6 [a0, a1, a2, a3, a4, a5, .int x] dX5_forkedOnce_35 rfl,
  fun d L x st h => fk_r_if_gt dX5_forkedOnce_37 (by decide),
  fun d L st h => fk_w_lconst dX5_forkedOnce_40 (by decide),
  fun d L st h => fk_r_goto dX5_forkedOnce_41 (by decide),
  fun d a1 a2 a3 a4 a5 a6 x st h => fk_w_aloadn 0 [.ref x, a1, a2, a3, a4, a5, a6] dX5_forkedOnce_44 rfl,
  fun d L st N y l => fk_g_getC rfl lf_5_30 (by decide) rfl dX5_forkedOnce_45 fk_at_18,
  fun d a0 a1 a2 a3 a4 a5 x st h => fk_w_iload 6 [a0, a1, a2, a3, a4, a5, .int x] dX5_forkedOnce_48 rfl,
  fun d L st h => fk_w_bipush dX5_forkedOnce_50 (by decide),
  fun d L x y st h => fk_r_imul dX5_forkedOnce_52,
  fun d a1 a2 a3 a4 a5 a6 x st h => fk_w_aloadn 0 [.ref x, a1, a2, a3, a4, a5, a6] dX5_forkedOnce_53 rfl,
  fun d L st N y l => fk_g_getC rfl lf_5_15 (by decide) rfl dX5_forkedOnce_54 fk_at_18,
  fun d a0 a1 a2 a3 a4 a6 x st h => fk_w_iload 5 [a0, a1, a2, a3, a4, .int x, a6] dX5_forkedOnce_57 rfl,
  fun d L st N y l i hi => fk_g_iald fk_at_20 fk_ln_20 (by decide) dX5_forkedOnce_59 hi,
  fun d L x y st h => fk_r_iadd dX5_forkedOnce_60,
  fun d L st N y l i hi => fk_g_lald fk_at_25 fk_ln_25 (by decide) dX5_forkedOnce_61 hi,
  fun d L x y st h => fk_r_ladd dX5_forkedOnce_62,
  fun d a0 a1 a2 a3 a5 a6 x st h => fk_w_lstoren 3 7 [4] [a0, a1, a2, a3, .null, a5, a6] [a0, a1, a2, .long x, .null, a5, a6] dX5_forkedOnce_63 rfl rfl (by decide) rfl rfl,
  fun d a0 a1 a2 a3 a4 a6 x st h => fk_w_iinc 5 7 (1) [4] [a0, a1, a2, a3, a4, .int x, a6] [a0, a1, a2, a3, a4, .int (x + nI 1), a6] dX5_forkedOnce_64 rfl rfl rfl (by decide) rfl,
  fun d L st h => fk_r_goto dX5_forkedOnce_67 (by decide),
  fun d a0 a1 a2 a4 a5 a6 x st h => fk_w_lloadn 3 [a0, a1, a2, .long x, a4, a5, a6] dX5_forkedOnce_70 rfl,
  fun d L x h => fk_r_lret dX5_forkedOnce_71 rfl⟩
theorem hX5_forkedOnce_5 : ∀ (d : Nat) (a0 a1 a2 a3 a4 a6 : Value) (x : Int32) (st : List Value) (h : fk_H), fk_ev d qX5_forkedOnce 5 [a0, a1, a2, a3, a4, .int x, a6] st h = fk_ev d qX5_forkedOnce 7 [a0, a1, a2, a3, a4, .int x, a6] (.int x :: st) h := fun d a0 a1 a2 a3 a4 a6 x st h => fk_w_iload 5 [a0, a1, a2, a3, a4, .int x, a6] dX5_forkedOnce_5 rfl
theorem dX6_begin_0 : decode cX6_begin 0 = .ok (.aload_n 0, 1) := by decide +kernel
theorem dX6_begin_1 : decode cX6_begin 1 = .ok (.aload_n 1, 1) := by decide +kernel
theorem dX6_begin_2 : decode cX6_begin 2 = .ok (.putfield 32, 3) := by decide +kernel
theorem dX6_begin_5 : decode cX6_begin 5 = .ok (.aload_n 0, 1) := by decide +kernel
theorem dX6_begin_6 : decode cX6_begin 6 = .ok (.aload_n 2, 1) := by decide +kernel
theorem dX6_begin_7 : decode cX6_begin 7 = .ok (.putfield 36, 3) := by decide +kernel
theorem dX6_begin_10 : decode cX6_begin 10 = .ok (.aload_n 0, 1) := by decide +kernel
theorem dX6_begin_11 : decode cX6_begin 11 = .ok (.iconst (-1), 1) := by decide +kernel
theorem dX6_begin_12 : decode cX6_begin 12 = .ok (.putfield 15, 3) := by decide +kernel
theorem dX6_begin_15 : decode cX6_begin 15 = .ok (.return_, 1) := by decide +kernel
theorem rX6_begin : (∀ (d : Nat) (a1 a2 : Value) (x : Nat) (st : List Value) (h : fk_H), fk_ev d qX6_begin 0 [.ref x, a1, a2] st h = fk_ev d qX6_begin 1 [.ref x, a1, a2] (.ref x :: st) h) ∧
  (∀ (d : Nat) (a0 a2 : Value) (x : Nat) (st : List Value) (h : fk_H), fk_ev d qX6_begin 1 [a0, .ref x, a2] st h = fk_ev d qX6_begin 2 [a0, .ref x, a2] (.ref x :: st) h) ∧
  (∀ (d : Nat) (L st : List Value) (N : Nat) (y : Nat → Nat → Int32) (l : Nat → Nat → Int64) (v : Nat), v < 2 ^ 31 → fk_ev d qX6_begin 2 L (.ref v :: .ref 238 :: st) (fk_E N y l) = fk_ev d qX6_begin 5 L st (fk_E N (fk_u y 238 2 (nI v)) l)) ∧
  (∀ (d : Nat) (a1 a2 : Value) (x : Nat) (st : List Value) (h : fk_H), fk_ev d qX6_begin 5 [.ref x, a1, a2] st h = fk_ev d qX6_begin 6 [.ref x, a1, a2] (.ref x :: st) h) ∧
  (∀ (d : Nat) (a0 a1 : Value) (x : Nat) (st : List Value) (h : fk_H), fk_ev d qX6_begin 6 [a0, a1, .ref x] st h = fk_ev d qX6_begin 7 [a0, a1, .ref x] (.ref x :: st) h) ∧
  (∀ (d : Nat) (L st : List Value) (N : Nat) (y : Nat → Nat → Int32) (l : Nat → Nat → Int64) (v : Nat), v < 2 ^ 31 → fk_ev d qX6_begin 7 L (.ref v :: .ref 238 :: st) (fk_E N y l) = fk_ev d qX6_begin 10 L st (fk_E N (fk_u y 238 3 (nI v)) l)) ∧
  (∀ (d : Nat) (a1 a2 : Value) (x : Nat) (st : List Value) (h : fk_H), fk_ev d qX6_begin 10 [.ref x, a1, a2] st h = fk_ev d qX6_begin 11 [.ref x, a1, a2] (.ref x :: st) h) ∧
  (∀ (d : Nat) (L st : List Value) (h : fk_H), fk_ev d qX6_begin 11 L st h = fk_ev d qX6_begin 12 L (.int ((-1 : Int32)) :: st) h) ∧
  (∀ (d : Nat) (L st : List Value) (N : Nat) (y : Nat → Nat → Int32) (l : Nat → Nat → Int64) (v : Int32), fk_ev d qX6_begin 12 L (.int v :: .ref 238 :: st) (fk_E N y l) = fk_ev d qX6_begin 15 L st (fk_E N (fk_u y 238 4 v) l)) ∧
  (∀ (d : Nat) (L : List Value) (h : fk_H), fk_ev d qX6_begin 15 L [] h = some (none, h)) := ⟨fun d a1 a2 x st h => fk_w_aloadn 0 [.ref x, a1, a2] dX6_begin_0 rfl,
  fun d a0 a2 x st h => fk_w_aloadn 1 [a0, .ref x, a2] dX6_begin_1 rfl,
  fun d L st N y l v hv => fk_g_putM rfl lf_6_32 (by decide) dX6_begin_2 rfl hv fk_at_238,
  fun d a1 a2 x st h => fk_w_aloadn 0 [.ref x, a1, a2] dX6_begin_5 rfl,
  fun d a0 a1 x st h => fk_w_aloadn 2 [a0, a1, .ref x] dX6_begin_6 rfl,
  fun d L st N y l v hv => fk_g_putM rfl lf_6_36 (by decide) dX6_begin_7 rfl hv fk_at_238,
  fun d a1 a2 x st h => fk_w_aloadn 0 [.ref x, a1, a2] dX6_begin_10 rfl,
  fun d L st h => fk_w_iconst dX6_begin_11 (by decide),
  fun d L st N y l v => fk_g_putI rfl lf_6_15 (by decide) dX6_begin_12 rfl fk_at_238,
  fun d L h => fk_r_vret dX6_begin_15 rfl⟩
theorem dX6_beginPlan_0 : decode cX6_beginPlan 0 = .ok (.aload_n 0, 1) := by decide +kernel
theorem dX6_beginPlan_1 : decode cX6_beginPlan 1 = .ok (.iload_n 1, 1) := by decide +kernel
theorem dX6_beginPlan_2 : decode cX6_beginPlan 2 = .ok (.putfield 15, 3) := by decide +kernel
theorem dX6_beginPlan_5 : decode cX6_beginPlan 5 = .ok (.aload_n 0, 1) := by decide +kernel
theorem dX6_beginPlan_6 : decode cX6_beginPlan 6 = .ok (.iload_n 2, 1) := by decide +kernel
theorem dX6_beginPlan_7 : decode cX6_beginPlan 7 = .ok (.putfield 19, 3) := by decide +kernel
theorem dX6_beginPlan_10 : decode cX6_beginPlan 10 = .ok (.aload_n 0, 1) := by decide +kernel
theorem dX6_beginPlan_11 : decode cX6_beginPlan 11 = .ok (.iconst 0, 1) := by decide +kernel
theorem dX6_beginPlan_12 : decode cX6_beginPlan 12 = .ok (.putfield 22, 3) := by decide +kernel
theorem dX6_beginPlan_15 : decode cX6_beginPlan 15 = .ok (.aload_n 0, 1) := by decide +kernel
theorem dX6_beginPlan_16 : decode cX6_beginPlan 16 = .ok (.iconst 0, 1) := by decide +kernel
theorem dX6_beginPlan_17 : decode cX6_beginPlan 17 = .ok (.putfield 25, 3) := by decide +kernel
theorem dX6_beginPlan_20 : decode cX6_beginPlan 20 = .ok (.return_, 1) := by decide +kernel
theorem rX6_beginPlan : (∀ (d : Nat) (a1 a2 : Value) (x : Nat) (st : List Value) (h : fk_H), fk_ev d qX6_beginPlan 0 [.ref x, a1, a2] st h = fk_ev d qX6_beginPlan 1 [.ref x, a1, a2] (.ref x :: st) h) ∧
  (∀ (d : Nat) (a0 a2 : Value) (x : Int32) (st : List Value) (h : fk_H), fk_ev d qX6_beginPlan 1 [a0, .int x, a2] st h = fk_ev d qX6_beginPlan 2 [a0, .int x, a2] (.int x :: st) h) ∧
  (∀ (d : Nat) (L st : List Value) (N : Nat) (y : Nat → Nat → Int32) (l : Nat → Nat → Int64) (v : Int32), fk_ev d qX6_beginPlan 2 L (.int v :: .ref 238 :: st) (fk_E N y l) = fk_ev d qX6_beginPlan 5 L st (fk_E N (fk_u y 238 4 v) l)) ∧
  (∀ (d : Nat) (a1 a2 : Value) (x : Nat) (st : List Value) (h : fk_H), fk_ev d qX6_beginPlan 5 [.ref x, a1, a2] st h = fk_ev d qX6_beginPlan 6 [.ref x, a1, a2] (.ref x :: st) h) ∧
  (∀ (d : Nat) (a0 a1 : Value) (x : Int32) (st : List Value) (h : fk_H), fk_ev d qX6_beginPlan 6 [a0, a1, .int x] st h = fk_ev d qX6_beginPlan 7 [a0, a1, .int x] (.int x :: st) h) ∧
  (∀ (d : Nat) (L st : List Value) (N : Nat) (y : Nat → Nat → Int32) (l : Nat → Nat → Int64) (v : Int32), fk_ev d qX6_beginPlan 7 L (.int v :: .ref 238 :: st) (fk_E N y l) = fk_ev d qX6_beginPlan 10 L st (fk_E N (fk_u y 238 5 v) l)) ∧
  (∀ (d : Nat) (a1 a2 : Value) (x : Nat) (st : List Value) (h : fk_H), fk_ev d qX6_beginPlan 10 [.ref x, a1, a2] st h = fk_ev d qX6_beginPlan 11 [.ref x, a1, a2] (.ref x :: st) h) ∧
  (∀ (d : Nat) (L st : List Value) (h : fk_H), fk_ev d qX6_beginPlan 11 L st h = fk_ev d qX6_beginPlan 12 L (.int (nI 0) :: st) h) ∧
  (∀ (d : Nat) (L st : List Value) (N : Nat) (y : Nat → Nat → Int32) (l : Nat → Nat → Int64) (v : Int32), fk_ev d qX6_beginPlan 12 L (.int v :: .ref 238 :: st) (fk_E N y l) = fk_ev d qX6_beginPlan 15 L st (fk_E N (fk_u y 238 6 v) l)) ∧
  (∀ (d : Nat) (a1 a2 : Value) (x : Nat) (st : List Value) (h : fk_H), fk_ev d qX6_beginPlan 15 [.ref x, a1, a2] st h = fk_ev d qX6_beginPlan 16 [.ref x, a1, a2] (.ref x :: st) h) ∧
  (∀ (d : Nat) (L st : List Value) (h : fk_H), fk_ev d qX6_beginPlan 16 L st h = fk_ev d qX6_beginPlan 17 L (.int (nI 0) :: st) h) ∧
  (∀ (d : Nat) (L st : List Value) (N : Nat) (y : Nat → Nat → Int32) (l : Nat → Nat → Int64) (v : Int32), fk_ev d qX6_beginPlan 17 L (.int v :: .ref 238 :: st) (fk_E N y l) = fk_ev d qX6_beginPlan 20 L st (fk_E N (fk_u y 238 7 v) l)) ∧
  (∀ (d : Nat) (L : List Value) (h : fk_H), fk_ev d qX6_beginPlan 20 L [] h = some (none, h)) := ⟨fun d a1 a2 x st h => fk_w_aloadn 0 [.ref x, a1, a2] dX6_beginPlan_0 rfl,
  fun d a0 a2 x st h => fk_w_iloadn 1 [a0, .int x, a2] dX6_beginPlan_1 rfl,
  fun d L st N y l v => fk_g_putI rfl lf_6_15 (by decide) dX6_beginPlan_2 rfl fk_at_238,
  fun d a1 a2 x st h => fk_w_aloadn 0 [.ref x, a1, a2] dX6_beginPlan_5 rfl,
  fun d a0 a1 x st h => fk_w_iloadn 2 [a0, a1, .int x] dX6_beginPlan_6 rfl,
  fun d L st N y l v => fk_g_putI rfl lf_6_19 (by decide) dX6_beginPlan_7 rfl fk_at_238,
  fun d a1 a2 x st h => fk_w_aloadn 0 [.ref x, a1, a2] dX6_beginPlan_10 rfl,
  fun d L st h => fk_w_iconst dX6_beginPlan_11 (by decide),
  fun d L st N y l v => fk_g_putI rfl lf_6_22 (by decide) dX6_beginPlan_12 rfl fk_at_238,
  fun d a1 a2 x st h => fk_w_aloadn 0 [.ref x, a1, a2] dX6_beginPlan_15 rfl,
  fun d L st h => fk_w_iconst dX6_beginPlan_16 (by decide),
  fun d L st N y l v => fk_g_putI rfl lf_6_25 (by decide) dX6_beginPlan_17 rfl fk_at_238,
  fun d L h => fk_r_vret dX6_beginPlan_20 rfl⟩
theorem dX6_goBy_0 : decode cX6_goBy 0 = .ok (.aload_n 0, 1) := by decide +kernel
theorem dX6_goBy_1 : decode cX6_goBy 1 = .ok (.invokevirtual 40, 3) := by decide +kernel
theorem dX6_goBy_4 : decode cX6_goBy 4 = .ok (.aload_n 0, 1) := by decide +kernel
theorem dX6_goBy_5 : decode cX6_goBy 5 = .ok (.invokevirtual 43, 3) := by decide +kernel
theorem dX6_goBy_8 : decode cX6_goBy 8 = .ok (.aload_n 0, 1) := by decide +kernel
theorem dX6_goBy_9 : decode cX6_goBy 9 = .ok (.invokevirtual 46, 3) := by decide +kernel
theorem dX6_goBy_12 : decode cX6_goBy 12 = .ok (.aload_n 0, 1) := by decide +kernel
theorem dX6_goBy_13 : decode cX6_goBy 13 = .ok (.getfield 15, 3) := by decide +kernel
theorem dX6_goBy_16 : decode cX6_goBy 16 = .ok (.iconst (-1), 1) := by decide +kernel
theorem dX6_goBy_17 : decode cX6_goBy 17 = .ok (.if_icmp .ne 7, 3) := by decide +kernel
theorem dX6_goBy_20 : decode cX6_goBy 20 = .ok (.aload_n 0, 1) := by decide +kernel
theorem dX6_goBy_21 : decode cX6_goBy 21 = .ok (.invokevirtual 49, 3) := by decide +kernel
theorem dX6_goBy_24 : decode cX6_goBy 24 = .ok (.aload_n 0, 1) := by decide +kernel
theorem dX6_goBy_25 : decode cX6_goBy 25 = .ok (.invokevirtual 52, 3) := by decide +kernel
theorem dX6_goBy_28 : decode cX6_goBy 28 = .ok (.aload_n 0, 1) := by decide +kernel
theorem dX6_goBy_29 : decode cX6_goBy 29 = .ok (.getfield 32, 3) := by decide +kernel
theorem dX6_goBy_32 : decode cX6_goBy 32 = .ok (.dup, 1) := by decide +kernel
theorem dX6_goBy_33 : decode cX6_goBy 33 = .ok (.getfield 55, 3) := by decide +kernel
theorem dX6_goBy_36 : decode cX6_goBy 36 = .ok (.iconst 1, 1) := by decide +kernel
theorem dX6_goBy_37 : decode cX6_goBy 37 = .ok (.iadd, 1) := by decide +kernel
theorem dX6_goBy_38 : decode cX6_goBy 38 = .ok (.putfield 55, 3) := by decide +kernel
theorem dX6_goBy_41 : decode cX6_goBy 41 = .ok (.return_, 1) := by decide +kernel
theorem rX6_goBy : (∀ (d : Nat) (x : Nat) (st : List Value) (h : fk_H), fk_ev d qX6_goBy 0 [.ref x] st h = fk_ev d qX6_goBy 1 [.ref x] (.ref x :: st) h) ∧
  (∀ (d : Nat) (L : List Value)   (N : Nat) (y : Nat → Nat → Int32) (l : Nat → Nat → Int64), fk_ev (d + 1) qX6_goBy 1 L (.ref 238 :: []) (fk_E N y l) = (fk_ev d qX6_comeNearer 0 [.ref 238, .null, .null] [] (fk_E N y l)).bind fun o => fk_ev (d + 1) qX6_goBy 4 L (o.1.toList ++ []) o.2) ∧
  (∀ (d : Nat) (x : Nat) (st : List Value) (h : fk_H), fk_ev d qX6_goBy 4 [.ref x] st h = fk_ev d qX6_goBy 5 [.ref x] (.ref x :: st) h) ∧
  (∀ (d : Nat) (L : List Value)   (N : Nat) (y : Nat → Nat → Int32) (l : Nat → Nat → Int64), fk_ev (d + 1) qX6_goBy 5 L (.ref 238 :: []) (fk_E N y l) = (fk_ev d qX6_meetAgain 0 [.ref 238, .null, .null, .null, .null, .null] [] (fk_E N y l)).bind fun o => fk_ev (d + 1) qX6_goBy 8 L (o.1.toList ++ []) o.2) ∧
  (∀ (d : Nat) (x : Nat) (st : List Value) (h : fk_H), fk_ev d qX6_goBy 8 [.ref x] st h = fk_ev d qX6_goBy 9 [.ref x] (.ref x :: st) h) ∧
  (∀ (d : Nat) (L : List Value)   (N : Nat) (y : Nat → Nat → Int32) (l : Nat → Nat → Int64), fk_ev (d + 1) qX6_goBy 9 L (.ref 238 :: []) (fk_E N y l) = (fk_ev d qX6_arrive 0 [.ref 238, .null, .null] [] (fk_E N y l)).bind fun o => fk_ev (d + 1) qX6_goBy 12 L (o.1.toList ++ []) o.2) ∧
  (∀ (d : Nat) (x : Nat) (st : List Value) (h : fk_H), fk_ev d qX6_goBy 12 [.ref x] st h = fk_ev d qX6_goBy 13 [.ref x] (.ref x :: st) h) ∧
  (∀ (d : Nat) (L st : List Value) (N : Nat) (y : Nat → Nat → Int32) (l : Nat → Nat → Int64), fk_ev d qX6_goBy 13 L (.ref 238 :: st) (fk_E N y l) = fk_ev d qX6_goBy 16 L (.int (y 238 4) :: st) (fk_E N y l)) ∧
  (∀ (d : Nat) (L st : List Value) (h : fk_H), fk_ev d qX6_goBy 16 L st h = fk_ev d qX6_goBy 17 L (.int ((-1 : Int32)) :: st) h) ∧
  (∀ (d : Nat) (L : List Value) (x y : Int32) (st : List Value) (h : fk_H), fk_ev d qX6_goBy 17 L (.int y :: .int x :: st) h = if ¬ x = y then fk_ev d qX6_goBy 24 L st h else fk_ev d qX6_goBy 20 L st h) ∧
  (∀ (d : Nat) (x : Nat) (st : List Value) (h : fk_H), fk_ev d qX6_goBy 20 [.ref x] st h = fk_ev d qX6_goBy 21 [.ref x] (.ref x :: st) h) ∧
  (∀ (d : Nat) (L : List Value)   (N : Nat) (y : Nat → Nat → Int32) (l : Nat → Nat → Int64), fk_ev (d + 1) qX6_goBy 21 L (.ref 238 :: []) (fk_E N y l) = (fk_ev d qX6_die 0 [.ref 238, .null, .null] [] (fk_E N y l)).bind fun o => fk_ev (d + 1) qX6_goBy 24 L (o.1.toList ++ []) o.2) ∧
  (∀ (d : Nat) (x : Nat) (st : List Value) (h : fk_H), fk_ev d qX6_goBy 24 [.ref x] st h = fk_ev d qX6_goBy 25 [.ref x] (.ref x :: st) h) ∧
  (∀ (d : Nat) (L : List Value)   (N : Nat) (y : Nat → Nat → Int32) (l : Nat → Nat → Int64), fk_ev (d + 1) qX6_goBy 25 L (.ref 238 :: []) (fk_E N y l) = (fk_ev d qX6_setOut 0 [.ref 238, .null, .null, .null, .null, .null, .null, .null, .null, .null] [] (fk_E N y l)).bind fun o => fk_ev (d + 1) qX6_goBy 28 L (o.1.toList ++ []) o.2) ∧
  (∀ (d : Nat) (x : Nat) (st : List Value) (h : fk_H), fk_ev d qX6_goBy 28 [.ref x] st h = fk_ev d qX6_goBy 29 [.ref x] (.ref x :: st) h) ∧
  (∀ (d : Nat) (L st : List Value) (N : Nat) (y : Nat → Nat → Int32) (l : Nat → Nat → Int64), fk_ev d qX6_goBy 29 L (.ref 238 :: st) (fk_E N y l) = fk_ev d qX6_goBy 32 L (.ref (y 238 2).toNatClampNeg :: st) (fk_E N y l)) ∧
  (∀ (d : Nat) (L : List Value) (x : Nat) (st : List Value) (h : fk_H), fk_ev d qX6_goBy 32 L (.ref x :: st) h = fk_ev d qX6_goBy 33 L (.ref x :: .ref x :: st) h) ∧
  (∀ (d : Nat) (L st : List Value) (N : Nat) (y : Nat → Nat → Int32) (l : Nat → Nat → Int64) (c : Nat), fk_at c 8 → fk_ev d qX6_goBy 33 L (.ref c :: st) (fk_E N y l) = fk_ev d qX6_goBy 36 L (.int (y c 3) :: st) (fk_E N y l)) ∧
  (∀ (d : Nat) (L st : List Value) (h : fk_H), fk_ev d qX6_goBy 36 L st h = fk_ev d qX6_goBy 37 L (.int (nI 1) :: st) h) ∧
  (∀ (d : Nat) (L : List Value) (x y : Int32) (st : List Value) (h : fk_H), fk_ev d qX6_goBy 37 L (.int y :: .int x :: st) h = fk_ev d qX6_goBy 38 L (.int (x + y) :: st) h) ∧
  (∀ (d : Nat) (L st : List Value) (N : Nat) (y : Nat → Nat → Int32) (l : Nat → Nat → Int64) (c : Nat) (v : Int32), fk_at c 8 → fk_ev d qX6_goBy 38 L (.int v :: .ref c :: st) (fk_E N y l) = fk_ev d qX6_goBy 41 L st (fk_E N (fk_u y c 3 v) l)) ∧
  (∀ (d : Nat) (L : List Value) (h : fk_H), fk_ev d qX6_goBy 41 L [] h = some (none, h)) := ⟨fun d  x st h => fk_w_aloadn 0 [.ref x] dX6_goBy_0 rfl,
  fun d L  N y l  => fk_g_call [] [] rfl lm_6_40 dX6_goBy_1 rfl ⟨rfl, by decide⟩ (by simp) fk_at_238,
  fun d  x st h => fk_w_aloadn 0 [.ref x] dX6_goBy_4 rfl,
  fun d L  N y l  => fk_g_call [] [] rfl lm_6_43 dX6_goBy_5 rfl ⟨rfl, by decide⟩ (by simp) fk_at_238,
  fun d  x st h => fk_w_aloadn 0 [.ref x] dX6_goBy_8 rfl,
  fun d L  N y l  => fk_g_call [] [] rfl lm_6_46 dX6_goBy_9 rfl ⟨rfl, by decide⟩ (by simp) fk_at_238,
  fun d  x st h => fk_w_aloadn 0 [.ref x] dX6_goBy_12 rfl,
  fun d L st N y l => fk_g_getI rfl lf_6_15 (by decide) dX6_goBy_13 fk_at_238,
  fun d L st h => fk_w_iconst dX6_goBy_16 (by decide),
  fun d L x y st h => fk_r_icmp_ne dX6_goBy_17 (by decide),
  fun d  x st h => fk_w_aloadn 0 [.ref x] dX6_goBy_20 rfl,
  fun d L  N y l  => fk_g_call [] [] rfl lm_6_49 dX6_goBy_21 rfl ⟨rfl, by decide⟩ (by simp) fk_at_238,
  fun d  x st h => fk_w_aloadn 0 [.ref x] dX6_goBy_24 rfl,
  fun d L  N y l  => fk_g_call [] [] rfl lm_6_52 dX6_goBy_25 rfl ⟨rfl, by decide⟩ (by simp) fk_at_238,
  fun d  x st h => fk_w_aloadn 0 [.ref x] dX6_goBy_28 rfl,
  fun d L st N y l => fk_g_getM rfl lf_6_32 (by decide) dX6_goBy_29 fk_at_238,
  fun d L x st h => fk_r_dup_ref dX6_goBy_32,
  fun d L st N y l c hc => fk_g_getI rfl lf_6_55 (by decide) dX6_goBy_33 hc,
  fun d L st h => fk_w_iconst dX6_goBy_36 (by decide),
  fun d L x y st h => fk_r_iadd dX6_goBy_37,
  fun d L st N y l c v hc => fk_g_putI rfl lf_6_55 (by decide) dX6_goBy_38 rfl hc,
  fun d L h => fk_r_vret dX6_goBy_41 rfl⟩
