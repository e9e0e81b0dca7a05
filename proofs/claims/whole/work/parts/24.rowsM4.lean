theorem dX12_closed_0 : decode cX12_closed 0 = .ok (.iload_n 1, 1) := by decide +kernel
theorem dX12_closed_1 : decode cX12_closed 1 = .ok (.invokestatic 116, 3) := by decide +kernel
theorem dX12_closed_4 : decode cX12_closed 4 = .ok (.ifCond .eq 24, 3) := by decide +kernel
theorem dX12_closed_7 : decode cX12_closed 7 = .ok (.iload_n 2, 1) := by decide +kernel
theorem dX12_closed_8 : decode cX12_closed 8 = .ok (.invokestatic 116, 3) := by decide +kernel
theorem dX12_closed_11 : decode cX12_closed 11 = .ok (.ifCond .eq 17, 3) := by decide +kernel
theorem dX12_closed_14 : decode cX12_closed 14 = .ok (.iload_n 1, 1) := by decide +kernel
theorem dX12_closed_15 : decode cX12_closed 15 = .ok (.iload_n 2, 1) := by decide +kernel
theorem dX12_closed_16 : decode cX12_closed 16 = .ok (.if_icmp .eq 12, 3) := by decide +kernel
theorem dX12_closed_19 : decode cX12_closed 19 = .ok (.iload_n 3, 1) := by decide +kernel
theorem dX12_closed_20 : decode cX12_closed 20 = .ok (.iconst 0, 1) := by decide +kernel
theorem dX12_closed_21 : decode cX12_closed 21 = .ok (.iconst 1, 1) := by decide +kernel
theorem dX12_closed_22 : decode cX12_closed 22 = .ok (.invokestatic 112, 3) := by decide +kernel
theorem dX12_closed_25 : decode cX12_closed 25 = .ok (.ifCond .ne 5, 3) := by decide +kernel
theorem dX12_closed_28 : decode cX12_closed 28 = .ok (.iconst (-1), 1) := by decide +kernel
theorem dX12_closed_29 : decode cX12_closed 29 = .ok (.ireturn, 1) := by decide +kernel
theorem dX12_closed_30 : decode cX12_closed 30 = .ok (.aload_n 0, 1) := by decide +kernel
theorem dX12_closed_31 : decode cX12_closed 31 = .ok (.iload_n 1, 1) := by decide +kernel
theorem dX12_closed_32 : decode cX12_closed 32 = .ok (.iconst 0, 1) := by decide +kernel
theorem dX12_closed_33 : decode cX12_closed 33 = .ok (.invokevirtual 397, 3) := by decide +kernel
theorem dX12_closed_36 : decode cX12_closed 36 = .ok (.iconst 1, 1) := by decide +kernel
theorem dX12_closed_37 : decode cX12_closed 37 = .ok (.iload_n 1, 1) := by decide +kernel
theorem dX12_closed_38 : decode cX12_closed 38 = .ok (.ishl, 1) := by decide +kernel
theorem dX12_closed_39 : decode cX12_closed 39 = .ok (.iconst 1, 1) := by decide +kernel
theorem dX12_closed_40 : decode cX12_closed 40 = .ok (.iload_n 2, 1) := by decide +kernel
theorem dX12_closed_41 : decode cX12_closed 41 = .ok (.ishl, 1) := by decide +kernel
theorem dX12_closed_42 : decode cX12_closed 42 = .ok (.ior, 1) := by decide +kernel
theorem dX12_closed_43 : decode cX12_closed 43 = .ok (.iconst (-1), 1) := by decide +kernel
theorem dX12_closed_44 : decode cX12_closed 44 = .ok (.ixor, 1) := by decide +kernel
theorem dX12_closed_45 : decode cX12_closed 45 = .ok (.iand, 1) := by decide +kernel
theorem dX12_closed_46 : decode cX12_closed 46 = .ok (.istore 4, 2) := by decide +kernel
theorem dX12_closed_48 : decode cX12_closed 48 = .ok (.iconst (-1), 1) := by decide +kernel
theorem dX12_closed_49 : decode cX12_closed 49 = .ok (.istore 5, 2) := by decide +kernel
theorem dX12_closed_51 : decode cX12_closed 51 = .ok (.iconst 0, 1) := by decide +kernel
theorem dX12_closed_52 : decode cX12_closed 52 = .ok (.istore 6, 2) := by decide +kernel
theorem dX12_closed_54 : decode cX12_closed 54 = .ok (.iload 6, 2) := by decide +kernel
theorem dX12_closed_56 : decode cX12_closed 56 = .ok (.iload 4, 2) := by decide +kernel
theorem dX12_closed_58 : decode cX12_closed 58 = .ok (.if_icmp .gt 59, 3) := by decide +kernel
theorem dX12_closed_61 : decode cX12_closed 61 = .ok (.iload 6, 2) := by decide +kernel
theorem dX12_closed_63 : decode cX12_closed 63 = .ok (.iload 4, 2) := by decide +kernel
theorem dX12_closed_65 : decode cX12_closed 65 = .ok (.iconst (-1), 1) := by decide +kernel
theorem dX12_closed_66 : decode cX12_closed 66 = .ok (.ixor, 1) := by decide +kernel
theorem dX12_closed_67 : decode cX12_closed 67 = .ok (.iand, 1) := by decide +kernel
theorem dX12_closed_68 : decode cX12_closed 68 = .ok (.ifCond .ne 43, 3) := by decide +kernel
theorem dX12_closed_71 : decode cX12_closed 71 = .ok (.iload 5, 2) := by decide +kernel
theorem dX12_closed_73 : decode cX12_closed 73 = .ok (.iconst (-1), 1) := by decide +kernel
theorem dX12_closed_74 : decode cX12_closed 74 = .ok (.if_icmp .eq 19, 3) := by decide +kernel
theorem dX12_closed_77 : decode cX12_closed 77 = .ok (.iload 6, 2) := by decide +kernel
theorem dX12_closed_79 : decode cX12_closed 79 = .ok (.invokestatic 260, 3) := by decide +kernel
theorem dX12_closed_82 : decode cX12_closed 82 = .ok (.iload 5, 2) := by decide +kernel
theorem dX12_closed_84 : decode cX12_closed 84 = .ok (.invokestatic 260, 3) := by decide +kernel
theorem dX12_closed_87 : decode cX12_closed 87 = .ok (.if_icmp .lt 6, 3) := by decide +kernel
theorem dX12_closed_90 : decode cX12_closed 90 = .ok (.goto 21, 3) := by decide +kernel
theorem dX12_closed_93 : decode cX12_closed 93 = .ok (.aload_n 0, 1) := by decide +kernel
theorem dX12_closed_94 : decode cX12_closed 94 = .ok (.iload_n 1, 1) := by decide +kernel
theorem dX12_closed_95 : decode cX12_closed 95 = .ok (.iload 6, 2) := by decide +kernel
theorem dX12_closed_97 : decode cX12_closed 97 = .ok (.invokevirtual 397, 3) := by decide +kernel
theorem dX12_closed_100 : decode cX12_closed 100 = .ok (.iload_n 2, 1) := by decide +kernel
theorem dX12_closed_101 : decode cX12_closed 101 = .ok (.invokestatic 108, 3) := by decide +kernel
theorem dX12_closed_104 : decode cX12_closed 104 = .ok (.ifCond .ne 7, 3) := by decide +kernel
theorem dX12_closed_107 : decode cX12_closed 107 = .ok (.iload 6, 2) := by decide +kernel
theorem dX12_closed_109 : decode cX12_closed 109 = .ok (.istore 5, 2) := by decide +kernel
theorem dX12_closed_111 : decode cX12_closed 111 = .ok (.iinc 6 1, 3) := by decide +kernel
theorem dX12_closed_114 : decode cX12_closed 114 = .ok (.goto (-60), 3) := by decide +kernel
theorem dX12_closed_117 : decode cX12_closed 117 = .ok (.iload 5, 2) := by decide +kernel
theorem dX12_closed_119 : decode cX12_closed 119 = .ok (.iconst (-1), 1) := by decide +kernel
theorem dX12_closed_120 : decode cX12_closed 120 = .ok (.if_icmp .ne 8, 3) := by decide +kernel
theorem dX12_closed_123 : decode cX12_closed 123 = .ok (.bipush (-2), 2) := by decide +kernel
theorem dX12_closed_125 : decode cX12_closed 125 = .ok (.goto 17, 3) := by decide +kernel
theorem dX12_closed_128 : decode cX12_closed 128 = .ok (.iload_n 3, 1) := by decide +kernel
theorem dX12_closed_129 : decode cX12_closed 129 = .ok (.ifCond .ne 11, 3) := by decide +kernel
theorem dX12_closed_132 : decode cX12_closed 132 = .ok (.iload 5, 2) := by decide +kernel
theorem dX12_closed_134 : decode cX12_closed 134 = .ok (.invokestatic 260, 3) := by decide +kernel
theorem dX12_closed_137 : decode cX12_closed 137 = .ok (.goto 5, 3) := by decide +kernel
theorem dX12_closed_140 : decode cX12_closed 140 = .ok (.iload 5, 2) := by decide +kernel
theorem dX12_closed_142 : decode cX12_closed 142 = .ok (.ireturn, 1) := by decide +kernel
theorem rX12_closed : (∀ (d : Nat) (a0 a2 a3 a4 a5 a6 : Value) (x : Int32) (st : List Value) (h : fk_H), fk_ev d qX12_closed 0 [a0, .int x, a2, a3, a4, a5, a6] st h = fk_ev d qX12_closed 1 [a0, .int x, a2, a3, a4, a5, a6] (.int x :: st) h) ∧
  (∀ (d : Nat) (L : List Value) (x0 : Int32)  (h : fk_H), fk_ev (d + 1) qX12_closed 1 L (.int x0 :: []) h = (fk_ev d qX12_isPlace 0 [.int x0] [] h).bind fun o => fk_ev (d + 1) qX12_closed 4 L (o.1.toList ++ []) o.2) ∧
  (∀ (d : Nat) (L : List Value) (x : Int32) (st : List Value) (h : fk_H), fk_ev d qX12_closed 4 L (.int x :: st) h = if x = nI 0 then fk_ev d qX12_closed 28 L st h else fk_ev d qX12_closed 7 L st h) ∧
  (∀ (d : Nat) (a0 a1 a3 a4 a5 a6 : Value) (x : Int32) (st : List Value) (h : fk_H), fk_ev d qX12_closed 7 [a0, a1, .int x, a3, a4, a5, a6] st h = fk_ev d qX12_closed 8 [a0, a1, .int x, a3, a4, a5, a6] (.int x :: st) h) ∧
  (∀ (d : Nat) (L : List Value) (x0 : Int32)  (h : fk_H), fk_ev (d + 1) qX12_closed 8 L (.int x0 :: []) h = (fk_ev d qX12_isPlace 0 [.int x0] [] h).bind fun o => fk_ev (d + 1) qX12_closed 11 L (o.1.toList ++ []) o.2) ∧
  (∀ (d : Nat) (L : List Value) (x : Int32) (st : List Value) (h : fk_H), fk_ev d qX12_closed 11 L (.int x :: st) h = if x = nI 0 then fk_ev d qX12_closed 28 L st h else fk_ev d qX12_closed 14 L st h) ∧
  (∀ (d : Nat) (a0 a2 a3 a4 a5 a6 : Value) (x : Int32) (st : List Value) (h : fk_H), fk_ev d qX12_closed 14 [a0, .int x, a2, a3, a4, a5, a6] st h = fk_ev d qX12_closed 15 [a0, .int x, a2, a3, a4, a5, a6] (.int x :: st) h) ∧
  (∀ (d : Nat) (a0 a1 a3 a4 a5 a6 : Value) (x : Int32) (st : List Value) (h : fk_H), fk_ev d qX12_closed 15 [a0, a1, .int x, a3, a4, a5, a6] st h = fk_ev d qX12_closed 16 [a0, a1, .int x, a3, a4, a5, a6] (.int x :: st) h) ∧
  (∀ (d : Nat) (L : List Value) (x y : Int32) (st : List Value) (h : fk_H), fk_ev d qX12_closed 16 L (.int y :: .int x :: st) h = if x = y then fk_ev d qX12_closed 28 L st h else fk_ev d qX12_closed 19 L st h) ∧
  (∀ (d : Nat) (a0 a1 a2 a4 a5 a6 : Value) (x : Int32) (st : List Value) (h : fk_H), fk_ev d qX12_closed 19 [a0, a1, a2, .int x, a4, a5, a6] st h = fk_ev d qX12_closed 20 [a0, a1, a2, .int x, a4, a5, a6] (.int x :: st) h) ∧
  (∀ (d : Nat) (L st : List Value) (h : fk_H), fk_ev d qX12_closed 20 L st h = fk_ev d qX12_closed 21 L (.int (nI 0) :: st) h) ∧
  (∀ (d : Nat) (L st : List Value) (h : fk_H), fk_ev d qX12_closed 21 L st h = fk_ev d qX12_closed 22 L (.int (nI 1) :: st) h) ∧
  (∀ (d : Nat) (L : List Value) (x0 : Int32) (x1 : Int32) (x2 : Int32)  (h : fk_H), fk_ev (d + 1) qX12_closed 22 L (.int x2 :: .int x1 :: .int x0 :: []) h = (fk_ev d qX12_in 0 [.int x0, .int x1, .int x2] [] h).bind fun o => fk_ev (d + 1) qX12_closed 25 L (o.1.toList ++ []) o.2) ∧
  (∀ (d : Nat) (L : List Value) (x : Int32) (st : List Value) (h : fk_H), fk_ev d qX12_closed 25 L (.int x :: st) h = if ¬ x = nI 0 then fk_ev d qX12_closed 30 L st h else fk_ev d qX12_closed 28 L st h) ∧
  (∀ (d : Nat) (L st : List Value) (h : fk_H), fk_ev d qX12_closed 28 L st h = fk_ev d qX12_closed 29 L (.int ((-1 : Int32)) :: st) h) ∧
  (∀ (d : Nat) (L : List Value) (x : Int32) (h : fk_H), fk_ev d qX12_closed 29 L [.int x] h = some (some (.int x), h)) ∧
  (∀ (d : Nat) (a1 a2 a3 a4 a5 a6 : Value) (x : Nat) (st : List Value) (h : fk_H), fk_ev d qX12_closed 30 [.ref x, a1, a2, a3, a4, a5, a6] st h = fk_ev d qX12_closed 31 [.ref x, a1, a2, a3, a4, a5, a6] (.ref x :: st) h) ∧
  (∀ (d : Nat) (a0 a2 a3 a4 a5 a6 : Value) (x : Int32) (st : List Value) (h : fk_H), fk_ev d qX12_closed 31 [a0, .int x, a2, a3, a4, a5, a6] st h = fk_ev d qX12_closed 32 [a0, .int x, a2, a3, a4, a5, a6] (.int x :: st) h) ∧
  (∀ (d : Nat) (L st : List Value) (h : fk_H), fk_ev d qX12_closed 32 L st h = fk_ev d qX12_closed 33 L (.int (nI 0) :: st) h) ∧
  (∀ (d : Nat) (L : List Value) (x0 : Int32) (x1 : Int32)  (N : Nat) (y : Nat → Nat → Int32) (l : Nat → Nat → Int64), fk_ev (d + 1) qX12_closed 33 L (.int x1 :: .int x0 :: .ref 246 :: []) (fk_E N y l) = (fk_ev d qX12_reachedFrom 0 [.ref 246, .int x0, .int x1, .null, .null, .null] [] (fk_E N y l)).bind fun o => fk_ev (d + 1) qX12_closed 36 L (o.1.toList ++ []) o.2) ∧
  (∀ (d : Nat) (L st : List Value) (h : fk_H), fk_ev d qX12_closed 36 L st h = fk_ev d qX12_closed 37 L (.int (nI 1) :: st) h) ∧
  (∀ (d : Nat) (a0 a2 a3 a4 a5 a6 : Value) (x : Int32) (st : List Value) (h : fk_H), fk_ev d qX12_closed 37 [a0, .int x, a2, a3, a4, a5, a6] st h = fk_ev d qX12_closed 38 [a0, .int x, a2, a3, a4, a5, a6] (.int x :: st) h) ∧
  (∀ (d : Nat) (L : List Value) (x y : Int32) (st : List Value) (h : fk_H), fk_ev d qX12_closed 38 L (.int y :: .int x :: st) h = fk_ev d qX12_closed 39 L (.int (x <<< (y &&& 31)) :: st) h) ∧
  (∀ (d : Nat) (L st : List Value) (h : fk_H), fk_ev d qX12_closed 39 L st h = fk_ev d qX12_closed 40 L (.int (nI 1) :: st) h) ∧
  (∀ (d : Nat) (a0 a1 a3 a4 a5 a6 : Value) (x : Int32) (st : List Value) (h : fk_H), fk_ev d qX12_closed 40 [a0, a1, .int x, a3, a4, a5, a6] st h = fk_ev d qX12_closed 41 [a0, a1, .int x, a3, a4, a5, a6] (.int x :: st) h) ∧
  (∀ (d : Nat) (L : List Value) (x y : Int32) (st : List Value) (h : fk_H), fk_ev d qX12_closed 41 L (.int y :: .int x :: st) h = fk_ev d qX12_closed 42 L (.int (x <<< (y &&& 31)) :: st) h) ∧
  (∀ (d : Nat) (L : List Value) (x y : Int32) (st : List Value) (h : fk_H), fk_ev d qX12_closed 42 L (.int y :: .int x :: st) h = fk_ev d qX12_closed 43 L (.int (x ||| y) :: st) h) ∧
  (∀ (d : Nat) (L st : List Value) (h : fk_H), fk_ev d qX12_closed 43 L st h = fk_ev d qX12_closed 44 L (.int ((-1 : Int32)) :: st) h) ∧
  (∀ (d : Nat) (L : List Value) (x y : Int32) (st : List Value) (h : fk_H), fk_ev d qX12_closed 44 L (.int y :: .int x :: st) h = fk_ev d qX12_closed 45 L (.int (x ^^^ y) :: st) h) ∧
  (∀ (d : Nat) (L : List Value) (x y : Int32) (st : List Value) (h : fk_H), fk_ev d qX12_closed 45 L (.int y :: .int x :: st) h = fk_ev d qX12_closed 46 L (.int (x &&& y) :: st) h) ∧
  (∀ (d : Nat) (a0 a1 a2 a3 a4 a5 a6 : Value) (x : Int32) (st : List Value) (h : fk_H), fk_ev d qX12_closed 46 [a0, a1, a2, a3, a4, a5, a6] (.int x :: st) h = fk_ev d qX12_closed 48 [a0, a1, a2, a3, .int x, a5, a6] st h) ∧
  (∀ (d : Nat) (L st : List Value) (h : fk_H), fk_ev d qX12_closed 48 L st h = fk_ev d qX12_closed 49 L (.int ((-1 : Int32)) :: st) h) ∧
  (∀ (d : Nat) (a0 a1 a2 a3 a4 a5 a6 : Value) (x : Int32) (st : List Value) (h : fk_H), fk_ev d qX12_closed 49 [a0, a1, a2, a3, a4, a5, a6] (.int x :: st) h = fk_ev d qX12_closed 51 [a0, a1, a2, a3, a4, .int x, a6] st h) ∧
  (∀ (d : Nat) (L st : List Value) (h : fk_H), fk_ev d qX12_closed 51 L st h = fk_ev d qX12_closed 52 L (.int (nI 0) :: st) h) ∧
  (∀ (d : Nat) (a0 a1 a2 a3 a4 a5 a6 : Value) (x : Int32) (st : List Value) (h : fk_H), fk_ev d qX12_closed 52 [a0, a1, a2, a3, a4, a5, a6] (.int x :: st) h = fk_ev d qX12_closed 54 [a0, a1, a2, a3, a4, a5, .int x] st h) ∧
  (∀ (d : Nat) (a0 a1 a2 a3 a5 a6 : Value) (x : Int32) (st : List Value) (h : fk_H), fk_ev d qX12_closed 56 [a0, a1, a2, a3, .int x, a5, a6] st h = fk_ev d qX12_closed 58 [a0, a1, a2, a3, .int x, a5, a6] (.int x :: st) h) ∧
  (∀ (d : Nat) (L : List Value) (x y : Int32) (st : List Value) (h : fk_H), fk_ev d qX12_closed 58 L (.int y :: .int x :: st) h = if y < x then fk_ev d qX12_closed 117 L st h else fk_ev d qX12_closed 61 L st h) ∧
  (∀ (d : Nat) (a0 a1 a2 a3 a4 a5 : Value) (x : Int32) (st : List Value) (h : fk_H), fk_ev d qX12_closed 61 [a0, a1, a2, a3, a4, a5, .int x] st h = fk_ev d qX12_closed 63 [a0, a1, a2, a3, a4, a5, .int x] (.int x :: st) h) ∧
  (∀ (d : Nat) (a0 a1 a2 a3 a5 a6 : Value) (x : Int32) (st : List Value) (h : fk_H), fk_ev d qX12_closed 63 [a0, a1, a2, a3, .int x, a5, a6] st h = fk_ev d qX12_closed 65 [a0, a1, a2, a3, .int x, a5, a6] (.int x :: st) h) ∧
  (∀ (d : Nat) (L st : List Value) (h : fk_H), fk_ev d qX12_closed 65 L st h = fk_ev d qX12_closed 66 L (.int ((-1 : Int32)) :: st) h) ∧
  (∀ (d : Nat) (L : List Value) (x y : Int32) (st : List Value) (h : fk_H), fk_ev d qX12_closed 66 L (.int y :: .int x :: st) h = fk_ev d qX12_closed 67 L (.int (x ^^^ y) :: st) h) ∧
  (∀ (d : Nat) (L : List Value) (x y : Int32) (st : List Value) (h : fk_H), fk_ev d qX12_closed 67 L (.int y :: .int x :: st) h = fk_ev d qX12_closed 68 L (.int (x &&& y) :: st) h) ∧
  (∀ (d : Nat) (L : List Value) (x : Int32) (st : List Value) (h : fk_H), fk_ev d qX12_closed 68 L (.int x :: st) h = if ¬ x = nI 0 then fk_ev d qX12_closed 111 L st h else fk_ev d qX12_closed 71 L st h) ∧
  (∀ (d : Nat) (a0 a1 a2 a3 a4 a6 : Value) (x : Int32) (st : List Value) (h : fk_H), fk_ev d qX12_closed 71 [a0, a1, a2, a3, a4, .int x, a6] st h = fk_ev d qX12_closed 73 [a0, a1, a2, a3, a4, .int x, a6] (.int x :: st) h) ∧
  (∀ (d : Nat) (L st : List Value) (h : fk_H), fk_ev d qX12_closed 73 L st h = fk_ev d qX12_closed 74 L (.int ((-1 : Int32)) :: st) h) ∧
  (∀ (d : Nat) (L : List Value) (x y : Int32) (st : List Value) (h : fk_H), fk_ev d qX12_closed 74 L (.int y :: .int x :: st) h = if x = y then fk_ev d qX12_closed 93 L st h else fk_ev d qX12_closed 77 L st h) ∧
  (∀ (d : Nat) (a0 a1 a2 a3 a4 a5 : Value) (x : Int32) (st : List Value) (h : fk_H), fk_ev d qX12_closed 77 [a0, a1, a2, a3, a4, a5, .int x] st h = fk_ev d qX12_closed 79 [a0, a1, a2, a3, a4, a5, .int x] (.int x :: st) h) ∧
  (∀ (d : Nat) (L : List Value) (x0 : Int32)  (h : fk_H), fk_ev (d + 1) qX12_closed 79 L (.int x0 :: []) h = (fk_ev d qX12_bits 0 [.int x0, .null, .null] [] h).bind fun o => fk_ev (d + 1) qX12_closed 82 L (o.1.toList ++ []) o.2) ∧
  (∀ (d : Nat) (a0 a1 a2 a3 a4 a6 : Value) (x : Int32) (st : List Value) (h : fk_H), fk_ev d qX12_closed 82 [a0, a1, a2, a3, a4, .int x, a6] st h = fk_ev d qX12_closed 84 [a0, a1, a2, a3, a4, .int x, a6] (.int x :: st) h) ∧
  (∀ (d : Nat) (L : List Value) (x0 : Int32) (w0 : Value) (h : fk_H), fk_ev (d + 1) qX12_closed 84 L (.int x0 :: [w0]) h = (fk_ev d qX12_bits 0 [.int x0, .null, .null] [] h).bind fun o => fk_ev (d + 1) qX12_closed 87 L (o.1.toList ++ [w0]) o.2) ∧
  (∀ (d : Nat) (L : List Value) (x y : Int32) (st : List Value) (h : fk_H), fk_ev d qX12_closed 87 L (.int y :: .int x :: st) h = if x < y then fk_ev d qX12_closed 93 L st h else fk_ev d qX12_closed 90 L st h) ∧
  (∀ (d : Nat) (L st : List Value) (h : fk_H), fk_ev d qX12_closed 90 L st h = fk_ev d qX12_closed 111 L st h) ∧
  (∀ (d : Nat) (a1 a2 a3 a4 a5 a6 : Value) (x : Nat) (st : List Value) (h : fk_H), fk_ev d qX12_closed 93 [.ref x, a1, a2, a3, a4, a5, a6] st h = fk_ev d qX12_closed 94 [.ref x, a1, a2, a3, a4, a5, a6] (.ref x :: st) h) ∧
  (∀ (d : Nat) (a0 a2 a3 a4 a5 a6 : Value) (x : Int32) (st : List Value) (h : fk_H), fk_ev d qX12_closed 94 [a0, .int x, a2, a3, a4, a5, a6] st h = fk_ev d qX12_closed 95 [a0, .int x, a2, a3, a4, a5, a6] (.int x :: st) h) ∧
  (∀ (d : Nat) (a0 a1 a2 a3 a4 a5 : Value) (x : Int32) (st : List Value) (h : fk_H), fk_ev d qX12_closed 95 [a0, a1, a2, a3, a4, a5, .int x] st h = fk_ev d qX12_closed 97 [a0, a1, a2, a3, a4, a5, .int x] (.int x :: st) h) ∧
  (∀ (d : Nat) (L : List Value) (x0 : Int32) (x1 : Int32)  (N : Nat) (y : Nat → Nat → Int32) (l : Nat → Nat → Int64), fk_ev (d + 1) qX12_closed 97 L (.int x1 :: .int x0 :: .ref 246 :: []) (fk_E N y l) = (fk_ev d qX12_reachedFrom 0 [.ref 246, .int x0, .int x1, .null, .null, .null] [] (fk_E N y l)).bind fun o => fk_ev (d + 1) qX12_closed 100 L (o.1.toList ++ []) o.2) ∧
  (∀ (d : Nat) (a0 a1 a3 a4 a5 a6 : Value) (x : Int32) (st : List Value) (h : fk_H), fk_ev d qX12_closed 100 [a0, a1, .int x, a3, a4, a5, a6] st h = fk_ev d qX12_closed 101 [a0, a1, .int x, a3, a4, a5, a6] (.int x :: st) h) ∧
  (∀ (d : Nat) (L : List Value) (x0 : Int32) (x1 : Int32)  (h : fk_H), fk_ev (d + 1) qX12_closed 101 L (.int x1 :: .int x0 :: []) h = (fk_ev d qX12_has 0 [.int x0, .int x1] [] h).bind fun o => fk_ev (d + 1) qX12_closed 104 L (o.1.toList ++ []) o.2) ∧
  (∀ (d : Nat) (L : List Value) (x : Int32) (st : List Value) (h : fk_H), fk_ev d qX12_closed 104 L (.int x :: st) h = if ¬ x = nI 0 then fk_ev d qX12_closed 111 L st h else fk_ev d qX12_closed 107 L st h) ∧
  (∀ (d : Nat) (a0 a1 a2 a3 a4 a5 : Value) (x : Int32) (st : List Value) (h : fk_H), fk_ev d qX12_closed 107 [a0, a1, a2, a3, a4, a5, .int x] st h = fk_ev d qX12_closed 109 [a0, a1, a2, a3, a4, a5, .int x] (.int x :: st) h) ∧
  (∀ (d : Nat) (a0 a1 a2 a3 a4 a5 a6 : Value) (x : Int32) (st : List Value) (h : fk_H), fk_ev d qX12_closed 109 [a0, a1, a2, a3, a4, a5, a6] (.int x :: st) h = fk_ev d qX12_closed 111 [a0, a1, a2, a3, a4, .int x, a6] st h) ∧
  (∀ (d : Nat) (a0 a1 a2 a3 a4 a5 : Value) (x : Int32) (st : List Value) (h : fk_H), fk_ev d qX12_closed 111 [a0, a1, a2, a3, a4, a5, .int x] st h = fk_ev d qX12_closed 114 [a0, a1, a2, a3, a4, a5, .int (x + nI 1)] st h) ∧
  (∀ (d : Nat) (L st : List Value) (h : fk_H), fk_ev d qX12_closed 114 L st h = fk_ev d qX12_closed 54 L st h) ∧
  (∀ (d : Nat) (a0 a1 a2 a3 a4 a6 : Value) (x : Int32) (st : List Value) (h : fk_H), fk_ev d qX12_closed 117 [a0, a1, a2, a3, a4, .int x, a6] st h = fk_ev d qX12_closed 119 [a0, a1, a2, a3, a4, .int x, a6] (.int x :: st) h) ∧
  (∀ (d : Nat) (L st : List Value) (h : fk_H), fk_ev d qX12_closed 119 L st h = fk_ev d qX12_closed 120 L (.int ((-1 : Int32)) :: st) h) ∧
  (∀ (d : Nat) (L : List Value) (x y : Int32) (st : List Value) (h : fk_H), fk_ev d qX12_closed 120 L (.int y :: .int x :: st) h = if ¬ x = y then fk_ev d qX12_closed 128 L st h else fk_ev d qX12_closed 123 L st h) ∧
  (∀ (d : Nat) (L st : List Value) (h : fk_H), fk_ev d qX12_closed 123 L st h = fk_ev d qX12_closed 125 L (.int ((-2 : Int32)) :: st) h) ∧
  (∀ (d : Nat) (L st : List Value) (h : fk_H), fk_ev d qX12_closed 125 L st h = fk_ev d qX12_closed 142 L st h) ∧
  (∀ (d : Nat) (a0 a1 a2 a4 a5 a6 : Value) (x : Int32) (st : List Value) (h : fk_H), fk_ev d qX12_closed 128 [a0, a1, a2, .int x, a4, a5, a6] st h = fk_ev d qX12_closed 129 [a0, a1, a2, .int x, a4, a5, a6] (.int x :: st) h) ∧
  (∀ (d : Nat) (L : List Value) (x : Int32) (st : List Value) (h : fk_H), fk_ev d qX12_closed 129 L (.int x :: st) h = if ¬ x = nI 0 then fk_ev d qX12_closed 140 L st h else fk_ev d qX12_closed 132 L st h) ∧
  (∀ (d : Nat) (a0 a1 a2 a3 a4 a6 : Value) (x : Int32) (st : List Value) (h : fk_H), fk_ev d qX12_closed 132 [a0, a1, a2, a3, a4, .int x, a6] st h = fk_ev d qX12_closed 134 [a0, a1, a2, a3, a4, .int x, a6] (.int x :: st) h) ∧
  (∀ (d : Nat) (L : List Value) (x0 : Int32)  (h : fk_H), fk_ev (d + 1) qX12_closed 134 L (.int x0 :: []) h = (fk_ev d qX12_bits 0 [.int x0, .null, .null] [] h).bind fun o => fk_ev (d + 1) qX12_closed 137 L (o.1.toList ++ []) o.2) ∧
  (∀ (d : Nat) (L st : List Value) (h : fk_H), fk_ev d qX12_closed 137 L st h = fk_ev d qX12_closed 142 L st h) ∧
  (∀ (d : Nat) (a0 a1 a2 a3 a4 a6 : Value) (x : Int32) (st : List Value) (h : fk_H), fk_ev d qX12_closed 140 [a0, a1, a2, a3, a4, .int x, a6] st h = fk_ev d qX12_closed 142 [a0, a1, a2, a3, a4, .int x, a6] (.int x :: st) h) ∧
  (∀ (d : Nat) (L : List Value) (x : Int32) (h : fk_H), fk_ev d qX12_closed 142 L [.int x] h = some (some (.int x), h)) := ⟨fun d a0 a2 a3 a4 a5 a6 x st h => fk_w_iloadn 1 [a0, .int x, a2, a3, a4, a5, a6] dX12_closed_0 rfl,
  fun d L x0 h => fk_g_calls [.int x0] [] rfl lm_12_116 dX12_closed_1 rfl ⟨rfl, by decide⟩ (by simp),
  fun d L x st h => fk_r_if_eq dX12_closed_4 (by decide),
  fun d a0 a1 a3 a4 a5 a6 x st h => fk_w_iloadn 2 [a0, a1, .int x, a3, a4, a5, a6] dX12_closed_7 rfl,
  fun d L x0 h => fk_g_calls [.int x0] [] rfl lm_12_116 dX12_closed_8 rfl ⟨rfl, by decide⟩ (by simp),
  fun d L x st h => fk_r_if_eq dX12_closed_11 (by decide),
  fun d a0 a2 a3 a4 a5 a6 x st h => fk_w_iloadn 1 [a0, .int x, a2, a3, a4, a5, a6] dX12_closed_14 rfl,
  fun d a0 a1 a3 a4 a5 a6 x st h => fk_w_iloadn 2 [a0, a1, .int x, a3, a4, a5, a6] dX12_closed_15 rfl,
  fun d L x y st h => fk_r_icmp_eq dX12_closed_16 (by decide),
  fun d a0 a1 a2 a4 a5 a6 x st h => fk_w_iloadn 3 [a0, a1, a2, .int x, a4, a5, a6] dX12_closed_19 rfl,
  fun d L st h => fk_w_iconst dX12_closed_20 (by decide),
  fun d L st h => fk_w_iconst dX12_closed_21 (by decide),
  fun d L x0 x1 x2 h => fk_g_calls [.int x0, .int x1, .int x2] [] rfl lm_12_112 dX12_closed_22 rfl ⟨rfl, by decide⟩ (by simp),
  fun d L x st h => fk_r_if_ne dX12_closed_25 (by decide),
  fun d L st h => fk_w_iconst dX12_closed_28 (by decide),
  fun d L x h => fk_r_ret dX12_closed_29 (Or.inl rfl),
  fun d a1 a2 a3 a4 a5 a6 x st h => fk_w_aloadn 0 [.ref x, a1, a2, a3, a4, a5, a6] dX12_closed_30 rfl,
  fun d a0 a2 a3 a4 a5 a6 x st h => fk_w_iloadn 1 [a0, .int x, a2, a3, a4, a5, a6] dX12_closed_31 rfl,
  fun d L st h => fk_w_iconst dX12_closed_32 (by decide),
  fun d L x0 x1 N y l  => fk_g_call [.int x0, .int x1] [] rfl lm_12_397 dX12_closed_33 rfl ⟨rfl, by decide⟩ (by simp) fk_at_246,
  fun d L st h => fk_w_iconst dX12_closed_36 (by decide),
  fun d a0 a2 a3 a4 a5 a6 x st h => fk_w_iloadn 1 [a0, .int x, a2, a3, a4, a5, a6] dX12_closed_37 rfl,
  fun d L x y st h => fk_r_ishl dX12_closed_38,
  fun d L st h => fk_w_iconst dX12_closed_39 (by decide),
  fun d a0 a1 a3 a4 a5 a6 x st h => fk_w_iloadn 2 [a0, a1, .int x, a3, a4, a5, a6] dX12_closed_40 rfl,
  fun d L x y st h => fk_r_ishl dX12_closed_41,
  fun d L x y st h => fk_r_ior dX12_closed_42,
  fun d L st h => fk_w_iconst dX12_closed_43 (by decide),
  fun d L x y st h => fk_r_ixor dX12_closed_44,
  fun d L x y st h => fk_r_iand dX12_closed_45,
  fun d a0 a1 a2 a3 a4 a5 a6 x st h => fk_w_istore 4 7 [] [a0, a1, a2, a3, a4, a5, a6] [a0, a1, a2, a3, .int x, a5, a6] dX12_closed_46 rfl rfl (by decide) rfl,
  fun d L st h => fk_w_iconst dX12_closed_48 (by decide),
  fun d a0 a1 a2 a3 a4 a5 a6 x st h => fk_w_istore 5 7 [] [a0, a1, a2, a3, a4, a5, a6] [a0, a1, a2, a3, a4, .int x, a6] dX12_closed_49 rfl rfl (by decide) rfl,
  fun d L st h => fk_w_iconst dX12_closed_51 (by decide),
  fun d a0 a1 a2 a3 a4 a5 a6 x st h => fk_w_istore 6 7 [] [a0, a1, a2, a3, a4, a5, a6] [a0, a1, a2, a3, a4, a5, .int x] dX12_closed_52 rfl rfl (by decide) rfl,
  fun d a0 a1 a2 a3 a5 a6 x st h => fk_w_iload 4 [a0, a1, a2, a3, .int x, a5, a6] dX12_closed_56 rfl,
  fun d L x y st h => fk_r_icmp_gt dX12_closed_58 (by decide),
  fun d a0 a1 a2 a3 a4 a5 x st h => fk_w_iload 6 [a0, a1, a2, a3, a4, a5, .int x] dX12_closed_61 rfl,
  fun d a0 a1 a2 a3 a5 a6 x st h => fk_w_iload 4 [a0, a1, a2, a3, .int x, a5, a6] dX12_closed_63 rfl,
  fun d L st h => fk_w_iconst dX12_closed_65 (by decide),
  fun d L x y st h => fk_r_ixor dX12_closed_66,
  fun d L x y st h => fk_r_iand dX12_closed_67,
  fun d L x st h => fk_r_if_ne dX12_closed_68 (by decide),
  fun d a0 a1 a2 a3 a4 a6 x st h => fk_w_iload 5 [a0, a1, a2, a3, a4, .int x, a6] dX12_closed_71 rfl,
  fun d L st h => fk_w_iconst dX12_closed_73 (by decide),
  fun d L x y st h => fk_r_icmp_eq dX12_closed_74 (by decide),
  fun d a0 a1 a2 a3 a4 a5 x st h => fk_w_iload 6 [a0, a1, a2, a3, a4, a5, .int x] dX12_closed_77 rfl,
  fun d L x0 h => fk_g_calls [.int x0] [] rfl lm_12_260 dX12_closed_79 rfl ⟨rfl, by decide⟩ (by simp),
  fun d a0 a1 a2 a3 a4 a6 x st h => fk_w_iload 5 [a0, a1, a2, a3, a4, .int x, a6] dX12_closed_82 rfl,
  fun d L x0 w0 h => fk_g_calls [.int x0] [w0] rfl lm_12_260 dX12_closed_84 rfl ⟨rfl, by decide⟩ (by simp),
  fun d L x y st h => fk_r_icmp_lt dX12_closed_87 (by decide),
  fun d L st h => fk_r_goto dX12_closed_90 (by decide),
  fun d a1 a2 a3 a4 a5 a6 x st h => fk_w_aloadn 0 [.ref x, a1, a2, a3, a4, a5, a6] dX12_closed_93 rfl,
  fun d a0 a2 a3 a4 a5 a6 x st h => fk_w_iloadn 1 [a0, .int x, a2, a3, a4, a5, a6] dX12_closed_94 rfl,
  fun d a0 a1 a2 a3 a4 a5 x st h => fk_w_iload 6 [a0, a1, a2, a3, a4, a5, .int x] dX12_closed_95 rfl,
  fun d L x0 x1 N y l  => fk_g_call [.int x0, .int x1] [] rfl lm_12_397 dX12_closed_97 rfl ⟨rfl, by decide⟩ (by simp) fk_at_246,
  fun d a0 a1 a3 a4 a5 a6 x st h => fk_w_iloadn 2 [a0, a1, .int x, a3, a4, a5, a6] dX12_closed_100 rfl,
  fun d L x0 x1 h => fk_g_calls [.int x0, .int x1] [] rfl lm_12_108 dX12_closed_101 rfl ⟨rfl, by decide⟩ (by simp),
  fun d L x st h => fk_r_if_ne dX12_closed_104 (by decide),
  fun d a0 a1 a2 a3 a4 a5 x st h => fk_w_iload 6 [a0, a1, a2, a3, a4, a5, .int x] dX12_closed_107 rfl,
  fun d a0 a1 a2 a3 a4 a5 a6 x st h => fk_w_istore 5 7 [] [a0, a1, a2, a3, a4, a5, a6] [a0, a1, a2, a3, a4, .int x, a6] dX12_closed_109 rfl rfl (by decide) rfl,
  fun d a0 a1 a2 a3 a4 a5 x st h => fk_w_iinc 6 7 (1) [] [a0, a1, a2, a3, a4, a5, .int x] [a0, a1, a2, a3, a4, a5, .int (x + nI 1)] dX12_closed_111 rfl rfl rfl (by decide) rfl,
  fun d L st h => fk_r_goto dX12_closed_114 (by decide),
  fun d a0 a1 a2 a3 a4 a6 x st h => fk_w_iload 5 [a0, a1, a2, a3, a4, .int x, a6] dX12_closed_117 rfl,
  fun d L st h => fk_w_iconst dX12_closed_119 (by decide),
  fun d L x y st h => fk_r_icmp_ne dX12_closed_120 (by decide),
  fun d L st h => fk_w_bipush dX12_closed_123 (by decide),
  fun d L st h => fk_r_goto dX12_closed_125 (by decide),
  fun d a0 a1 a2 a4 a5 a6 x st h => fk_w_iloadn 3 [a0, a1, a2, .int x, a4, a5, a6] dX12_closed_128 rfl,
  fun d L x st h => fk_r_if_ne dX12_closed_129 (by decide),
  fun d a0 a1 a2 a3 a4 a6 x st h => fk_w_iload 5 [a0, a1, a2, a3, a4, .int x, a6] dX12_closed_132 rfl,
  fun d L x0 h => fk_g_calls [.int x0] [] rfl lm_12_260 dX12_closed_134 rfl ⟨rfl, by decide⟩ (by simp),
  fun d L st h => fk_r_goto dX12_closed_137 (by decide),
  fun d a0 a1 a2 a3 a4 a6 x st h => fk_w_iload 5 [a0, a1, a2, a3, a4, .int x, a6] dX12_closed_140 rfl,
  fun d L x h => fk_r_ret dX12_closed_142 (Or.inl rfl)⟩
theorem hX12_closed_54 : ∀ (d : Nat) (a0 a1 a2 a3 a4 a5 : Value) (x : Int32) (st : List Value) (h : fk_H), fk_ev d qX12_closed 54 [a0, a1, a2, a3, a4, a5, .int x] st h = fk_ev d qX12_closed 56 [a0, a1, a2, a3, a4, a5, .int x] (.int x :: st) h := fun d a0 a1 a2 a3 a4 a5 x st h => fk_w_iload 6 [a0, a1, a2, a3, a4, a5, .int x] dX12_closed_54 rfl
theorem dX12_readsDigits_0 : decode cX12_readsDigits 0 = .ok (.aload_n 0, 1) := by decide +kernel
theorem dX12_readsDigits_1 : decode cX12_readsDigits 1 = .ok (.getfield 155, 3) := by decide +kernel
theorem dX12_readsDigits_4 : decode cX12_readsDigits 4 = .ok (.istore_n 2, 1) := by decide +kernel
theorem dX12_readsDigits_5 : decode cX12_readsDigits 5 = .ok (.aload_n 0, 1) := by decide +kernel
theorem dX12_readsDigits_6 : decode cX12_readsDigits 6 = .ok (.iconst 0, 1) := by decide +kernel
theorem dX12_readsDigits_7 : decode cX12_readsDigits 7 = .ok (.putfield 171, 3) := by decide +kernel
theorem dX12_readsDigits_10 : decode cX12_readsDigits 10 = .ok (.aload_n 0, 1) := by decide +kernel
theorem dX12_readsDigits_11 : decode cX12_readsDigits 11 = .ok (.invokevirtual 174, 3) := by decide +kernel
theorem dX12_readsDigits_14 : decode cX12_readsDigits 14 = .ok (.ifCond .eq 45, 3) := by decide +kernel
theorem dX12_readsDigits_17 : decode cX12_readsDigits 17 = .ok (.aload_n 0, 1) := by decide +kernel
theorem dX12_readsDigits_18 : decode cX12_readsDigits 18 = .ok (.getfield 155, 3) := by decide +kernel
theorem dX12_readsDigits_21 : decode cX12_readsDigits 21 = .ok (.iload_n 2, 1) := by decide +kernel
theorem dX12_readsDigits_22 : decode cX12_readsDigits 22 = .ok (.iload_n 1, 1) := by decide +kernel
theorem dX12_readsDigits_23 : decode cX12_readsDigits 23 = .ok (.iadd, 1) := by decide +kernel
theorem dX12_readsDigits_24 : decode cX12_readsDigits 24 = .ok (.if_icmp .ge 35, 3) := by decide +kernel
theorem dX12_readsDigits_27 : decode cX12_readsDigits 27 = .ok (.aload_n 0, 1) := by decide +kernel
theorem dX12_readsDigits_28 : decode cX12_readsDigits 28 = .ok (.bipush 10, 2) := by decide +kernel
theorem dX12_readsDigits_30 : decode cX12_readsDigits 30 = .ok (.aload_n 0, 1) := by decide +kernel
theorem dX12_readsDigits_31 : decode cX12_readsDigits 31 = .ok (.getfield 171, 3) := by decide +kernel
theorem dX12_readsDigits_34 : decode cX12_readsDigits 34 = .ok (.imul, 1) := by decide +kernel
theorem dX12_readsDigits_35 : decode cX12_readsDigits 35 = .ok (.aload_n 0, 1) := by decide +kernel
theorem dX12_readsDigits_36 : decode cX12_readsDigits 36 = .ok (.invokevirtual 161, 3) := by decide +kernel
theorem dX12_readsDigits_39 : decode cX12_readsDigits 39 = .ok (.iadd, 1) := by decide +kernel
theorem dX12_readsDigits_40 : decode cX12_readsDigits 40 = .ok (.bipush 48, 2) := by decide +kernel
theorem dX12_readsDigits_42 : decode cX12_readsDigits 42 = .ok (.isub, 1) := by decide +kernel
theorem dX12_readsDigits_43 : decode cX12_readsDigits 43 = .ok (.putfield 171, 3) := by decide +kernel
theorem dX12_readsDigits_46 : decode cX12_readsDigits 46 = .ok (.aload_n 0, 1) := by decide +kernel
theorem dX12_readsDigits_47 : decode cX12_readsDigits 47 = .ok (.aload_n 0, 1) := by decide +kernel
theorem dX12_readsDigits_48 : decode cX12_readsDigits 48 = .ok (.getfield 155, 3) := by decide +kernel
theorem dX12_readsDigits_51 : decode cX12_readsDigits 51 = .ok (.iconst 1, 1) := by decide +kernel
theorem dX12_readsDigits_52 : decode cX12_readsDigits 52 = .ok (.iadd, 1) := by decide +kernel
theorem dX12_readsDigits_53 : decode cX12_readsDigits 53 = .ok (.putfield 155, 3) := by decide +kernel
theorem dX12_readsDigits_56 : decode cX12_readsDigits 56 = .ok (.goto (-46), 3) := by decide +kernel
theorem dX12_readsDigits_59 : decode cX12_readsDigits 59 = .ok (.aload_n 0, 1) := by decide +kernel
theorem dX12_readsDigits_60 : decode cX12_readsDigits 60 = .ok (.getfield 155, 3) := by decide +kernel
theorem dX12_readsDigits_63 : decode cX12_readsDigits 63 = .ok (.iload_n 2, 1) := by decide +kernel
theorem dX12_readsDigits_64 : decode cX12_readsDigits 64 = .ok (.if_icmp .gt 15, 3) := by decide +kernel
theorem dX12_readsDigits_67 : decode cX12_readsDigits 67 = .ok (.aload_n 0, 1) := by decide +kernel
theorem dX12_readsDigits_68 : decode cX12_readsDigits 68 = .ok (.iconst 1, 1) := by decide +kernel
theorem dX12_readsDigits_69 : decode cX12_readsDigits 69 = .ok (.aload_n 0, 1) := by decide +kernel
theorem dX12_readsDigits_70 : decode cX12_readsDigits 70 = .ok (.getfield 155, 3) := by decide +kernel
theorem dX12_readsDigits_73 : decode cX12_readsDigits 73 = .ok (.invokevirtual 168, 3) := by decide +kernel
theorem dX12_readsDigits_76 : decode cX12_readsDigits 76 = .ok (.ifCond .eq 7, 3) := by decide +kernel
theorem dX12_readsDigits_79 : decode cX12_readsDigits 79 = .ok (.iconst 1, 1) := by decide +kernel
theorem dX12_readsDigits_80 : decode cX12_readsDigits 80 = .ok (.goto 4, 3) := by decide +kernel
theorem dX12_readsDigits_83 : decode cX12_readsDigits 83 = .ok (.iconst 0, 1) := by decide +kernel
theorem dX12_readsDigits_84 : decode cX12_readsDigits 84 = .ok (.ireturn, 1) := by decide +kernel
theorem rX12_readsDigits : (∀ (d : Nat) (a1 a2 : Value) (x : Nat) (st : List Value) (h : fk_H), fk_ev d qX12_readsDigits 0 [.ref x, a1, a2] st h = fk_ev d qX12_readsDigits 1 [.ref x, a1, a2] (.ref x :: st) h) ∧
  (∀ (d : Nat) (L st : List Value) (N : Nat) (y : Nat → Nat → Int32) (l : Nat → Nat → Int64), fk_ev d qX12_readsDigits 1 L (.ref 246 :: st) (fk_E N y l) = fk_ev d qX12_readsDigits 4 L (.int (y 246 11) :: st) (fk_E N y l)) ∧
  (∀ (d : Nat) (a0 a1 a2 : Value) (x : Int32) (st : List Value) (h : fk_H), fk_ev d qX12_readsDigits 4 [a0, a1, a2] (.int x :: st) h = fk_ev d qX12_readsDigits 5 [a0, a1, .int x] st h) ∧
  (∀ (d : Nat) (a1 a2 : Value) (x : Nat) (st : List Value) (h : fk_H), fk_ev d qX12_readsDigits 5 [.ref x, a1, a2] st h = fk_ev d qX12_readsDigits 6 [.ref x, a1, a2] (.ref x :: st) h) ∧
  (∀ (d : Nat) (L st : List Value) (h : fk_H), fk_ev d qX12_readsDigits 6 L st h = fk_ev d qX12_readsDigits 7 L (.int (nI 0) :: st) h) ∧
  (∀ (d : Nat) (L st : List Value) (N : Nat) (y : Nat → Nat → Int32) (l : Nat → Nat → Int64) (v : Int32), fk_ev d qX12_readsDigits 7 L (.int v :: .ref 246 :: st) (fk_E N y l) = fk_ev d qX12_readsDigits 10 L st (fk_E N (fk_u y 246 14 v) l)) ∧
  (∀ (d : Nat) (L : List Value)   (N : Nat) (y : Nat → Nat → Int32) (l : Nat → Nat → Int64), fk_ev (d + 1) qX12_readsDigits 11 L (.ref 246 :: []) (fk_E N y l) = (fk_ev d qX12_isDigit 0 [.ref 246] [] (fk_E N y l)).bind fun o => fk_ev (d + 1) qX12_readsDigits 14 L (o.1.toList ++ []) o.2) ∧
  (∀ (d : Nat) (L : List Value) (x : Int32) (st : List Value) (h : fk_H), fk_ev d qX12_readsDigits 14 L (.int x :: st) h = if x = nI 0 then fk_ev d qX12_readsDigits 59 L st h else fk_ev d qX12_readsDigits 17 L st h) ∧
  (∀ (d : Nat) (a1 a2 : Value) (x : Nat) (st : List Value) (h : fk_H), fk_ev d qX12_readsDigits 17 [.ref x, a1, a2] st h = fk_ev d qX12_readsDigits 18 [.ref x, a1, a2] (.ref x :: st) h) ∧
  (∀ (d : Nat) (L st : List Value) (N : Nat) (y : Nat → Nat → Int32) (l : Nat → Nat → Int64), fk_ev d qX12_readsDigits 18 L (.ref 246 :: st) (fk_E N y l) = fk_ev d qX12_readsDigits 21 L (.int (y 246 11) :: st) (fk_E N y l)) ∧
  (∀ (d : Nat) (a0 a1 : Value) (x : Int32) (st : List Value) (h : fk_H), fk_ev d qX12_readsDigits 21 [a0, a1, .int x] st h = fk_ev d qX12_readsDigits 22 [a0, a1, .int x] (.int x :: st) h) ∧
  (∀ (d : Nat) (a0 a2 : Value) (x : Int32) (st : List Value) (h : fk_H), fk_ev d qX12_readsDigits 22 [a0, .int x, a2] st h = fk_ev d qX12_readsDigits 23 [a0, .int x, a2] (.int x :: st) h) ∧
  (∀ (d : Nat) (L : List Value) (x y : Int32) (st : List Value) (h : fk_H), fk_ev d qX12_readsDigits 23 L (.int y :: .int x :: st) h = fk_ev d qX12_readsDigits 24 L (.int (x + y) :: st) h) ∧
  (∀ (d : Nat) (L : List Value) (x y : Int32) (st : List Value) (h : fk_H), fk_ev d qX12_readsDigits 24 L (.int y :: .int x :: st) h = if y ≤ x then fk_ev d qX12_readsDigits 59 L st h else fk_ev d qX12_readsDigits 27 L st h) ∧
  (∀ (d : Nat) (a1 a2 : Value) (x : Nat) (st : List Value) (h : fk_H), fk_ev d qX12_readsDigits 27 [.ref x, a1, a2] st h = fk_ev d qX12_readsDigits 28 [.ref x, a1, a2] (.ref x :: st) h) ∧
  (∀ (d : Nat) (L st : List Value) (h : fk_H), fk_ev d qX12_readsDigits 28 L st h = fk_ev d qX12_readsDigits 30 L (.int (nI 10) :: st) h) ∧
  (∀ (d : Nat) (a1 a2 : Value) (x : Nat) (st : List Value) (h : fk_H), fk_ev d qX12_readsDigits 30 [.ref x, a1, a2] st h = fk_ev d qX12_readsDigits 31 [.ref x, a1, a2] (.ref x :: st) h) ∧
  (∀ (d : Nat) (L st : List Value) (N : Nat) (y : Nat → Nat → Int32) (l : Nat → Nat → Int64), fk_ev d qX12_readsDigits 31 L (.ref 246 :: st) (fk_E N y l) = fk_ev d qX12_readsDigits 34 L (.int (y 246 14) :: st) (fk_E N y l)) ∧
  (∀ (d : Nat) (L : List Value) (x y : Int32) (st : List Value) (h : fk_H), fk_ev d qX12_readsDigits 34 L (.int y :: .int x :: st) h = fk_ev d qX12_readsDigits 35 L (.int (x * y) :: st) h) ∧
  (∀ (d : Nat) (a1 a2 : Value) (x : Nat) (st : List Value) (h : fk_H), fk_ev d qX12_readsDigits 35 [.ref x, a1, a2] st h = fk_ev d qX12_readsDigits 36 [.ref x, a1, a2] (.ref x :: st) h) ∧
  (∀ (d : Nat) (L : List Value)  (w0 w1 : Value) (N : Nat) (y : Nat → Nat → Int32) (l : Nat → Nat → Int64), fk_ev (d + 1) qX12_readsDigits 36 L (.ref 246 :: [w0, w1]) (fk_E N y l) = (fk_ev d qX12_here 0 [.ref 246] [] (fk_E N y l)).bind fun o => fk_ev (d + 1) qX12_readsDigits 39 L (o.1.toList ++ [w0, w1]) o.2) ∧
  (∀ (d : Nat) (L : List Value) (x y : Int32) (st : List Value) (h : fk_H), fk_ev d qX12_readsDigits 39 L (.int y :: .int x :: st) h = fk_ev d qX12_readsDigits 40 L (.int (x + y) :: st) h) ∧
  (∀ (d : Nat) (L st : List Value) (h : fk_H), fk_ev d qX12_readsDigits 40 L st h = fk_ev d qX12_readsDigits 42 L (.int (nI 48) :: st) h) ∧
  (∀ (d : Nat) (L : List Value) (x y : Int32) (st : List Value) (h : fk_H), fk_ev d qX12_readsDigits 42 L (.int y :: .int x :: st) h = fk_ev d qX12_readsDigits 43 L (.int (x - y) :: st) h) ∧
  (∀ (d : Nat) (L st : List Value) (N : Nat) (y : Nat → Nat → Int32) (l : Nat → Nat → Int64) (v : Int32), fk_ev d qX12_readsDigits 43 L (.int v :: .ref 246 :: st) (fk_E N y l) = fk_ev d qX12_readsDigits 46 L st (fk_E N (fk_u y 246 14 v) l)) ∧
  (∀ (d : Nat) (a1 a2 : Value) (x : Nat) (st : List Value) (h : fk_H), fk_ev d qX12_readsDigits 46 [.ref x, a1, a2] st h = fk_ev d qX12_readsDigits 47 [.ref x, a1, a2] (.ref x :: st) h) ∧
  (∀ (d : Nat) (a1 a2 : Value) (x : Nat) (st : List Value) (h : fk_H), fk_ev d qX12_readsDigits 47 [.ref x, a1, a2] st h = fk_ev d qX12_readsDigits 48 [.ref x, a1, a2] (.ref x :: st) h) ∧
  (∀ (d : Nat) (L st : List Value) (N : Nat) (y : Nat → Nat → Int32) (l : Nat → Nat → Int64), fk_ev d qX12_readsDigits 48 L (.ref 246 :: st) (fk_E N y l) = fk_ev d qX12_readsDigits 51 L (.int (y 246 11) :: st) (fk_E N y l)) ∧
  (∀ (d : Nat) (L st : List Value) (h : fk_H), fk_ev d qX12_readsDigits 51 L st h = fk_ev d qX12_readsDigits 52 L (.int (nI 1) :: st) h) ∧
  (∀ (d : Nat) (L : List Value) (x y : Int32) (st : List Value) (h : fk_H), fk_ev d qX12_readsDigits 52 L (.int y :: .int x :: st) h = fk_ev d qX12_readsDigits 53 L (.int (x + y) :: st) h) ∧
  (∀ (d : Nat) (L st : List Value) (N : Nat) (y : Nat → Nat → Int32) (l : Nat → Nat → Int64) (v : Int32), fk_ev d qX12_readsDigits 53 L (.int v :: .ref 246 :: st) (fk_E N y l) = fk_ev d qX12_readsDigits 56 L st (fk_E N (fk_u y 246 11 v) l)) ∧
  (∀ (d : Nat) (L st : List Value) (h : fk_H), fk_ev d qX12_readsDigits 56 L st h = fk_ev d qX12_readsDigits 10 L st h) ∧
  (∀ (d : Nat) (a1 a2 : Value) (x : Nat) (st : List Value) (h : fk_H), fk_ev d qX12_readsDigits 59 [.ref x, a1, a2] st h = fk_ev d qX12_readsDigits 60 [.ref x, a1, a2] (.ref x :: st) h) ∧
  (∀ (d : Nat) (L st : List Value) (N : Nat) (y : Nat → Nat → Int32) (l : Nat → Nat → Int64), fk_ev d qX12_readsDigits 60 L (.ref 246 :: st) (fk_E N y l) = fk_ev d qX12_readsDigits 63 L (.int (y 246 11) :: st) (fk_E N y l)) ∧
  (∀ (d : Nat) (a0 a1 : Value) (x : Int32) (st : List Value) (h : fk_H), fk_ev d qX12_readsDigits 63 [a0, a1, .int x] st h = fk_ev d qX12_readsDigits 64 [a0, a1, .int x] (.int x :: st) h) ∧
  (∀ (d : Nat) (L : List Value) (x y : Int32) (st : List Value) (h : fk_H), fk_ev d qX12_readsDigits 64 L (.int y :: .int x :: st) h = if y < x then fk_ev d qX12_readsDigits 79 L st h else fk_ev d qX12_readsDigits 67 L st h) ∧
  (∀ (d : Nat) (a1 a2 : Value) (x : Nat) (st : List Value) (h : fk_H), fk_ev d qX12_readsDigits 67 [.ref x, a1, a2] st h = fk_ev d qX12_readsDigits 68 [.ref x, a1, a2] (.ref x :: st) h) ∧
  (∀ (d : Nat) (L st : List Value) (h : fk_H), fk_ev d qX12_readsDigits 68 L st h = fk_ev d qX12_readsDigits 69 L (.int (nI 1) :: st) h) ∧
  (∀ (d : Nat) (a1 a2 : Value) (x : Nat) (st : List Value) (h : fk_H), fk_ev d qX12_readsDigits 69 [.ref x, a1, a2] st h = fk_ev d qX12_readsDigits 70 [.ref x, a1, a2] (.ref x :: st) h) ∧
  (∀ (d : Nat) (L st : List Value) (N : Nat) (y : Nat → Nat → Int32) (l : Nat → Nat → Int64), fk_ev d qX12_readsDigits 70 L (.ref 246 :: st) (fk_E N y l) = fk_ev d qX12_readsDigits 73 L (.int (y 246 11) :: st) (fk_E N y l)) ∧
  (∀ (d : Nat) (L : List Value) (x0 : Int32) (x1 : Int32)  (N : Nat) (y : Nat → Nat → Int32) (l : Nat → Nat → Int64), fk_ev (d + 1) qX12_readsDigits 73 L (.int x1 :: .int x0 :: .ref 246 :: []) (fk_E N y l) = (fk_ev d qX12_wrongAt 0 [.ref 246, .int x0, .int x1] [] (fk_E N y l)).bind fun o => fk_ev (d + 1) qX12_readsDigits 76 L (o.1.toList ++ []) o.2) ∧
  (∀ (d : Nat) (L : List Value) (x : Int32) (st : List Value) (h : fk_H), fk_ev d qX12_readsDigits 76 L (.int x :: st) h = if x = nI 0 then fk_ev d qX12_readsDigits 83 L st h else fk_ev d qX12_readsDigits 79 L st h) ∧
  (∀ (d : Nat) (L st : List Value) (h : fk_H), fk_ev d qX12_readsDigits 79 L st h = fk_ev d qX12_readsDigits 80 L (.int (nI 1) :: st) h) ∧
  (∀ (d : Nat) (L st : List Value) (h : fk_H), fk_ev d qX12_readsDigits 80 L st h = fk_ev d qX12_readsDigits 84 L st h) ∧
  (∀ (d : Nat) (L st : List Value) (h : fk_H), fk_ev d qX12_readsDigits 83 L st h = fk_ev d qX12_readsDigits 84 L (.int (nI 0) :: st) h) ∧
  (∀ (d : Nat) (L : List Value) (h : fk_H), fk_ev d qX12_readsDigits 84 L [.int (nI 0)] h = some (some (.int (nI 0)), h)) ∧
  (∀ (d : Nat) (L : List Value) (h : fk_H), fk_ev d qX12_readsDigits 84 L [.int (nI 1)] h = some (some (.int (nI 1)), h)) ∧
  (∀ (d : Nat) (L : List Value) (p : Prop) [Decidable p] (h : fk_H), fk_ev d qX12_readsDigits 84 L [.int (fk_b p)] h = some (some (.int (fk_b p)), h)) ∧
  (∀ (d : Nat) (L : List Value) (x : Int32) (h : fk_H), (x = nI 0 ∨ x = nI 1) → fk_ev d qX12_readsDigits 84 L [.int x] h = some (some (.int x), h)) := ⟨fun d a1 a2 x st h => fk_w_aloadn 0 [.ref x, a1, a2] dX12_readsDigits_0 rfl,
  fun d L st N y l => fk_g_getI rfl lf_12_155 (by decide) dX12_readsDigits_1 fk_at_246,
  fun d a0 a1 a2 x st h => fk_w_istoren 2 3 [] [a0, a1, a2] [a0, a1, .int x] dX12_readsDigits_4 rfl rfl (by decide) rfl,
  fun d a1 a2 x st h => fk_w_aloadn 0 [.ref x, a1, a2] dX12_readsDigits_5 rfl,
  fun d L st h => fk_w_iconst dX12_readsDigits_6 (by decide),
  fun d L st N y l v => fk_g_putI rfl lf_12_171 (by decide) dX12_readsDigits_7 rfl fk_at_246,
  fun d L  N y l  => fk_g_call [] [] rfl lm_12_174 dX12_readsDigits_11 rfl ⟨rfl, by decide⟩ (by simp) fk_at_246,
  fun d L x st h => fk_r_if_eq dX12_readsDigits_14 (by decide),
  fun d a1 a2 x st h => fk_w_aloadn 0 [.ref x, a1, a2] dX12_readsDigits_17 rfl,
  fun d L st N y l => fk_g_getI rfl lf_12_155 (by decide) dX12_readsDigits_18 fk_at_246,
  fun d a0 a1 x st h => fk_w_iloadn 2 [a0, a1, .int x] dX12_readsDigits_21 rfl,
  fun d a0 a2 x st h => fk_w_iloadn 1 [a0, .int x, a2] dX12_readsDigits_22 rfl,
  fun d L x y st h => fk_r_iadd dX12_readsDigits_23,
  fun d L x y st h => fk_r_icmp_ge dX12_readsDigits_24 (by decide),
  fun d a1 a2 x st h => fk_w_aloadn 0 [.ref x, a1, a2] dX12_readsDigits_27 rfl,
  fun d L st h => fk_w_bipush dX12_readsDigits_28 (by decide),
  fun d a1 a2 x st h => fk_w_aloadn 0 [.ref x, a1, a2] dX12_readsDigits_30 rfl,
  fun d L st N y l => fk_g_getI rfl lf_12_171 (by decide) dX12_readsDigits_31 fk_at_246,
  fun d L x y st h => fk_r_imul dX12_readsDigits_34,
  fun d a1 a2 x st h => fk_w_aloadn 0 [.ref x, a1, a2] dX12_readsDigits_35 rfl,
  fun d L w0 w1 N y l  => fk_g_call [] [w0, w1] rfl lm_12_161 dX12_readsDigits_36 rfl ⟨rfl, by decide⟩ (by simp) fk_at_246,
  fun d L x y st h => fk_r_iadd dX12_readsDigits_39,
  fun d L st h => fk_w_bipush dX12_readsDigits_40 (by decide),
  fun d L x y st h => fk_r_isub dX12_readsDigits_42,
  fun d L st N y l v => fk_g_putI rfl lf_12_171 (by decide) dX12_readsDigits_43 rfl fk_at_246,
  fun d a1 a2 x st h => fk_w_aloadn 0 [.ref x, a1, a2] dX12_readsDigits_46 rfl,
  fun d a1 a2 x st h => fk_w_aloadn 0 [.ref x, a1, a2] dX12_readsDigits_47 rfl,
  fun d L st N y l => fk_g_getI rfl lf_12_155 (by decide) dX12_readsDigits_48 fk_at_246,
  fun d L st h => fk_w_iconst dX12_readsDigits_51 (by decide),
  fun d L x y st h => fk_r_iadd dX12_readsDigits_52,
  fun d L st N y l v => fk_g_putI rfl lf_12_155 (by decide) dX12_readsDigits_53 rfl fk_at_246,
  fun d L st h => fk_r_goto dX12_readsDigits_56 (by decide),
  fun d a1 a2 x st h => fk_w_aloadn 0 [.ref x, a1, a2] dX12_readsDigits_59 rfl,
  fun d L st N y l => fk_g_getI rfl lf_12_155 (by decide) dX12_readsDigits_60 fk_at_246,
  fun d a0 a1 x st h => fk_w_iloadn 2 [a0, a1, .int x] dX12_readsDigits_63 rfl,
  fun d L x y st h => fk_r_icmp_gt dX12_readsDigits_64 (by decide),
  fun d a1 a2 x st h => fk_w_aloadn 0 [.ref x, a1, a2] dX12_readsDigits_67 rfl,
  fun d L st h => fk_w_iconst dX12_readsDigits_68 (by decide),
  fun d a1 a2 x st h => fk_w_aloadn 0 [.ref x, a1, a2] dX12_readsDigits_69 rfl,
  fun d L st N y l => fk_g_getI rfl lf_12_155 (by decide) dX12_readsDigits_70 fk_at_246,
  fun d L x0 x1 N y l  => fk_g_call [.int x0, .int x1] [] rfl lm_12_168 dX12_readsDigits_73 rfl ⟨rfl, by decide⟩ (by simp) fk_at_246,
  fun d L x st h => fk_r_if_eq dX12_readsDigits_76 (by decide),
  fun d L st h => fk_w_iconst dX12_readsDigits_79 (by decide),
  fun d L st h => fk_r_goto dX12_readsDigits_80 (by decide),
  fun d L st h => fk_w_iconst dX12_readsDigits_83 (by decide),
  fun d L h => fk_r_ret dX12_readsDigits_84 (Or.inr (Or.inl ⟨rfl, by decide⟩)),
  fun d L h => fk_r_ret dX12_readsDigits_84 (Or.inr (Or.inl ⟨rfl, by decide⟩)),
  fun d L p _ h => fk_r_ret dX12_readsDigits_84 (Or.inr (Or.inl ⟨rfl, fk_b_01⟩)),
  fun d L x h hx => fk_r_ret dX12_readsDigits_84 (Or.inr (Or.inl ⟨rfl, hx⟩))⟩
theorem hX12_readsDigits_10 : ∀ (d : Nat) (a1 a2 : Value) (x : Nat) (st : List Value) (h : fk_H), fk_ev d qX12_readsDigits 10 [.ref x, a1, a2] st h = fk_ev d qX12_readsDigits 11 [.ref x, a1, a2] (.ref x :: st) h := fun d a1 a2 x st h => fk_w_aloadn 0 [.ref x, a1, a2] dX12_readsDigits_10 rfl
theorem dX12_readsStep_0 : decode cX12_readsStep 0 = .ok (.aload_n 0, 1) := by decide +kernel
theorem dX12_readsStep_1 : decode cX12_readsStep 1 = .ok (.getfield 155, 3) := by decide +kernel
theorem dX12_readsStep_4 : decode cX12_readsStep 4 = .ok (.istore_n 1, 1) := by decide +kernel
theorem dX12_readsStep_5 : decode cX12_readsStep 5 = .ok (.aload_n 0, 1) := by decide +kernel
theorem dX12_readsStep_6 : decode cX12_readsStep 6 = .ok (.iconst 2, 1) := by decide +kernel
theorem dX12_readsStep_7 : decode cX12_readsStep 7 = .ok (.invokevirtual 403, 3) := by decide +kernel
theorem dX12_readsStep_10 : decode cX12_readsStep 10 = .ok (.ifCond .ne 5, 3) := by decide +kernel
theorem dX12_readsStep_13 : decode cX12_readsStep 13 = .ok (.iconst 0, 1) := by decide +kernel
theorem dX12_readsStep_14 : decode cX12_readsStep 14 = .ok (.ireturn, 1) := by decide +kernel
theorem dX12_readsStep_15 : decode cX12_readsStep 15 = .ok (.aload_n 0, 1) := by decide +kernel
theorem dX12_readsStep_16 : decode cX12_readsStep 16 = .ok (.getfield 171, 3) := by decide +kernel
theorem dX12_readsStep_19 : decode cX12_readsStep 19 = .ok (.invokestatic 116, 3) := by decide +kernel
theorem dX12_readsStep_22 : decode cX12_readsStep 22 = .ok (.ifCond .ne 10, 3) := by decide +kernel
theorem dX12_readsStep_25 : decode cX12_readsStep 25 = .ok (.aload_n 0, 1) := by decide +kernel
theorem dX12_readsStep_26 : decode cX12_readsStep 26 = .ok (.iconst 3, 1) := by decide +kernel
theorem dX12_readsStep_27 : decode cX12_readsStep 27 = .ok (.iload_n 1, 1) := by decide +kernel
theorem dX12_readsStep_28 : decode cX12_readsStep 28 = .ok (.invokevirtual 168, 3) := by decide +kernel
theorem dX12_readsStep_31 : decode cX12_readsStep 31 = .ok (.ireturn, 1) := by decide +kernel
theorem dX12_readsStep_32 : decode cX12_readsStep 32 = .ok (.aload_n 0, 1) := by decide +kernel
theorem dX12_readsStep_33 : decode cX12_readsStep 33 = .ok (.getfield 91, 3) := by decide +kernel
theorem dX12_readsStep_36 : decode cX12_readsStep 36 = .ok (.aload_n 0, 1) := by decide +kernel
theorem dX12_readsStep_37 : decode cX12_readsStep 37 = .ok (.getfield 406, 3) := by decide +kernel
theorem dX12_readsStep_40 : decode cX12_readsStep 40 = .ok (.aload_n 0, 1) := by decide +kernel
theorem dX12_readsStep_41 : decode cX12_readsStep 41 = .ok (.getfield 171, 3) := by decide +kernel
theorem dX12_readsStep_44 : decode cX12_readsStep 44 = .ok (.iastore, 1) := by decide +kernel
theorem dX12_readsStep_45 : decode cX12_readsStep 45 = .ok (.aload_n 0, 1) := by decide +kernel
theorem dX12_readsStep_46 : decode cX12_readsStep 46 = .ok (.bipush 64, 2) := by decide +kernel
theorem dX12_readsStep_48 : decode cX12_readsStep 48 = .ok (.invokevirtual 244, 3) := by decide +kernel
theorem dX12_readsStep_51 : decode cX12_readsStep 51 = .ok (.ifCond .ne 5, 3) := by decide +kernel
theorem dX12_readsStep_54 : decode cX12_readsStep 54 = .ok (.iconst 0, 1) := by decide +kernel
theorem dX12_readsStep_55 : decode cX12_readsStep 55 = .ok (.ireturn, 1) := by decide +kernel
theorem dX12_readsStep_56 : decode cX12_readsStep 56 = .ok (.aload_n 0, 1) := by decide +kernel
theorem dX12_readsStep_57 : decode cX12_readsStep 57 = .ok (.getfield 155, 3) := by decide +kernel
theorem dX12_readsStep_60 : decode cX12_readsStep 60 = .ok (.istore_n 1, 1) := by decide +kernel
theorem dX12_readsStep_61 : decode cX12_readsStep 61 = .ok (.aload_n 0, 1) := by decide +kernel
theorem dX12_readsStep_62 : decode cX12_readsStep 62 = .ok (.iconst 3, 1) := by decide +kernel
theorem dX12_readsStep_63 : decode cX12_readsStep 63 = .ok (.invokevirtual 403, 3) := by decide +kernel
theorem dX12_readsStep_66 : decode cX12_readsStep 66 = .ok (.ifCond .ne 5, 3) := by decide +kernel
theorem dX12_readsStep_69 : decode cX12_readsStep 69 = .ok (.iconst 0, 1) := by decide +kernel
theorem dX12_readsStep_70 : decode cX12_readsStep 70 = .ok (.ireturn, 1) := by decide +kernel
theorem dX12_readsStep_71 : decode cX12_readsStep 71 = .ok (.aload_n 0, 1) := by decide +kernel
theorem dX12_readsStep_72 : decode cX12_readsStep 72 = .ok (.getfield 171, 3) := by decide +kernel
theorem dX12_readsStep_75 : decode cX12_readsStep 75 = .ok (.aload_n 0, 1) := by decide +kernel
theorem dX12_readsStep_76 : decode cX12_readsStep 76 = .ok (.getfield 409, 3) := by decide +kernel
theorem dX12_readsStep_79 : decode cX12_readsStep 79 = .ok (.if_icmp .gt 11, 3) := by decide +kernel
theorem dX12_readsStep_82 : decode cX12_readsStep 82 = .ok (.aload_n 0, 1) := by decide +kernel
theorem dX12_readsStep_83 : decode cX12_readsStep 83 = .ok (.bipush 6, 2) := by decide +kernel
theorem dX12_readsStep_85 : decode cX12_readsStep 85 = .ok (.iload_n 1, 1) := by decide +kernel
theorem dX12_readsStep_86 : decode cX12_readsStep 86 = .ok (.invokevirtual 168, 3) := by decide +kernel
theorem dX12_readsStep_89 : decode cX12_readsStep 89 = .ok (.ireturn, 1) := by decide +kernel
theorem dX12_readsStep_90 : decode cX12_readsStep 90 = .ok (.aload_n 0, 1) := by decide +kernel
theorem dX12_readsStep_91 : decode cX12_readsStep 91 = .ok (.aload_n 0, 1) := by decide +kernel
theorem dX12_readsStep_92 : decode cX12_readsStep 92 = .ok (.getfield 171, 3) := by decide +kernel
theorem dX12_readsStep_95 : decode cX12_readsStep 95 = .ok (.putfield 409, 3) := by decide +kernel
theorem dX12_readsStep_98 : decode cX12_readsStep 98 = .ok (.aload_n 0, 1) := by decide +kernel
theorem dX12_readsStep_99 : decode cX12_readsStep 99 = .ok (.getfield 94, 3) := by decide +kernel
theorem dX12_readsStep_102 : decode cX12_readsStep 102 = .ok (.aload_n 0, 1) := by decide +kernel
theorem dX12_readsStep_103 : decode cX12_readsStep 103 = .ok (.getfield 406, 3) := by decide +kernel
theorem dX12_readsStep_106 : decode cX12_readsStep 106 = .ok (.aload_n 0, 1) := by decide +kernel
theorem dX12_readsStep_107 : decode cX12_readsStep 107 = .ok (.getfield 171, 3) := by decide +kernel
theorem dX12_readsStep_110 : decode cX12_readsStep 110 = .ok (.iastore, 1) := by decide +kernel
theorem dX12_readsStep_111 : decode cX12_readsStep 111 = .ok (.aload_n 0, 1) := by decide +kernel
theorem dX12_readsStep_112 : decode cX12_readsStep 112 = .ok (.aload_n 0, 1) := by decide +kernel
theorem dX12_readsStep_113 : decode cX12_readsStep 113 = .ok (.getfield 406, 3) := by decide +kernel
theorem dX12_readsStep_116 : decode cX12_readsStep 116 = .ok (.iconst 1, 1) := by decide +kernel
theorem dX12_readsStep_117 : decode cX12_readsStep 117 = .ok (.iadd, 1) := by decide +kernel
theorem dX12_readsStep_118 : decode cX12_readsStep 118 = .ok (.putfield 406, 3) := by decide +kernel
theorem dX12_readsStep_121 : decode cX12_readsStep 121 = .ok (.iconst 1, 1) := by decide +kernel
theorem dX12_readsStep_122 : decode cX12_readsStep 122 = .ok (.ireturn, 1) := by decide +kernel
theorem rX12_readsStep : (∀ (d : Nat) (a1 : Value) (x : Nat) (st : List Value) (h : fk_H), fk_ev d qX12_readsStep 0 [.ref x, a1] st h = fk_ev d qX12_readsStep 1 [.ref x, a1] (.ref x :: st) h) ∧
  (∀ (d : Nat) (L st : List Value) (N : Nat) (y : Nat → Nat → Int32) (l : Nat → Nat → Int64), fk_ev d qX12_readsStep 1 L (.ref 246 :: st) (fk_E N y l) = fk_ev d qX12_readsStep 4 L (.int (y 246 11) :: st) (fk_E N y l)) ∧
  (∀ (d : Nat) (a0 a1 : Value) (x : Int32) (st : List Value) (h : fk_H), fk_ev d qX12_readsStep 4 [a0, a1] (.int x :: st) h = fk_ev d qX12_readsStep 5 [a0, .int x] st h) ∧
  (∀ (d : Nat) (a1 : Value) (x : Nat) (st : List Value) (h : fk_H), fk_ev d qX12_readsStep 5 [.ref x, a1] st h = fk_ev d qX12_readsStep 6 [.ref x, a1] (.ref x :: st) h) ∧
  (∀ (d : Nat) (L st : List Value) (h : fk_H), fk_ev d qX12_readsStep 6 L st h = fk_ev d qX12_readsStep 7 L (.int (nI 2) :: st) h) ∧
  (∀ (d : Nat) (L : List Value) (x0 : Int32)  (N : Nat) (y : Nat → Nat → Int32) (l : Nat → Nat → Int64), fk_ev (d + 1) qX12_readsStep 7 L (.int x0 :: .ref 246 :: []) (fk_E N y l) = (fk_ev d qX12_readsDigits 0 [.ref 246, .int x0, .null] [] (fk_E N y l)).bind fun o => fk_ev (d + 1) qX12_readsStep 10 L (o.1.toList ++ []) o.2) ∧
  (∀ (d : Nat) (L : List Value) (x : Int32) (st : List Value) (h : fk_H), fk_ev d qX12_readsStep 10 L (.int x :: st) h = if ¬ x = nI 0 then fk_ev d qX12_readsStep 15 L st h else fk_ev d qX12_readsStep 13 L st h) ∧
  (∀ (d : Nat) (L st : List Value) (h : fk_H), fk_ev d qX12_readsStep 13 L st h = fk_ev d qX12_readsStep 14 L (.int (nI 0) :: st) h) ∧
  (∀ (d : Nat) (L : List Value) (h : fk_H), fk_ev d qX12_readsStep 14 L [.int (nI 0)] h = some (some (.int (nI 0)), h)) ∧
  (∀ (d : Nat) (L : List Value) (h : fk_H), fk_ev d qX12_readsStep 14 L [.int (nI 1)] h = some (some (.int (nI 1)), h)) ∧
  (∀ (d : Nat) (L : List Value) (p : Prop) [Decidable p] (h : fk_H), fk_ev d qX12_readsStep 14 L [.int (fk_b p)] h = some (some (.int (fk_b p)), h)) ∧
  (∀ (d : Nat) (L : List Value) (x : Int32) (h : fk_H), (x = nI 0 ∨ x = nI 1) → fk_ev d qX12_readsStep 14 L [.int x] h = some (some (.int x), h)) ∧
  (∀ (d : Nat) (a1 : Value) (x : Nat) (st : List Value) (h : fk_H), fk_ev d qX12_readsStep 15 [.ref x, a1] st h = fk_ev d qX12_readsStep 16 [.ref x, a1] (.ref x :: st) h) ∧
  (∀ (d : Nat) (L st : List Value) (N : Nat) (y : Nat → Nat → Int32) (l : Nat → Nat → Int64), fk_ev d qX12_readsStep 16 L (.ref 246 :: st) (fk_E N y l) = fk_ev d qX12_readsStep 19 L (.int (y 246 14) :: st) (fk_E N y l)) ∧
  (∀ (d : Nat) (L : List Value) (x0 : Int32)  (h : fk_H), fk_ev (d + 1) qX12_readsStep 19 L (.int x0 :: []) h = (fk_ev d qX12_isPlace 0 [.int x0] [] h).bind fun o => fk_ev (d + 1) qX12_readsStep 22 L (o.1.toList ++ []) o.2) ∧
  (∀ (d : Nat) (L : List Value) (x : Int32) (st : List Value) (h : fk_H), fk_ev d qX12_readsStep 22 L (.int x :: st) h = if ¬ x = nI 0 then fk_ev d qX12_readsStep 32 L st h else fk_ev d qX12_readsStep 25 L st h) ∧
  (∀ (d : Nat) (a1 : Value) (x : Nat) (st : List Value) (h : fk_H), fk_ev d qX12_readsStep 25 [.ref x, a1] st h = fk_ev d qX12_readsStep 26 [.ref x, a1] (.ref x :: st) h) ∧
  (∀ (d : Nat) (L st : List Value) (h : fk_H), fk_ev d qX12_readsStep 26 L st h = fk_ev d qX12_readsStep 27 L (.int (nI 3) :: st) h) ∧
  (∀ (d : Nat) (a0 : Value) (x : Int32) (st : List Value) (h : fk_H), fk_ev d qX12_readsStep 27 [a0, .int x] st h = fk_ev d qX12_readsStep 28 [a0, .int x] (.int x :: st) h) ∧
  (∀ (d : Nat) (L : List Value) (x0 : Int32) (x1 : Int32)  (N : Nat) (y : Nat → Nat → Int32) (l : Nat → Nat → Int64), fk_ev (d + 1) qX12_readsStep 28 L (.int x1 :: .int x0 :: .ref 246 :: []) (fk_E N y l) = (fk_ev d qX12_wrongAt 0 [.ref 246, .int x0, .int x1] [] (fk_E N y l)).bind fun o => fk_ev (d + 1) qX12_readsStep 31 L (o.1.toList ++ []) o.2) ∧
  (∀ (d : Nat) (L : List Value) (h : fk_H), fk_ev d qX12_readsStep 31 L [.int (nI 0)] h = some (some (.int (nI 0)), h)) ∧
  (∀ (d : Nat) (L : List Value) (h : fk_H), fk_ev d qX12_readsStep 31 L [.int (nI 1)] h = some (some (.int (nI 1)), h)) ∧
  (∀ (d : Nat) (L : List Value) (p : Prop) [Decidable p] (h : fk_H), fk_ev d qX12_readsStep 31 L [.int (fk_b p)] h = some (some (.int (fk_b p)), h)) ∧
  (∀ (d : Nat) (L : List Value) (x : Int32) (h : fk_H), (x = nI 0 ∨ x = nI 1) → fk_ev d qX12_readsStep 31 L [.int x] h = some (some (.int x), h)) ∧
  (∀ (d : Nat) (a1 : Value) (x : Nat) (st : List Value) (h : fk_H), fk_ev d qX12_readsStep 32 [.ref x, a1] st h = fk_ev d qX12_readsStep 33 [.ref x, a1] (.ref x :: st) h) ∧
  (∀ (d : Nat) (L st : List Value) (N : Nat) (y : Nat → Nat → Int32) (l : Nat → Nat → Int64), fk_ev d qX12_readsStep 33 L (.ref 246 :: st) (fk_E N y l) = fk_ev d qX12_readsStep 36 L (.ref 273 :: st) (fk_E N y l)) ∧
  (∀ (d : Nat) (a1 : Value) (x : Nat) (st : List Value) (h : fk_H), fk_ev d qX12_readsStep 36 [.ref x, a1] st h = fk_ev d qX12_readsStep 37 [.ref x, a1] (.ref x :: st) h) ∧
  (∀ (d : Nat) (L st : List Value) (N : Nat) (y : Nat → Nat → Int32) (l : Nat → Nat → Int64), fk_ev d qX12_readsStep 37 L (.ref 246 :: st) (fk_E N y l) = fk_ev d qX12_readsStep 40 L (.int (y 246 45) :: st) (fk_E N y l)) ∧
  (∀ (d : Nat) (a1 : Value) (x : Nat) (st : List Value) (h : fk_H), fk_ev d qX12_readsStep 40 [.ref x, a1] st h = fk_ev d qX12_readsStep 41 [.ref x, a1] (.ref x :: st) h) ∧
  (∀ (d : Nat) (L st : List Value) (N : Nat) (y : Nat → Nat → Int32) (l : Nat → Nat → Int64), fk_ev d qX12_readsStep 41 L (.ref 246 :: st) (fk_E N y l) = fk_ev d qX12_readsStep 44 L (.int (y 246 14) :: st) (fk_E N y l)) ∧
  (∀ (d : Nat) (L st : List Value) (N : Nat) (y : Nat → Nat → Int32) (l : Nat → Nat → Int64) (i : Nat) (v : Int32), i < 20 → fk_ev d qX12_readsStep 44 L (.int v :: .int (nI i) :: .ref 273 :: st) (fk_E N y l) = fk_ev d qX12_readsStep 45 L st (fk_E N (fk_u y 273 i v) l)) ∧
  (∀ (d : Nat) (a1 : Value) (x : Nat) (st : List Value) (h : fk_H), fk_ev d qX12_readsStep 45 [.ref x, a1] st h = fk_ev d qX12_readsStep 46 [.ref x, a1] (.ref x :: st) h) ∧
  (∀ (d : Nat) (L st : List Value) (h : fk_H), fk_ev d qX12_readsStep 46 L st h = fk_ev d qX12_readsStep 48 L (.int (nI 64) :: st) h) ∧
  (∀ (d : Nat) (L : List Value) (x0 : Int32)  (N : Nat) (y : Nat → Nat → Int32) (l : Nat → Nat → Int64), fk_ev (d + 1) qX12_readsStep 48 L (.int x0 :: .ref 246 :: []) (fk_E N y l) = (fk_ev d qX12_takes 0 [.ref 246, .int x0] [] (fk_E N y l)).bind fun o => fk_ev (d + 1) qX12_readsStep 51 L (o.1.toList ++ []) o.2) ∧
  (∀ (d : Nat) (L : List Value) (x : Int32) (st : List Value) (h : fk_H), fk_ev d qX12_readsStep 51 L (.int x :: st) h = if ¬ x = nI 0 then fk_ev d qX12_readsStep 56 L st h else fk_ev d qX12_readsStep 54 L st h) ∧
  (∀ (d : Nat) (L st : List Value) (h : fk_H), fk_ev d qX12_readsStep 54 L st h = fk_ev d qX12_readsStep 55 L (.int (nI 0) :: st) h) ∧
  (∀ (d : Nat) (L : List Value) (h : fk_H), fk_ev d qX12_readsStep 55 L [.int (nI 0)] h = some (some (.int (nI 0)), h)) ∧
  (∀ (d : Nat) (L : List Value) (h : fk_H), fk_ev d qX12_readsStep 55 L [.int (nI 1)] h = some (some (.int (nI 1)), h)) ∧
  (∀ (d : Nat) (L : List Value) (p : Prop) [Decidable p] (h : fk_H), fk_ev d qX12_readsStep 55 L [.int (fk_b p)] h = some (some (.int (fk_b p)), h)) ∧
  (∀ (d : Nat) (L : List Value) (x : Int32) (h : fk_H), (x = nI 0 ∨ x = nI 1) → fk_ev d qX12_readsStep 55 L [.int x] h = some (some (.int x), h)) ∧
  (∀ (d : Nat) (a1 : Value) (x : Nat) (st : List Value) (h : fk_H), fk_ev d qX12_readsStep 56 [.ref x, a1] st h = fk_ev d qX12_readsStep 57 [.ref x, a1] (.ref x :: st) h) ∧
  (∀ (d : Nat) (L st : List Value) (N : Nat) (y : Nat → Nat → Int32) (l : Nat → Nat → Int64), fk_ev d qX12_readsStep 57 L (.ref 246 :: st) (fk_E N y l) = fk_ev d qX12_readsStep 60 L (.int (y 246 11) :: st) (fk_E N y l)) ∧
  (∀ (d : Nat) (a0 a1 : Value) (x : Int32) (st : List Value) (h : fk_H), fk_ev d qX12_readsStep 60 [a0, a1] (.int x :: st) h = fk_ev d qX12_readsStep 61 [a0, .int x] st h) ∧
  (∀ (d : Nat) (a1 : Value) (x : Nat) (st : List Value) (h : fk_H), fk_ev d qX12_readsStep 61 [.ref x, a1] st h = fk_ev d qX12_readsStep 62 [.ref x, a1] (.ref x :: st) h) ∧
  (∀ (d : Nat) (L st : List Value) (h : fk_H), fk_ev d qX12_readsStep 62 L st h = fk_ev d qX12_readsStep 63 L (.int (nI 3) :: st) h) ∧
  (∀ (d : Nat) (L : List Value) (x0 : Int32)  (N : Nat) (y : Nat → Nat → Int32) (l : Nat → Nat → Int64), fk_ev (d + 1) qX12_readsStep 63 L (.int x0 :: .ref 246 :: []) (fk_E N y l) = (fk_ev d qX12_readsDigits 0 [.ref 246, .int x0, .null] [] (fk_E N y l)).bind fun o => fk_ev (d + 1) qX12_readsStep 66 L (o.1.toList ++ []) o.2) ∧
  (∀ (d : Nat) (L : List Value) (x : Int32) (st : List Value) (h : fk_H), fk_ev d qX12_readsStep 66 L (.int x :: st) h = if ¬ x = nI 0 then fk_ev d qX12_readsStep 71 L st h else fk_ev d qX12_readsStep 69 L st h) ∧
  (∀ (d : Nat) (L st : List Value) (h : fk_H), fk_ev d qX12_readsStep 69 L st h = fk_ev d qX12_readsStep 70 L (.int (nI 0) :: st) h) ∧
  (∀ (d : Nat) (L : List Value) (h : fk_H), fk_ev d qX12_readsStep 70 L [.int (nI 0)] h = some (some (.int (nI 0)), h)) ∧
  (∀ (d : Nat) (L : List Value) (h : fk_H), fk_ev d qX12_readsStep 70 L [.int (nI 1)] h = some (some (.int (nI 1)), h)) ∧
  (∀ (d : Nat) (L : List Value) (p : Prop) [Decidable p] (h : fk_H), fk_ev d qX12_readsStep 70 L [.int (fk_b p)] h = some (some (.int (fk_b p)), h)) ∧
  (∀ (d : Nat) (L : List Value) (x : Int32) (h : fk_H), (x = nI 0 ∨ x = nI 1) → fk_ev d qX12_readsStep 70 L [.int x] h = some (some (.int x), h)) ∧
  (∀ (d : Nat) (a1 : Value) (x : Nat) (st : List Value) (h : fk_H), fk_ev d qX12_readsStep 71 [.ref x, a1] st h = fk_ev d qX12_readsStep 72 [.ref x, a1] (.ref x :: st) h) ∧
  (∀ (d : Nat) (L st : List Value) (N : Nat) (y : Nat → Nat → Int32) (l : Nat → Nat → Int64), fk_ev d qX12_readsStep 72 L (.ref 246 :: st) (fk_E N y l) = fk_ev d qX12_readsStep 75 L (.int (y 246 14) :: st) (fk_E N y l)) ∧
  (∀ (d : Nat) (a1 : Value) (x : Nat) (st : List Value) (h : fk_H), fk_ev d qX12_readsStep 75 [.ref x, a1] st h = fk_ev d qX12_readsStep 76 [.ref x, a1] (.ref x :: st) h) ∧
  (∀ (d : Nat) (L st : List Value) (N : Nat) (y : Nat → Nat → Int32) (l : Nat → Nat → Int64), fk_ev d qX12_readsStep 76 L (.ref 246 :: st) (fk_E N y l) = fk_ev d qX12_readsStep 79 L (.int (y 246 46) :: st) (fk_E N y l)) ∧
  (∀ (d : Nat) (L : List Value) (x y : Int32) (st : List Value) (h : fk_H), fk_ev d qX12_readsStep 79 L (.int y :: .int x :: st) h = if y < x then fk_ev d qX12_readsStep 90 L st h else fk_ev d qX12_readsStep 82 L st h) ∧
  (∀ (d : Nat) (a1 : Value) (x : Nat) (st : List Value) (h : fk_H), fk_ev d qX12_readsStep 82 [.ref x, a1] st h = fk_ev d qX12_readsStep 83 [.ref x, a1] (.ref x :: st) h) ∧
  (∀ (d : Nat) (L st : List Value) (h : fk_H), fk_ev d qX12_readsStep 83 L st h = fk_ev d qX12_readsStep 85 L (.int (nI 6) :: st) h) ∧
  (∀ (d : Nat) (a0 : Value) (x : Int32) (st : List Value) (h : fk_H), fk_ev d qX12_readsStep 85 [a0, .int x] st h = fk_ev d qX12_readsStep 86 [a0, .int x] (.int x :: st) h) ∧
  (∀ (d : Nat) (L : List Value) (x0 : Int32) (x1 : Int32)  (N : Nat) (y : Nat → Nat → Int32) (l : Nat → Nat → Int64), fk_ev (d + 1) qX12_readsStep 86 L (.int x1 :: .int x0 :: .ref 246 :: []) (fk_E N y l) = (fk_ev d qX12_wrongAt 0 [.ref 246, .int x0, .int x1] [] (fk_E N y l)).bind fun o => fk_ev (d + 1) qX12_readsStep 89 L (o.1.toList ++ []) o.2) ∧
  (∀ (d : Nat) (L : List Value) (h : fk_H), fk_ev d qX12_readsStep 89 L [.int (nI 0)] h = some (some (.int (nI 0)), h)) ∧
  (∀ (d : Nat) (L : List Value) (h : fk_H), fk_ev d qX12_readsStep 89 L [.int (nI 1)] h = some (some (.int (nI 1)), h)) ∧
  (∀ (d : Nat) (L : List Value) (p : Prop) [Decidable p] (h : fk_H), fk_ev d qX12_readsStep 89 L [.int (fk_b p)] h = some (some (.int (fk_b p)), h)) ∧
  (∀ (d : Nat) (L : List Value) (x : Int32) (h : fk_H), (x = nI 0 ∨ x = nI 1) → fk_ev d qX12_readsStep 89 L [.int x] h = some (some (.int x), h)) ∧
  (∀ (d : Nat) (a1 : Value) (x : Nat) (st : List Value) (h : fk_H), fk_ev d qX12_readsStep 90 [.ref x, a1] st h = fk_ev d qX12_readsStep 91 [.ref x, a1] (.ref x :: st) h) ∧
  (∀ (d : Nat) (a1 : Value) (x : Nat) (st : List Value) (h : fk_H), fk_ev d qX12_readsStep 91 [.ref x, a1] st h = fk_ev d qX12_readsStep 92 [.ref x, a1] (.ref x :: st) h) ∧
  (∀ (d : Nat) (L st : List Value) (N : Nat) (y : Nat → Nat → Int32) (l : Nat → Nat → Int64), fk_ev d qX12_readsStep 92 L (.ref 246 :: st) (fk_E N y l) = fk_ev d qX12_readsStep 95 L (.int (y 246 14) :: st) (fk_E N y l)) ∧
  (∀ (d : Nat) (L st : List Value) (N : Nat) (y : Nat → Nat → Int32) (l : Nat → Nat → Int64) (v : Int32), fk_ev d qX12_readsStep 95 L (.int v :: .ref 246 :: st) (fk_E N y l) = fk_ev d qX12_readsStep 98 L st (fk_E N (fk_u y 246 46 v) l)) ∧
  (∀ (d : Nat) (a1 : Value) (x : Nat) (st : List Value) (h : fk_H), fk_ev d qX12_readsStep 98 [.ref x, a1] st h = fk_ev d qX12_readsStep 99 [.ref x, a1] (.ref x :: st) h) ∧
  (∀ (d : Nat) (L st : List Value) (N : Nat) (y : Nat → Nat → Int32) (l : Nat → Nat → Int64), fk_ev d qX12_readsStep 99 L (.ref 246 :: st) (fk_E N y l) = fk_ev d qX12_readsStep 102 L (.ref 274 :: st) (fk_E N y l)) ∧
  (∀ (d : Nat) (a1 : Value) (x : Nat) (st : List Value) (h : fk_H), fk_ev d qX12_readsStep 102 [.ref x, a1] st h = fk_ev d qX12_readsStep 103 [.ref x, a1] (.ref x :: st) h) ∧
  (∀ (d : Nat) (L st : List Value) (N : Nat) (y : Nat → Nat → Int32) (l : Nat → Nat → Int64), fk_ev d qX12_readsStep 103 L (.ref 246 :: st) (fk_E N y l) = fk_ev d qX12_readsStep 106 L (.int (y 246 45) :: st) (fk_E N y l)) ∧
  (∀ (d : Nat) (a1 : Value) (x : Nat) (st : List Value) (h : fk_H), fk_ev d qX12_readsStep 106 [.ref x, a1] st h = fk_ev d qX12_readsStep 107 [.ref x, a1] (.ref x :: st) h) ∧
  (∀ (d : Nat) (L st : List Value) (N : Nat) (y : Nat → Nat → Int32) (l : Nat → Nat → Int64), fk_ev d qX12_readsStep 107 L (.ref 246 :: st) (fk_E N y l) = fk_ev d qX12_readsStep 110 L (.int (y 246 14) :: st) (fk_E N y l)) ∧
  (∀ (d : Nat) (L st : List Value) (N : Nat) (y : Nat → Nat → Int32) (l : Nat → Nat → Int64) (i : Nat) (v : Int32), i < 20 → fk_ev d qX12_readsStep 110 L (.int v :: .int (nI i) :: .ref 274 :: st) (fk_E N y l) = fk_ev d qX12_readsStep 111 L st (fk_E N (fk_u y 274 i v) l)) ∧
  (∀ (d : Nat) (a1 : Value) (x : Nat) (st : List Value) (h : fk_H), fk_ev d qX12_readsStep 111 [.ref x, a1] st h = fk_ev d qX12_readsStep 112 [.ref x, a1] (.ref x :: st) h) ∧
  (∀ (d : Nat) (a1 : Value) (x : Nat) (st : List Value) (h : fk_H), fk_ev d qX12_readsStep 112 [.ref x, a1] st h = fk_ev d qX12_readsStep 113 [.ref x, a1] (.ref x :: st) h) ∧
  (∀ (d : Nat) (L st : List Value) (N : Nat) (y : Nat → Nat → Int32) (l : Nat → Nat → Int64), fk_ev d qX12_readsStep 113 L (.ref 246 :: st) (fk_E N y l) = fk_ev d qX12_readsStep 116 L (.int (y 246 45) :: st) (fk_E N y l)) ∧
  (∀ (d : Nat) (L st : List Value) (h : fk_H), fk_ev d qX12_readsStep 116 L st h = fk_ev d qX12_readsStep 117 L (.int (nI 1) :: st) h) ∧
  (∀ (d : Nat) (L : List Value) (x y : Int32) (st : List Value) (h : fk_H), fk_ev d qX12_readsStep 117 L (.int y :: .int x :: st) h = fk_ev d qX12_readsStep 118 L (.int (x + y) :: st) h) ∧
  (∀ (d : Nat) (L st : List Value) (N : Nat) (y : Nat → Nat → Int32) (l : Nat → Nat → Int64) (v : Int32), fk_ev d qX12_readsStep 118 L (.int v :: .ref 246 :: st) (fk_E N y l) = fk_ev d qX12_readsStep 121 L st (fk_E N (fk_u y 246 45 v) l)) ∧
  (∀ (d : Nat) (L st : List Value) (h : fk_H), fk_ev d qX12_readsStep 121 L st h = fk_ev d qX12_readsStep 122 L (.int (nI 1) :: st) h) ∧
  (∀ (d : Nat) (L : List Value) (h : fk_H), fk_ev d qX12_readsStep 122 L [.int (nI 0)] h = some (some (.int (nI 0)), h)) ∧
  (∀ (d : Nat) (L : List Value) (h : fk_H), fk_ev d qX12_readsStep 122 L [.int (nI 1)] h = some (some (.int (nI 1)), h)) ∧
  (∀ (d : Nat) (L : List Value) (p : Prop) [Decidable p] (h : fk_H), fk_ev d qX12_readsStep 122 L [.int (fk_b p)] h = some (some (.int (fk_b p)), h)) ∧
  (∀ (d : Nat) (L : List Value) (x : Int32) (h : fk_H), (x = nI 0 ∨ x = nI 1) → fk_ev d qX12_readsStep 122 L [.int x] h = some (some (.int x), h)) := ⟨fun d a1 x st h => fk_w_aloadn 0 [.ref x, a1] dX12_readsStep_0 rfl,
  fun d L st N y l => fk_g_getI rfl lf_12_155 (by decide) dX12_readsStep_1 fk_at_246,
  fun d a0 a1 x st h => fk_w_istoren 1 2 [] [a0, a1] [a0, .int x] dX12_readsStep_4 rfl rfl (by decide) rfl,
  fun d a1 x st h => fk_w_aloadn 0 [.ref x, a1] dX12_readsStep_5 rfl,
  fun d L st h => fk_w_iconst dX12_readsStep_6 (by decide),
  fun d L x0 N y l  => fk_g_call [.int x0] [] rfl lm_12_403 dX12_readsStep_7 rfl ⟨rfl, by decide⟩ (by simp) fk_at_246,
  fun d L x st h => fk_r_if_ne dX12_readsStep_10 (by decide),
  fun d L st h => fk_w_iconst dX12_readsStep_13 (by decide),
  fun d L h => fk_r_ret dX12_readsStep_14 (Or.inr (Or.inl ⟨rfl, by decide⟩)),
  fun d L h => fk_r_ret dX12_readsStep_14 (Or.inr (Or.inl ⟨rfl, by decide⟩)),
  fun d L p _ h => fk_r_ret dX12_readsStep_14 (Or.inr (Or.inl ⟨rfl, fk_b_01⟩)),
  fun d L x h hx => fk_r_ret dX12_readsStep_14 (Or.inr (Or.inl ⟨rfl, hx⟩)),
  fun d a1 x st h => fk_w_aloadn 0 [.ref x, a1] dX12_readsStep_15 rfl,
  fun d L st N y l => fk_g_getI rfl lf_12_171 (by decide) dX12_readsStep_16 fk_at_246,
  fun d L x0 h => fk_g_calls [.int x0] [] rfl lm_12_116 dX12_readsStep_19 rfl ⟨rfl, by decide⟩ (by simp),
  fun d L x st h => fk_r_if_ne dX12_readsStep_22 (by decide),
  fun d a1 x st h => fk_w_aloadn 0 [.ref x, a1] dX12_readsStep_25 rfl,
  fun d L st h => fk_w_iconst dX12_readsStep_26 (by decide),
  fun d a0 x st h => fk_w_iloadn 1 [a0, .int x] dX12_readsStep_27 rfl,
  fun d L x0 x1 N y l  => fk_g_call [.int x0, .int x1] [] rfl lm_12_168 dX12_readsStep_28 rfl ⟨rfl, by decide⟩ (by simp) fk_at_246,
  fun d L h => fk_r_ret dX12_readsStep_31 (Or.inr (Or.inl ⟨rfl, by decide⟩)),
  fun d L h => fk_r_ret dX12_readsStep_31 (Or.inr (Or.inl ⟨rfl, by decide⟩)),
  fun d L p _ h => fk_r_ret dX12_readsStep_31 (Or.inr (Or.inl ⟨rfl, fk_b_01⟩)),
  fun d L x h hx => fk_r_ret dX12_readsStep_31 (Or.inr (Or.inl ⟨rfl, hx⟩)),
  fun d a1 x st h => fk_w_aloadn 0 [.ref x, a1] dX12_readsStep_32 rfl,
  fun d L st N y l => fk_g_getC rfl lf_12_91 (by decide) rfl dX12_readsStep_33 fk_at_246,
  fun d a1 x st h => fk_w_aloadn 0 [.ref x, a1] dX12_readsStep_36 rfl,
  fun d L st N y l => fk_g_getI rfl lf_12_406 (by decide) dX12_readsStep_37 fk_at_246,
  fun d a1 x st h => fk_w_aloadn 0 [.ref x, a1] dX12_readsStep_40 rfl,
  fun d L st N y l => fk_g_getI rfl lf_12_171 (by decide) dX12_readsStep_41 fk_at_246,
  fun d L st N y l i v hi => fk_g_iast fk_at_273 fk_ln_273 (by decide) dX12_readsStep_44 hi,
  fun d a1 x st h => fk_w_aloadn 0 [.ref x, a1] dX12_readsStep_45 rfl,
  fun d L st h => fk_w_bipush dX12_readsStep_46 (by decide),
  fun d L x0 N y l  => fk_g_call [.int x0] [] rfl lm_12_244 dX12_readsStep_48 rfl ⟨rfl, by decide⟩ (by simp) fk_at_246,
  fun d L x st h => fk_r_if_ne dX12_readsStep_51 (by decide),
  fun d L st h => fk_w_iconst dX12_readsStep_54 (by decide),
  fun d L h => fk_r_ret dX12_readsStep_55 (Or.inr (Or.inl ⟨rfl, by decide⟩)),
  fun d L h => fk_r_ret dX12_readsStep_55 (Or.inr (Or.inl ⟨rfl, by decide⟩)),
  fun d L p _ h => fk_r_ret dX12_readsStep_55 (Or.inr (Or.inl ⟨rfl, fk_b_01⟩)),
  fun d L x h hx => fk_r_ret dX12_readsStep_55 (Or.inr (Or.inl ⟨rfl, hx⟩)),
  fun d a1 x st h => fk_w_aloadn 0 [.ref x, a1] dX12_readsStep_56 rfl,
  fun d L st N y l => fk_g_getI rfl lf_12_155 (by decide) dX12_readsStep_57 fk_at_246,
  fun d a0 a1 x st h => fk_w_istoren 1 2 [] [a0, a1] [a0, .int x] dX12_readsStep_60 rfl rfl (by decide) rfl,
  fun d a1 x st h => fk_w_aloadn 0 [.ref x, a1] dX12_readsStep_61 rfl,
  fun d L st h => fk_w_iconst dX12_readsStep_62 (by decide),
  fun d L x0 N y l  => fk_g_call [.int x0] [] rfl lm_12_403 dX12_readsStep_63 rfl ⟨rfl, by decide⟩ (by simp) fk_at_246,
  fun d L x st h => fk_r_if_ne dX12_readsStep_66 (by decide),
  fun d L st h => fk_w_iconst dX12_readsStep_69 (by decide),
  fun d L h => fk_r_ret dX12_readsStep_70 (Or.inr (Or.inl ⟨rfl, by decide⟩)),
  fun d L h => fk_r_ret dX12_readsStep_70 (Or.inr (Or.inl ⟨rfl, by decide⟩)),
  fun d L p _ h => fk_r_ret dX12_readsStep_70 (Or.inr (Or.inl ⟨rfl, fk_b_01⟩)),
  fun d L x h hx => fk_r_ret dX12_readsStep_70 (Or.inr (Or.inl ⟨rfl, hx⟩)),
  fun d a1 x st h => fk_w_aloadn 0 [.ref x, a1] dX12_readsStep_71 rfl,
  fun d L st N y l => fk_g_getI rfl lf_12_171 (by decide) dX12_readsStep_72 fk_at_246,
  fun d a1 x st h => fk_w_aloadn 0 [.ref x, a1] dX12_readsStep_75 rfl,
  fun d L st N y l => fk_g_getI rfl lf_12_409 (by decide) dX12_readsStep_76 fk_at_246,
  fun d L x y st h => fk_r_icmp_gt dX12_readsStep_79 (by decide),
  fun d a1 x st h => fk_w_aloadn 0 [.ref x, a1] dX12_readsStep_82 rfl,
  fun d L st h => fk_w_bipush dX12_readsStep_83 (by decide),
  fun d a0 x st h => fk_w_iloadn 1 [a0, .int x] dX12_readsStep_85 rfl,
  fun d L x0 x1 N y l  => fk_g_call [.int x0, .int x1] [] rfl lm_12_168 dX12_readsStep_86 rfl ⟨rfl, by decide⟩ (by simp) fk_at_246,
  fun d L h => fk_r_ret dX12_readsStep_89 (Or.inr (Or.inl ⟨rfl, by decide⟩)),
  fun d L h => fk_r_ret dX12_readsStep_89 (Or.inr (Or.inl ⟨rfl, by decide⟩)),
  fun d L p _ h => fk_r_ret dX12_readsStep_89 (Or.inr (Or.inl ⟨rfl, fk_b_01⟩)),
  fun d L x h hx => fk_r_ret dX12_readsStep_89 (Or.inr (Or.inl ⟨rfl, hx⟩)),
  fun d a1 x st h => fk_w_aloadn 0 [.ref x, a1] dX12_readsStep_90 rfl,
  fun d a1 x st h => fk_w_aloadn 0 [.ref x, a1] dX12_readsStep_91 rfl,
  fun d L st N y l => fk_g_getI rfl lf_12_171 (by decide) dX12_readsStep_92 fk_at_246,
  fun d L st N y l v => fk_g_putI rfl lf_12_409 (by decide) dX12_readsStep_95 rfl fk_at_246,
  fun d a1 x st h => fk_w_aloadn 0 [.ref x, a1] dX12_readsStep_98 rfl,
  fun d L st N y l => fk_g_getC rfl lf_12_94 (by decide) rfl dX12_readsStep_99 fk_at_246,
  fun d a1 x st h => fk_w_aloadn 0 [.ref x, a1] dX12_readsStep_102 rfl,
  fun d L st N y l => fk_g_getI rfl lf_12_406 (by decide) dX12_readsStep_103 fk_at_246,
  fun d a1 x st h => fk_w_aloadn 0 [.ref x, a1] dX12_readsStep_106 rfl,
  fun d L st N y l => fk_g_getI rfl lf_12_171 (by decide) dX12_readsStep_107 fk_at_246,
  fun d L st N y l i v hi => fk_g_iast fk_at_274 fk_ln_274 (by decide) dX12_readsStep_110 hi,
  fun d a1 x st h => fk_w_aloadn 0 [.ref x, a1] dX12_readsStep_111 rfl,
  fun d a1 x st h => fk_w_aloadn 0 [.ref x, a1] dX12_readsStep_112 rfl,
  fun d L st N y l => fk_g_getI rfl lf_12_406 (by decide) dX12_readsStep_113 fk_at_246,
  fun d L st h => fk_w_iconst dX12_readsStep_116 (by decide),
  fun d L x y st h => fk_r_iadd dX12_readsStep_117,
  fun d L st N y l v => fk_g_putI rfl lf_12_406 (by decide) dX12_readsStep_118 rfl fk_at_246,
  fun d L st h => fk_w_iconst dX12_readsStep_121 (by decide),
  fun d L h => fk_r_ret dX12_readsStep_122 (Or.inr (Or.inl ⟨rfl, by decide⟩)),
  fun d L h => fk_r_ret dX12_readsStep_122 (Or.inr (Or.inl ⟨rfl, by decide⟩)),
  fun d L p _ h => fk_r_ret dX12_readsStep_122 (Or.inr (Or.inl ⟨rfl, fk_b_01⟩)),
  fun d L x h hx => fk_r_ret dX12_readsStep_122 (Or.inr (Or.inl ⟨rfl, hx⟩))⟩
theorem dX12_history_0 : decode cX12_history 0 = .ok (.aload_n 0, 1) := by decide +kernel
theorem dX12_history_1 : decode cX12_history 1 = .ok (.iload_n 1, 1) := by decide +kernel
theorem dX12_history_2 : decode cX12_history 2 = .ok (.invokevirtual 123, 3) := by decide +kernel
theorem dX12_history_5 : decode cX12_history 5 = .ok (.ifCond .eq 21, 3) := by decide +kernel
theorem dX12_history_8 : decode cX12_history 8 = .ok (.iload_n 2, 1) := by decide +kernel
theorem dX12_history_9 : decode cX12_history 9 = .ok (.iconst 1, 1) := by decide +kernel
theorem dX12_history_10 : decode cX12_history 10 = .ok (.bipush 60, 2) := by decide +kernel
theorem dX12_history_12 : decode cX12_history 12 = .ok (.invokestatic 112, 3) := by decide +kernel
theorem dX12_history_15 : decode cX12_history 15 = .ok (.ifCond .eq 11, 3) := by decide +kernel
theorem dX12_history_18 : decode cX12_history 18 = .ok (.iload_n 2, 1) := by decide +kernel
theorem dX12_history_19 : decode cX12_history 19 = .ok (.aload_n 0, 1) := by decide +kernel
theorem dX12_history_20 : decode cX12_history 20 = .ok (.getfield 148, 3) := by decide +kernel
theorem dX12_history_23 : decode cX12_history 23 = .ok (.if_icmp .le 5, 3) := by decide +kernel
theorem dX12_history_26 : decode cX12_history 26 = .ok (.iconst (-1), 1) := by decide +kernel
theorem dX12_history_27 : decode cX12_history 27 = .ok (.ireturn, 1) := by decide +kernel
theorem dX12_history_28 : decode cX12_history 28 = .ok (.aload_n 0, 1) := by decide +kernel
theorem dX12_history_29 : decode cX12_history 29 = .ok (.iconst 0, 1) := by decide +kernel
theorem dX12_history_30 : decode cX12_history 30 = .ok (.putfield 155, 3) := by decide +kernel
theorem dX12_history_33 : decode cX12_history 33 = .ok (.aload_n 0, 1) := by decide +kernel
theorem dX12_history_34 : decode cX12_history 34 = .ok (.iload_n 2, 1) := by decide +kernel
theorem dX12_history_35 : decode cX12_history 35 = .ok (.putfield 158, 3) := by decide +kernel
theorem dX12_history_38 : decode cX12_history 38 = .ok (.aload_n 0, 1) := by decide +kernel
theorem dX12_history_39 : decode cX12_history 39 = .ok (.iconst 0, 1) := by decide +kernel
theorem dX12_history_40 : decode cX12_history 40 = .ok (.putfield 406, 3) := by decide +kernel
theorem dX12_history_43 : decode cX12_history 43 = .ok (.aload_n 0, 1) := by decide +kernel
theorem dX12_history_44 : decode cX12_history 44 = .ok (.iconst (-1), 1) := by decide +kernel
theorem dX12_history_45 : decode cX12_history 45 = .ok (.putfield 409, 3) := by decide +kernel
theorem dX12_history_48 : decode cX12_history 48 = .ok (.aload_n 0, 1) := by decide +kernel
theorem dX12_history_49 : decode cX12_history 49 = .ok (.invokevirtual 412, 3) := by decide +kernel
theorem dX12_history_52 : decode cX12_history 52 = .ok (.istore_n 3, 1) := by decide +kernel
theorem dX12_history_53 : decode cX12_history 53 = .ok (.iload_n 3, 1) := by decide +kernel
theorem dX12_history_54 : decode cX12_history 54 = .ok (.ifCond .eq 39, 3) := by decide +kernel
theorem dX12_history_57 : decode cX12_history 57 = .ok (.aload_n 0, 1) := by decide +kernel
theorem dX12_history_58 : decode cX12_history 58 = .ok (.getfield 155, 3) := by decide +kernel
theorem dX12_history_61 : decode cX12_history 61 = .ok (.aload_n 0, 1) := by decide +kernel
theorem dX12_history_62 : decode cX12_history 62 = .ok (.getfield 158, 3) := by decide +kernel
theorem dX12_history_65 : decode cX12_history 65 = .ok (.if_icmp .ge 28, 3) := by decide +kernel
theorem dX12_history_68 : decode cX12_history 68 = .ok (.aload_n 0, 1) := by decide +kernel
theorem dX12_history_69 : decode cX12_history 69 = .ok (.bipush 44, 2) := by decide +kernel
theorem dX12_history_71 : decode cX12_history 71 = .ok (.invokevirtual 244, 3) := by decide +kernel
theorem dX12_history_74 : decode cX12_history 74 = .ok (.ifCond .eq 14, 3) := by decide +kernel
theorem dX12_history_77 : decode cX12_history 77 = .ok (.aload_n 0, 1) := by decide +kernel
theorem dX12_history_78 : decode cX12_history 78 = .ok (.invokevirtual 412, 3) := by decide +kernel
theorem dX12_history_81 : decode cX12_history 81 = .ok (.ifCond .eq 7, 3) := by decide +kernel
theorem dX12_history_84 : decode cX12_history 84 = .ok (.iconst 1, 1) := by decide +kernel
theorem dX12_history_85 : decode cX12_history 85 = .ok (.goto 4, 3) := by decide +kernel
theorem dX12_history_88 : decode cX12_history 88 = .ok (.iconst 0, 1) := by decide +kernel
theorem dX12_history_89 : decode cX12_history 89 = .ok (.istore_n 3, 1) := by decide +kernel
theorem dX12_history_90 : decode cX12_history 90 = .ok (.goto (-37), 3) := by decide +kernel
theorem dX12_history_93 : decode cX12_history 93 = .ok (.aload_n 0, 1) := by decide +kernel
theorem dX12_history_94 : decode cX12_history 94 = .ok (.iconst 0, 1) := by decide +kernel
theorem dX12_history_95 : decode cX12_history 95 = .ok (.putfield 148, 3) := by decide +kernel
theorem dX12_history_98 : decode cX12_history 98 = .ok (.iload_n 3, 1) := by decide +kernel
theorem dX12_history_99 : decode cX12_history 99 = .ok (.ifCond .ne 8, 3) := by decide +kernel
theorem dX12_history_102 : decode cX12_history 102 = .ok (.aload_n 0, 1) := by decide +kernel
theorem dX12_history_103 : decode cX12_history 103 = .ok (.getfield 165, 3) := by decide +kernel
theorem dX12_history_106 : decode cX12_history 106 = .ok (.ireturn, 1) := by decide +kernel
theorem dX12_history_107 : decode cX12_history 107 = .ok (.iconst 0, 1) := by decide +kernel
theorem dX12_history_108 : decode cX12_history 108 = .ok (.istore 4, 2) := by decide +kernel
theorem dX12_history_110 : decode cX12_history 110 = .ok (.iload 4, 2) := by decide +kernel
theorem dX12_history_112 : decode cX12_history 112 = .ok (.aload_n 0, 1) := by decide +kernel
theorem dX12_history_113 : decode cX12_history 113 = .ok (.getfield 406, 3) := by decide +kernel
theorem dX12_history_116 : decode cX12_history 116 = .ok (.if_icmp .ge 69, 3) := by decide +kernel
theorem dX12_history_119 : decode cX12_history 119 = .ok (.aload_n 0, 1) := by decide +kernel
theorem dX12_history_120 : decode cX12_history 120 = .ok (.getfield 94, 3) := by decide +kernel
theorem dX12_history_123 : decode cX12_history 123 = .ok (.iload 4, 2) := by decide +kernel
theorem dX12_history_125 : decode cX12_history 125 = .ok (.iaload, 1) := by decide +kernel
theorem dX12_history_126 : decode cX12_history 126 = .ok (.aload_n 0, 1) := by decide +kernel
theorem dX12_history_127 : decode cX12_history 127 = .ok (.getfield 7, 3) := by decide +kernel
theorem dX12_history_130 : decode cX12_history 130 = .ok (.sipush 832, 3) := by decide +kernel
theorem dX12_history_133 : decode cX12_history 133 = .ok (.iaload, 1) := by decide +kernel
theorem dX12_history_134 : decode cX12_history 134 = .ok (.if_icmp .le 6, 3) := by decide +kernel
theorem dX12_history_137 : decode cX12_history 137 = .ok (.iload 4, 2) := by decide +kernel
theorem dX12_history_139 : decode cX12_history 139 = .ok (.ireturn, 1) := by decide +kernel
theorem dX12_history_140 : decode cX12_history 140 = .ok (.aload_n 0, 1) := by decide +kernel
theorem dX12_history_141 : decode cX12_history 141 = .ok (.aload_n 0, 1) := by decide +kernel
theorem dX12_history_142 : decode cX12_history 142 = .ok (.getfield 94, 3) := by decide +kernel
theorem dX12_history_145 : decode cX12_history 145 = .ok (.iload 4, 2) := by decide +kernel
theorem dX12_history_147 : decode cX12_history 147 = .ok (.iaload, 1) := by decide +kernel
theorem dX12_history_148 : decode cX12_history 148 = .ok (.invokevirtual 340, 3) := by decide +kernel
theorem dX12_history_151 : decode cX12_history 151 = .ok (.ifCond .eq 28, 3) := by decide +kernel
theorem dX12_history_154 : decode cX12_history 154 = .ok (.aload_n 0, 1) := by decide +kernel
theorem dX12_history_155 : decode cX12_history 155 = .ok (.iload_n 1, 1) := by decide +kernel
theorem dX12_history_156 : decode cX12_history 156 = .ok (.aload_n 0, 1) := by decide +kernel
theorem dX12_history_157 : decode cX12_history 157 = .ok (.getfield 94, 3) := by decide +kernel
theorem dX12_history_160 : decode cX12_history 160 = .ok (.iload 4, 2) := by decide +kernel
theorem dX12_history_162 : decode cX12_history 162 = .ok (.iaload, 1) := by decide +kernel
theorem dX12_history_163 : decode cX12_history 163 = .ok (.invokevirtual 343, 3) := by decide +kernel
theorem dX12_history_166 : decode cX12_history 166 = .ok (.aload_n 0, 1) := by decide +kernel
theorem dX12_history_167 : decode cX12_history 167 = .ok (.getfield 91, 3) := by decide +kernel
theorem dX12_history_170 : decode cX12_history 170 = .ok (.iload 4, 2) := by decide +kernel
theorem dX12_history_172 : decode cX12_history 172 = .ok (.iaload, 1) := by decide +kernel
theorem dX12_history_173 : decode cX12_history 173 = .ok (.if_icmp .eq 6, 3) := by decide +kernel
theorem dX12_history_176 : decode cX12_history 176 = .ok (.iload 4, 2) := by decide +kernel
theorem dX12_history_178 : decode cX12_history 178 = .ok (.ireturn, 1) := by decide +kernel
theorem dX12_history_179 : decode cX12_history 179 = .ok (.iinc 4 1, 3) := by decide +kernel
theorem dX12_history_182 : decode cX12_history 182 = .ok (.goto (-72), 3) := by decide +kernel
theorem dX12_history_185 : decode cX12_history 185 = .ok (.aload_n 0, 1) := by decide +kernel
theorem dX12_history_186 : decode cX12_history 186 = .ok (.getfield 406, 3) := by decide +kernel
theorem dX12_history_189 : decode cX12_history 189 = .ok (.ireturn, 1) := by decide +kernel
theorem rX12_history : (∀ (d : Nat) (a1 a2 a3 a4 : Value) (x : Nat) (st : List Value) (h : fk_H), fk_ev d qX12_history 0 [.ref x, a1, a2, a3, a4] st h = fk_ev d qX12_history 1 [.ref x, a1, a2, a3, a4] (.ref x :: st) h) ∧
  (∀ (d : Nat) (a0 a2 a3 a4 : Value) (x : Int32) (st : List Value) (h : fk_H), fk_ev d qX12_history 1 [a0, .int x, a2, a3, a4] st h = fk_ev d qX12_history 2 [a0, .int x, a2, a3, a4] (.int x :: st) h) ∧
  (∀ (d : Nat) (L : List Value) (x0 : Int32)  (N : Nat) (y : Nat → Nat → Int32) (l : Nat → Nat → Int64), fk_ev (d + 1) qX12_history 2 L (.int x0 :: .ref 246 :: []) (fk_E N y l) = (fk_ev d qX12_isHalf 0 [.ref 246, .int x0] [] (fk_E N y l)).bind fun o => fk_ev (d + 1) qX12_history 5 L (o.1.toList ++ []) o.2) ∧
  (∀ (d : Nat) (L : List Value) (x : Int32) (st : List Value) (h : fk_H), fk_ev d qX12_history 5 L (.int x :: st) h = if x = nI 0 then fk_ev d qX12_history 26 L st h else fk_ev d qX12_history 8 L st h) ∧
  (∀ (d : Nat) (a0 a1 a3 a4 : Value) (x : Int32) (st : List Value) (h : fk_H), fk_ev d qX12_history 8 [a0, a1, .int x, a3, a4] st h = fk_ev d qX12_history 9 [a0, a1, .int x, a3, a4] (.int x :: st) h) ∧
  (∀ (d : Nat) (L st : List Value) (h : fk_H), fk_ev d qX12_history 9 L st h = fk_ev d qX12_history 10 L (.int (nI 1) :: st) h) ∧
  (∀ (d : Nat) (L st : List Value) (h : fk_H), fk_ev d qX12_history 10 L st h = fk_ev d qX12_history 12 L (.int (nI 60) :: st) h) ∧
  (∀ (d : Nat) (L : List Value) (x0 : Int32) (x1 : Int32) (x2 : Int32)  (h : fk_H), fk_ev (d + 1) qX12_history 12 L (.int x2 :: .int x1 :: .int x0 :: []) h = (fk_ev d qX12_in 0 [.int x0, .int x1, .int x2] [] h).bind fun o => fk_ev (d + 1) qX12_history 15 L (o.1.toList ++ []) o.2) ∧
  (∀ (d : Nat) (L : List Value) (x : Int32) (st : List Value) (h : fk_H), fk_ev d qX12_history 15 L (.int x :: st) h = if x = nI 0 then fk_ev d qX12_history 26 L st h else fk_ev d qX12_history 18 L st h) ∧
  (∀ (d : Nat) (a0 a1 a3 a4 : Value) (x : Int32) (st : List Value) (h : fk_H), fk_ev d qX12_history 18 [a0, a1, .int x, a3, a4] st h = fk_ev d qX12_history 19 [a0, a1, .int x, a3, a4] (.int x :: st) h) ∧
  (∀ (d : Nat) (a1 a2 a3 a4 : Value) (x : Nat) (st : List Value) (h : fk_H), fk_ev d qX12_history 19 [.ref x, a1, a2, a3, a4] st h = fk_ev d qX12_history 20 [.ref x, a1, a2, a3, a4] (.ref x :: st) h) ∧
  (∀ (d : Nat) (L st : List Value) (N : Nat) (y : Nat → Nat → Int32) (l : Nat → Nat → Int64), fk_ev d qX12_history 20 L (.ref 246 :: st) (fk_E N y l) = fk_ev d qX12_history 23 L (.int (y 246 10) :: st) (fk_E N y l)) ∧
  (∀ (d : Nat) (L : List Value) (x y : Int32) (st : List Value) (h : fk_H), fk_ev d qX12_history 23 L (.int y :: .int x :: st) h = if x ≤ y then fk_ev d qX12_history 28 L st h else fk_ev d qX12_history 26 L st h) ∧
  (∀ (d : Nat) (L st : List Value) (h : fk_H), fk_ev d qX12_history 26 L st h = fk_ev d qX12_history 27 L (.int ((-1 : Int32)) :: st) h) ∧
  (∀ (d : Nat) (L : List Value) (x : Int32) (h : fk_H), fk_ev d qX12_history 27 L [.int x] h = some (some (.int x), h)) ∧
  (∀ (d : Nat) (a1 a2 a3 a4 : Value) (x : Nat) (st : List Value) (h : fk_H), fk_ev d qX12_history 28 [.ref x, a1, a2, a3, a4] st h = fk_ev d qX12_history 29 [.ref x, a1, a2, a3, a4] (.ref x :: st) h) ∧
  (∀ (d : Nat) (L st : List Value) (h : fk_H), fk_ev d qX12_history 29 L st h = fk_ev d qX12_history 30 L (.int (nI 0) :: st) h) ∧
  (∀ (d : Nat) (L st : List Value) (N : Nat) (y : Nat → Nat → Int32) (l : Nat → Nat → Int64) (v : Int32), fk_ev d qX12_history 30 L (.int v :: .ref 246 :: st) (fk_E N y l) = fk_ev d qX12_history 33 L st (fk_E N (fk_u y 246 11 v) l)) ∧
  (∀ (d : Nat) (a1 a2 a3 a4 : Value) (x : Nat) (st : List Value) (h : fk_H), fk_ev d qX12_history 33 [.ref x, a1, a2, a3, a4] st h = fk_ev d qX12_history 34 [.ref x, a1, a2, a3, a4] (.ref x :: st) h) ∧
  (∀ (d : Nat) (a0 a1 a3 a4 : Value) (x : Int32) (st : List Value) (h : fk_H), fk_ev d qX12_history 34 [a0, a1, .int x, a3, a4] st h = fk_ev d qX12_history 35 [a0, a1, .int x, a3, a4] (.int x :: st) h) ∧
  (∀ (d : Nat) (L st : List Value) (N : Nat) (y : Nat → Nat → Int32) (l : Nat → Nat → Int64) (v : Int32), fk_ev d qX12_history 35 L (.int v :: .ref 246 :: st) (fk_E N y l) = fk_ev d qX12_history 38 L st (fk_E N (fk_u y 246 12 v) l)) ∧
  (∀ (d : Nat) (a1 a2 a3 a4 : Value) (x : Nat) (st : List Value) (h : fk_H), fk_ev d qX12_history 38 [.ref x, a1, a2, a3, a4] st h = fk_ev d qX12_history 39 [.ref x, a1, a2, a3, a4] (.ref x :: st) h) ∧
  (∀ (d : Nat) (L st : List Value) (h : fk_H), fk_ev d qX12_history 39 L st h = fk_ev d qX12_history 40 L (.int (nI 0) :: st) h) ∧
  (∀ (d : Nat) (L st : List Value) (N : Nat) (y : Nat → Nat → Int32) (l : Nat → Nat → Int64) (v : Int32), fk_ev d qX12_history 40 L (.int v :: .ref 246 :: st) (fk_E N y l) = fk_ev d qX12_history 43 L st (fk_E N (fk_u y 246 45 v) l)) ∧
  (∀ (d : Nat) (a1 a2 a3 a4 : Value) (x : Nat) (st : List Value) (h : fk_H), fk_ev d qX12_history 43 [.ref x, a1, a2, a3, a4] st h = fk_ev d qX12_history 44 [.ref x, a1, a2, a3, a4] (.ref x :: st) h) ∧
  (∀ (d : Nat) (L st : List Value) (h : fk_H), fk_ev d qX12_history 44 L st h = fk_ev d qX12_history 45 L (.int ((-1 : Int32)) :: st) h) ∧
  (∀ (d : Nat) (L st : List Value) (N : Nat) (y : Nat → Nat → Int32) (l : Nat → Nat → Int64) (v : Int32), fk_ev d qX12_history 45 L (.int v :: .ref 246 :: st) (fk_E N y l) = fk_ev d qX12_history 48 L st (fk_E N (fk_u y 246 46 v) l)) ∧
  (∀ (d : Nat) (a1 a2 a3 a4 : Value) (x : Nat) (st : List Value) (h : fk_H), fk_ev d qX12_history 48 [.ref x, a1, a2, a3, a4] st h = fk_ev d qX12_history 49 [.ref x, a1, a2, a3, a4] (.ref x :: st) h) ∧
  (∀ (d : Nat) (L : List Value)   (N : Nat) (y : Nat → Nat → Int32) (l : Nat → Nat → Int64), fk_ev (d + 1) qX12_history 49 L (.ref 246 :: []) (fk_E N y l) = (fk_ev d qX12_readsStep 0 [.ref 246, .null] [] (fk_E N y l)).bind fun o => fk_ev (d + 1) qX12_history 52 L (o.1.toList ++ []) o.2) ∧
  (∀ (d : Nat) (a0 a1 a2 a3 a4 : Value) (x : Int32) (st : List Value) (h : fk_H), fk_ev d qX12_history 52 [a0, a1, a2, a3, a4] (.int x :: st) h = fk_ev d qX12_history 53 [a0, a1, a2, .int x, a4] st h) ∧
  (∀ (d : Nat) (L : List Value) (x : Int32) (st : List Value) (h : fk_H), fk_ev d qX12_history 54 L (.int x :: st) h = if x = nI 0 then fk_ev d qX12_history 93 L st h else fk_ev d qX12_history 57 L st h) ∧
  (∀ (d : Nat) (a1 a2 a3 a4 : Value) (x : Nat) (st : List Value) (h : fk_H), fk_ev d qX12_history 57 [.ref x, a1, a2, a3, a4] st h = fk_ev d qX12_history 58 [.ref x, a1, a2, a3, a4] (.ref x :: st) h) ∧
  (∀ (d : Nat) (L st : List Value) (N : Nat) (y : Nat → Nat → Int32) (l : Nat → Nat → Int64), fk_ev d qX12_history 58 L (.ref 246 :: st) (fk_E N y l) = fk_ev d qX12_history 61 L (.int (y 246 11) :: st) (fk_E N y l)) ∧
  (∀ (d : Nat) (a1 a2 a3 a4 : Value) (x : Nat) (st : List Value) (h : fk_H), fk_ev d qX12_history 61 [.ref x, a1, a2, a3, a4] st h = fk_ev d qX12_history 62 [.ref x, a1, a2, a3, a4] (.ref x :: st) h) ∧
  (∀ (d : Nat) (L st : List Value) (N : Nat) (y : Nat → Nat → Int32) (l : Nat → Nat → Int64), fk_ev d qX12_history 62 L (.ref 246 :: st) (fk_E N y l) = fk_ev d qX12_history 65 L (.int (y 246 12) :: st) (fk_E N y l)) ∧
  (∀ (d : Nat) (L : List Value) (x y : Int32) (st : List Value) (h : fk_H), fk_ev d qX12_history 65 L (.int y :: .int x :: st) h = if y ≤ x then fk_ev d qX12_history 93 L st h else fk_ev d qX12_history 68 L st h) ∧
  (∀ (d : Nat) (a1 a2 a3 a4 : Value) (x : Nat) (st : List Value) (h : fk_H), fk_ev d qX12_history 68 [.ref x, a1, a2, a3, a4] st h = fk_ev d qX12_history 69 [.ref x, a1, a2, a3, a4] (.ref x :: st) h) ∧
  (∀ (d : Nat) (L st : List Value) (h : fk_H), fk_ev d qX12_history 69 L st h = fk_ev d qX12_history 71 L (.int (nI 44) :: st) h) ∧
  (∀ (d : Nat) (L : List Value) (x0 : Int32)  (N : Nat) (y : Nat → Nat → Int32) (l : Nat → Nat → Int64), fk_ev (d + 1) qX12_history 71 L (.int x0 :: .ref 246 :: []) (fk_E N y l) = (fk_ev d qX12_takes 0 [.ref 246, .int x0] [] (fk_E N y l)).bind fun o => fk_ev (d + 1) qX12_history 74 L (o.1.toList ++ []) o.2) ∧
  (∀ (d : Nat) (L : List Value) (x : Int32) (st : List Value) (h : fk_H), fk_ev d qX12_history 74 L (.int x :: st) h = if x = nI 0 then fk_ev d qX12_history 88 L st h else fk_ev d qX12_history 77 L st h) ∧
  (∀ (d : Nat) (a1 a2 a3 a4 : Value) (x : Nat) (st : List Value) (h : fk_H), fk_ev d qX12_history 77 [.ref x, a1, a2, a3, a4] st h = fk_ev d qX12_history 78 [.ref x, a1, a2, a3, a4] (.ref x :: st) h) ∧
  (∀ (d : Nat) (L : List Value)   (N : Nat) (y : Nat → Nat → Int32) (l : Nat → Nat → Int64), fk_ev (d + 1) qX12_history 78 L (.ref 246 :: []) (fk_E N y l) = (fk_ev d qX12_readsStep 0 [.ref 246, .null] [] (fk_E N y l)).bind fun o => fk_ev (d + 1) qX12_history 81 L (o.1.toList ++ []) o.2) ∧
  (∀ (d : Nat) (L : List Value) (x : Int32) (st : List Value) (h : fk_H), fk_ev d qX12_history 81 L (.int x :: st) h = if x = nI 0 then fk_ev d qX12_history 88 L st h else fk_ev d qX12_history 84 L st h) ∧
  (∀ (d : Nat) (L st : List Value) (h : fk_H), fk_ev d qX12_history 84 L st h = fk_ev d qX12_history 85 L (.int (nI 1) :: st) h) ∧
  (∀ (d : Nat) (L st : List Value) (h : fk_H), fk_ev d qX12_history 85 L st h = fk_ev d qX12_history 89 L st h) ∧
  (∀ (d : Nat) (L st : List Value) (h : fk_H), fk_ev d qX12_history 88 L st h = fk_ev d qX12_history 89 L (.int (nI 0) :: st) h) ∧
  (∀ (d : Nat) (a0 a1 a2 a3 a4 : Value) (x : Int32) (st : List Value) (h : fk_H), fk_ev d qX12_history 89 [a0, a1, a2, a3, a4] (.int x :: st) h = fk_ev d qX12_history 90 [a0, a1, a2, .int x, a4] st h) ∧
  (∀ (d : Nat) (L st : List Value) (h : fk_H), fk_ev d qX12_history 90 L st h = fk_ev d qX12_history 53 L st h) ∧
  (∀ (d : Nat) (a1 a2 a3 a4 : Value) (x : Nat) (st : List Value) (h : fk_H), fk_ev d qX12_history 93 [.ref x, a1, a2, a3, a4] st h = fk_ev d qX12_history 94 [.ref x, a1, a2, a3, a4] (.ref x :: st) h) ∧
  (∀ (d : Nat) (L st : List Value) (h : fk_H), fk_ev d qX12_history 94 L st h = fk_ev d qX12_history 95 L (.int (nI 0) :: st) h) ∧
  (∀ (d : Nat) (L st : List Value) (N : Nat) (y : Nat → Nat → Int32) (l : Nat → Nat → Int64) (v : Int32), fk_ev d qX12_history 95 L (.int v :: .ref 246 :: st) (fk_E N y l) = fk_ev d qX12_history 98 L st (fk_E N (fk_u y 246 10 v) l)) ∧
  (∀ (d : Nat) (a0 a1 a2 a4 : Value) (x : Int32) (st : List Value) (h : fk_H), fk_ev d qX12_history 98 [a0, a1, a2, .int x, a4] st h = fk_ev d qX12_history 99 [a0, a1, a2, .int x, a4] (.int x :: st) h) ∧
  (∀ (d : Nat) (L : List Value) (x : Int32) (st : List Value) (h : fk_H), fk_ev d qX12_history 99 L (.int x :: st) h = if ¬ x = nI 0 then fk_ev d qX12_history 107 L st h else fk_ev d qX12_history 102 L st h) ∧
  (∀ (d : Nat) (a1 a2 a3 a4 : Value) (x : Nat) (st : List Value) (h : fk_H), fk_ev d qX12_history 102 [.ref x, a1, a2, a3, a4] st h = fk_ev d qX12_history 103 [.ref x, a1, a2, a3, a4] (.ref x :: st) h) ∧
  (∀ (d : Nat) (L st : List Value) (N : Nat) (y : Nat → Nat → Int32) (l : Nat → Nat → Int64), fk_ev d qX12_history 103 L (.ref 246 :: st) (fk_E N y l) = fk_ev d qX12_history 106 L (.int (y 246 13) :: st) (fk_E N y l)) ∧
  (∀ (d : Nat) (L : List Value) (x : Int32) (h : fk_H), fk_ev d qX12_history 106 L [.int x] h = some (some (.int x), h)) ∧
  (∀ (d : Nat) (L st : List Value) (h : fk_H), fk_ev d qX12_history 107 L st h = fk_ev d qX12_history 108 L (.int (nI 0) :: st) h) ∧
  (∀ (d : Nat) (a0 a1 a2 a3 a4 : Value) (x : Int32) (st : List Value) (h : fk_H), fk_ev d qX12_history 108 [a0, a1, a2, a3, a4] (.int x :: st) h = fk_ev d qX12_history 110 [a0, a1, a2, a3, .int x] st h) ∧
  (∀ (d : Nat) (a1 a2 a3 a4 : Value) (x : Nat) (st : List Value) (h : fk_H), fk_ev d qX12_history 112 [.ref x, a1, a2, a3, a4] st h = fk_ev d qX12_history 113 [.ref x, a1, a2, a3, a4] (.ref x :: st) h) ∧
  (∀ (d : Nat) (L st : List Value) (N : Nat) (y : Nat → Nat → Int32) (l : Nat → Nat → Int64), fk_ev d qX12_history 113 L (.ref 246 :: st) (fk_E N y l) = fk_ev d qX12_history 116 L (.int (y 246 45) :: st) (fk_E N y l)) ∧
  (∀ (d : Nat) (L : List Value) (x y : Int32) (st : List Value) (h : fk_H), fk_ev d qX12_history 116 L (.int y :: .int x :: st) h = if y ≤ x then fk_ev d qX12_history 185 L st h else fk_ev d qX12_history 119 L st h) ∧
  (∀ (d : Nat) (a1 a2 a3 a4 : Value) (x : Nat) (st : List Value) (h : fk_H), fk_ev d qX12_history 119 [.ref x, a1, a2, a3, a4] st h = fk_ev d qX12_history 120 [.ref x, a1, a2, a3, a4] (.ref x :: st) h) ∧
  (∀ (d : Nat) (L st : List Value) (N : Nat) (y : Nat → Nat → Int32) (l : Nat → Nat → Int64), fk_ev d qX12_history 120 L (.ref 246 :: st) (fk_E N y l) = fk_ev d qX12_history 123 L (.ref 274 :: st) (fk_E N y l)) ∧
  (∀ (d : Nat) (a0 a1 a2 a3 : Value) (x : Int32) (st : List Value) (h : fk_H), fk_ev d qX12_history 123 [a0, a1, a2, a3, .int x] st h = fk_ev d qX12_history 125 [a0, a1, a2, a3, .int x] (.int x :: st) h) ∧
  (∀ (d : Nat) (L st : List Value) (N : Nat) (y : Nat → Nat → Int32) (l : Nat → Nat → Int64) (i : Nat), i < 20 → fk_ev d qX12_history 125 L (.int (nI i) :: .ref 274 :: st) (fk_E N y l) = fk_ev d qX12_history 126 L (.int (y 274 i) :: st) (fk_E N y l)) ∧
  (∀ (d : Nat) (a1 a2 a3 a4 : Value) (x : Nat) (st : List Value) (h : fk_H), fk_ev d qX12_history 126 [.ref x, a1, a2, a3, a4] st h = fk_ev d qX12_history 127 [.ref x, a1, a2, a3, a4] (.ref x :: st) h) ∧
  (∀ (d : Nat) (L st : List Value) (N : Nat) (y : Nat → Nat → Int32) (l : Nat → Nat → Int64), fk_ev d qX12_history 127 L (.ref 246 :: st) (fk_E N y l) = fk_ev d qX12_history 130 L (.ref 247 :: st) (fk_E N y l)) ∧
  (∀ (d : Nat) (L st : List Value) (h : fk_H), fk_ev d qX12_history 130 L st h = fk_ev d qX12_history 133 L (.int (nI 832) :: st) h) ∧
  (∀ (d : Nat) (L st : List Value) (N : Nat) (y : Nat → Nat → Int32) (l : Nat → Nat → Int64) (i : Nat), i < 3912 → fk_ev d qX12_history 133 L (.int (nI i) :: .ref 247 :: st) (fk_E N y l) = fk_ev d qX12_history 134 L (.int (y 247 i) :: st) (fk_E N y l)) ∧
  (∀ (d : Nat) (L : List Value) (x y : Int32) (st : List Value) (h : fk_H), fk_ev d qX12_history 134 L (.int y :: .int x :: st) h = if x ≤ y then fk_ev d qX12_history 140 L st h else fk_ev d qX12_history 137 L st h) ∧
  (∀ (d : Nat) (a0 a1 a2 a3 : Value) (x : Int32) (st : List Value) (h : fk_H), fk_ev d qX12_history 137 [a0, a1, a2, a3, .int x] st h = fk_ev d qX12_history 139 [a0, a1, a2, a3, .int x] (.int x :: st) h) ∧
  (∀ (d : Nat) (L : List Value) (x : Int32) (h : fk_H), fk_ev d qX12_history 139 L [.int x] h = some (some (.int x), h)) ∧
  (∀ (d : Nat) (a1 a2 a3 a4 : Value) (x : Nat) (st : List Value) (h : fk_H), fk_ev d qX12_history 140 [.ref x, a1, a2, a3, a4] st h = fk_ev d qX12_history 141 [.ref x, a1, a2, a3, a4] (.ref x :: st) h) ∧
  (∀ (d : Nat) (a1 a2 a3 a4 : Value) (x : Nat) (st : List Value) (h : fk_H), fk_ev d qX12_history 141 [.ref x, a1, a2, a3, a4] st h = fk_ev d qX12_history 142 [.ref x, a1, a2, a3, a4] (.ref x :: st) h) ∧
  (∀ (d : Nat) (L st : List Value) (N : Nat) (y : Nat → Nat → Int32) (l : Nat → Nat → Int64), fk_ev d qX12_history 142 L (.ref 246 :: st) (fk_E N y l) = fk_ev d qX12_history 145 L (.ref 274 :: st) (fk_E N y l)) ∧
  (∀ (d : Nat) (a0 a1 a2 a3 : Value) (x : Int32) (st : List Value) (h : fk_H), fk_ev d qX12_history 145 [a0, a1, a2, a3, .int x] st h = fk_ev d qX12_history 147 [a0, a1, a2, a3, .int x] (.int x :: st) h) ∧
  (∀ (d : Nat) (L st : List Value) (N : Nat) (y : Nat → Nat → Int32) (l : Nat → Nat → Int64) (i : Nat), i < 20 → fk_ev d qX12_history 147 L (.int (nI i) :: .ref 274 :: st) (fk_E N y l) = fk_ev d qX12_history 148 L (.int (y 274 i) :: st) (fk_E N y l)) ∧
  (∀ (d : Nat) (L : List Value) (x0 : Int32)  (N : Nat) (y : Nat → Nat → Int32) (l : Nat → Nat → Int64), fk_ev (d + 1) qX12_history 148 L (.int x0 :: .ref 246 :: []) (fk_E N y l) = (fk_ev d qX12_isRemembered 0 [.ref 246, .int x0] [] (fk_E N y l)).bind fun o => fk_ev (d + 1) qX12_history 151 L (o.1.toList ++ []) o.2) ∧
  (∀ (d : Nat) (L : List Value) (x : Int32) (st : List Value) (h : fk_H), fk_ev d qX12_history 151 L (.int x :: st) h = if x = nI 0 then fk_ev d qX12_history 179 L st h else fk_ev d qX12_history 154 L st h) ∧
  (∀ (d : Nat) (a1 a2 a3 a4 : Value) (x : Nat) (st : List Value) (h : fk_H), fk_ev d qX12_history 154 [.ref x, a1, a2, a3, a4] st h = fk_ev d qX12_history 155 [.ref x, a1, a2, a3, a4] (.ref x :: st) h) ∧
  (∀ (d : Nat) (a0 a2 a3 a4 : Value) (x : Int32) (st : List Value) (h : fk_H), fk_ev d qX12_history 155 [a0, .int x, a2, a3, a4] st h = fk_ev d qX12_history 156 [a0, .int x, a2, a3, a4] (.int x :: st) h) ∧
  (∀ (d : Nat) (a1 a2 a3 a4 : Value) (x : Nat) (st : List Value) (h : fk_H), fk_ev d qX12_history 156 [.ref x, a1, a2, a3, a4] st h = fk_ev d qX12_history 157 [.ref x, a1, a2, a3, a4] (.ref x :: st) h) ∧
  (∀ (d : Nat) (L st : List Value) (N : Nat) (y : Nat → Nat → Int32) (l : Nat → Nat → Int64), fk_ev d qX12_history 157 L (.ref 246 :: st) (fk_E N y l) = fk_ev d qX12_history 160 L (.ref 274 :: st) (fk_E N y l)) ∧
  (∀ (d : Nat) (a0 a1 a2 a3 : Value) (x : Int32) (st : List Value) (h : fk_H), fk_ev d qX12_history 160 [a0, a1, a2, a3, .int x] st h = fk_ev d qX12_history 162 [a0, a1, a2, a3, .int x] (.int x :: st) h) ∧
  (∀ (d : Nat) (L st : List Value) (N : Nat) (y : Nat → Nat → Int32) (l : Nat → Nat → Int64) (i : Nat), i < 20 → fk_ev d qX12_history 162 L (.int (nI i) :: .ref 274 :: st) (fk_E N y l) = fk_ev d qX12_history 163 L (.int (y 274 i) :: st) (fk_E N y l)) ∧
  (∀ (d : Nat) (L : List Value) (x0 : Int32) (x1 : Int32)  (N : Nat) (y : Nat → Nat → Int32) (l : Nat → Nat → Int64), fk_ev (d + 1) qX12_history 163 L (.int x1 :: .int x0 :: .ref 246 :: []) (fk_E N y l) = (fk_ev d qX12_wasAt 0 [.ref 246, .int x0, .int x1, .null] [] (fk_E N y l)).bind fun o => fk_ev (d + 1) qX12_history 166 L (o.1.toList ++ []) o.2) ∧
  (∀ (d : Nat) (a1 a2 a3 a4 : Value) (x : Nat) (st : List Value) (h : fk_H), fk_ev d qX12_history 166 [.ref x, a1, a2, a3, a4] st h = fk_ev d qX12_history 167 [.ref x, a1, a2, a3, a4] (.ref x :: st) h) ∧
  (∀ (d : Nat) (L st : List Value) (N : Nat) (y : Nat → Nat → Int32) (l : Nat → Nat → Int64), fk_ev d qX12_history 167 L (.ref 246 :: st) (fk_E N y l) = fk_ev d qX12_history 170 L (.ref 273 :: st) (fk_E N y l)) ∧
  (∀ (d : Nat) (a0 a1 a2 a3 : Value) (x : Int32) (st : List Value) (h : fk_H), fk_ev d qX12_history 170 [a0, a1, a2, a3, .int x] st h = fk_ev d qX12_history 172 [a0, a1, a2, a3, .int x] (.int x :: st) h) ∧
  (∀ (d : Nat) (L st : List Value) (N : Nat) (y : Nat → Nat → Int32) (l : Nat → Nat → Int64) (i : Nat), i < 20 → fk_ev d qX12_history 172 L (.int (nI i) :: .ref 273 :: st) (fk_E N y l) = fk_ev d qX12_history 173 L (.int (y 273 i) :: st) (fk_E N y l)) ∧
  (∀ (d : Nat) (L : List Value) (x y : Int32) (st : List Value) (h : fk_H), fk_ev d qX12_history 173 L (.int y :: .int x :: st) h = if x = y then fk_ev d qX12_history 179 L st h else fk_ev d qX12_history 176 L st h) ∧
  (∀ (d : Nat) (a0 a1 a2 a3 : Value) (x : Int32) (st : List Value) (h : fk_H), fk_ev d qX12_history 176 [a0, a1, a2, a3, .int x] st h = fk_ev d qX12_history 178 [a0, a1, a2, a3, .int x] (.int x :: st) h) ∧
  (∀ (d : Nat) (L : List Value) (x : Int32) (h : fk_H), fk_ev d qX12_history 178 L [.int x] h = some (some (.int x), h)) ∧
  (∀ (d : Nat) (a0 a1 a2 a3 : Value) (x : Int32) (st : List Value) (h : fk_H), fk_ev d qX12_history 179 [a0, a1, a2, a3, .int x] st h = fk_ev d qX12_history 182 [a0, a1, a2, a3, .int (x + nI 1)] st h) ∧
  (∀ (d : Nat) (L st : List Value) (h : fk_H), fk_ev d qX12_history 182 L st h = fk_ev d qX12_history 110 L st h) ∧
  (∀ (d : Nat) (a1 a2 a3 a4 : Value) (x : Nat) (st : List Value) (h : fk_H), fk_ev d qX12_history 185 [.ref x, a1, a2, a3, a4] st h = fk_ev d qX12_history 186 [.ref x, a1, a2, a3, a4] (.ref x :: st) h) ∧
  (∀ (d : Nat) (L st : List Value) (N : Nat) (y : Nat → Nat → Int32) (l : Nat → Nat → Int64), fk_ev d qX12_history 186 L (.ref 246 :: st) (fk_E N y l) = fk_ev d qX12_history 189 L (.int (y 246 45) :: st) (fk_E N y l)) ∧
  (∀ (d : Nat) (L : List Value) (x : Int32) (h : fk_H), fk_ev d qX12_history 189 L [.int x] h = some (some (.int x), h)) := ⟨fun d a1 a2 a3 a4 x st h => fk_w_aloadn 0 [.ref x, a1, a2, a3, a4] dX12_history_0 rfl,
  fun d a0 a2 a3 a4 x st h => fk_w_iloadn 1 [a0, .int x, a2, a3, a4] dX12_history_1 rfl,
  fun d L x0 N y l  => fk_g_call [.int x0] [] rfl lm_12_123 dX12_history_2 rfl ⟨rfl, by decide⟩ (by simp) fk_at_246,
  fun d L x st h => fk_r_if_eq dX12_history_5 (by decide),
  fun d a0 a1 a3 a4 x st h => fk_w_iloadn 2 [a0, a1, .int x, a3, a4] dX12_history_8 rfl,
  fun d L st h => fk_w_iconst dX12_history_9 (by decide),
  fun d L st h => fk_w_bipush dX12_history_10 (by decide),
  fun d L x0 x1 x2 h => fk_g_calls [.int x0, .int x1, .int x2] [] rfl lm_12_112 dX12_history_12 rfl ⟨rfl, by decide⟩ (by simp),
  fun d L x st h => fk_r_if_eq dX12_history_15 (by decide),
  fun d a0 a1 a3 a4 x st h => fk_w_iloadn 2 [a0, a1, .int x, a3, a4] dX12_history_18 rfl,
  fun d a1 a2 a3 a4 x st h => fk_w_aloadn 0 [.ref x, a1, a2, a3, a4] dX12_history_19 rfl,
  fun d L st N y l => fk_g_getI rfl lf_12_148 (by decide) dX12_history_20 fk_at_246,
  fun d L x y st h => fk_r_icmp_le dX12_history_23 (by decide),
  fun d L st h => fk_w_iconst dX12_history_26 (by decide),
  fun d L x h => fk_r_ret dX12_history_27 (Or.inl rfl),
  fun d a1 a2 a3 a4 x st h => fk_w_aloadn 0 [.ref x, a1, a2, a3, a4] dX12_history_28 rfl,
  fun d L st h => fk_w_iconst dX12_history_29 (by decide),
  fun d L st N y l v => fk_g_putI rfl lf_12_155 (by decide) dX12_history_30 rfl fk_at_246,
  fun d a1 a2 a3 a4 x st h => fk_w_aloadn 0 [.ref x, a1, a2, a3, a4] dX12_history_33 rfl,
  fun d a0 a1 a3 a4 x st h => fk_w_iloadn 2 [a0, a1, .int x, a3, a4] dX12_history_34 rfl,
  fun d L st N y l v => fk_g_putI rfl lf_12_158 (by decide) dX12_history_35 rfl fk_at_246,
  fun d a1 a2 a3 a4 x st h => fk_w_aloadn 0 [.ref x, a1, a2, a3, a4] dX12_history_38 rfl,
  fun d L st h => fk_w_iconst dX12_history_39 (by decide),
  fun d L st N y l v => fk_g_putI rfl lf_12_406 (by decide) dX12_history_40 rfl fk_at_246,
  fun d a1 a2 a3 a4 x st h => fk_w_aloadn 0 [.ref x, a1, a2, a3, a4] dX12_history_43 rfl,
  fun d L st h => fk_w_iconst dX12_history_44 (by decide),
  fun d L st N y l v => fk_g_putI rfl lf_12_409 (by decide) dX12_history_45 rfl fk_at_246,
  fun d a1 a2 a3 a4 x st h => fk_w_aloadn 0 [.ref x, a1, a2, a3, a4] dX12_history_48 rfl,
  fun d L  N y l  => fk_g_call [] [] rfl lm_12_412 dX12_history_49 rfl ⟨rfl, by decide⟩ (by simp) fk_at_246,
  fun d a0 a1 a2 a3 a4 x st h => fk_w_istoren 3 5 [] [a0, a1, a2, a3, a4] [a0, a1, a2, .int x, a4] dX12_history_52 rfl rfl (by decide) rfl,
  fun d L x st h => fk_r_if_eq dX12_history_54 (by decide),
  fun d a1 a2 a3 a4 x st h => fk_w_aloadn 0 [.ref x, a1, a2, a3, a4] dX12_history_57 rfl,
  fun d L st N y l => fk_g_getI rfl lf_12_155 (by decide) dX12_history_58 fk_at_246,
  fun d a1 a2 a3 a4 x st h => fk_w_aloadn 0 [.ref x, a1, a2, a3, a4] dX12_history_61 rfl,
  fun d L st N y l => fk_g_getI rfl lf_12_158 (by decide) dX12_history_62 fk_at_246,
  fun d L x y st h => fk_r_icmp_ge dX12_history_65 (by decide),
  fun d a1 a2 a3 a4 x st h => fk_w_aloadn 0 [.ref x, a1, a2, a3, a4] dX12_history_68 rfl,
  fun d L st h => fk_w_bipush dX12_history_69 (by decide),
  fun d L x0 N y l  => fk_g_call [.int x0] [] rfl lm_12_244 dX12_history_71 rfl ⟨rfl, by decide⟩ (by simp) fk_at_246,
  fun d L x st h => fk_r_if_eq dX12_history_74 (by decide),
  fun d a1 a2 a3 a4 x st h => fk_w_aloadn 0 [.ref x, a1, a2, a3, a4] dX12_history_77 rfl,
  fun d L  N y l  => fk_g_call [] [] rfl lm_12_412 dX12_history_78 rfl ⟨rfl, by decide⟩ (by simp) fk_at_246,
  fun d L x st h => fk_r_if_eq dX12_history_81 (by decide),
  fun d L st h => fk_w_iconst dX12_history_84 (by decide),
  fun d L st h => fk_r_goto dX12_history_85 (by decide),
  fun d L st h => fk_w_iconst dX12_history_88 (by decide),
  fun d a0 a1 a2 a3 a4 x st h => fk_w_istoren 3 5 [] [a0, a1, a2, a3, a4] [a0, a1, a2, .int x, a4] dX12_history_89 rfl rfl (by decide) rfl,
  fun d L st h => fk_r_goto dX12_history_90 (by decide),
  fun d a1 a2 a3 a4 x st h => fk_w_aloadn 0 [.ref x, a1, a2, a3, a4] dX12_history_93 rfl,
  fun d L st h => fk_w_iconst dX12_history_94 (by decide),
  fun d L st N y l v => fk_g_putI rfl lf_12_148 (by decide) dX12_history_95 rfl fk_at_246,
  fun d a0 a1 a2 a4 x st h => fk_w_iloadn 3 [a0, a1, a2, .int x, a4] dX12_history_98 rfl,
  fun d L x st h => fk_r_if_ne dX12_history_99 (by decide),
  fun d a1 a2 a3 a4 x st h => fk_w_aloadn 0 [.ref x, a1, a2, a3, a4] dX12_history_102 rfl,
  fun d L st N y l => fk_g_getI rfl lf_12_165 (by decide) dX12_history_103 fk_at_246,
  fun d L x h => fk_r_ret dX12_history_106 (Or.inl rfl),
  fun d L st h => fk_w_iconst dX12_history_107 (by decide),
  fun d a0 a1 a2 a3 a4 x st h => fk_w_istore 4 5 [] [a0, a1, a2, a3, a4] [a0, a1, a2, a3, .int x] dX12_history_108 rfl rfl (by decide) rfl,
  fun d a1 a2 a3 a4 x st h => fk_w_aloadn 0 [.ref x, a1, a2, a3, a4] dX12_history_112 rfl,
  fun d L st N y l => fk_g_getI rfl lf_12_406 (by decide) dX12_history_113 fk_at_246,
  fun d L x y st h => fk_r_icmp_ge dX12_history_116 (by decide),
  fun d a1 a2 a3 a4 x st h => fk_w_aloadn 0 [.ref x, a1, a2, a3, a4] dX12_history_119 rfl,
  fun d L st N y l => fk_g_getC rfl lf_12_94 (by decide) rfl dX12_history_120 fk_at_246,
  fun d a0 a1 a2 a3 x st h => fk_w_iload 4 [a0, a1, a2, a3, .int x] dX12_history_123 rfl,
  fun d L st N y l i hi => fk_g_iald fk_at_274 fk_ln_274 (by decide) dX12_history_125 hi,
  fun d a1 a2 a3 a4 x st h => fk_w_aloadn 0 [.ref x, a1, a2, a3, a4] dX12_history_126 rfl,
  fun d L st N y l => fk_g_getC rfl lf_12_7 (by decide) rfl dX12_history_127 fk_at_246,
  fun d L st h => fk_w_sipush dX12_history_130 (by decide),
  fun d L st N y l i hi => fk_g_iald fk_at_247 fk_ln_247 (by decide) dX12_history_133 hi,
  fun d L x y st h => fk_r_icmp_le dX12_history_134 (by decide),
  fun d a0 a1 a2 a3 x st h => fk_w_iload 4 [a0, a1, a2, a3, .int x] dX12_history_137 rfl,
  fun d L x h => fk_r_ret dX12_history_139 (Or.inl rfl),
  fun d a1 a2 a3 a4 x st h => fk_w_aloadn 0 [.ref x, a1, a2, a3, a4] dX12_history_140 rfl,
  fun d a1 a2 a3 a4 x st h => fk_w_aloadn 0 [.ref x, a1, a2, a3, a4] dX12_history_141 rfl,
  fun d L st N y l => fk_g_getC rfl lf_12_94 (by decide) rfl dX12_history_142 fk_at_246,
  fun d a0 a1 a2 a3 x st h => fk_w_iload 4 [a0, a1, a2, a3, .int x] dX12_history_145 rfl,
  fun d L st N y l i hi => fk_g_iald fk_at_274 fk_ln_274 (by decide) dX12_history_147 hi,
  fun d L x0 N y l  => fk_g_call [.int x0] [] rfl lm_12_340 dX12_history_148 rfl ⟨rfl, by decide⟩ (by simp) fk_at_246,
  fun d L x st h => fk_r_if_eq dX12_history_151 (by decide),
  fun d a1 a2 a3 a4 x st h => fk_w_aloadn 0 [.ref x, a1, a2, a3, a4] dX12_history_154 rfl,
  fun d a0 a2 a3 a4 x st h => fk_w_iloadn 1 [a0, .int x, a2, a3, a4] dX12_history_155 rfl,
  fun d a1 a2 a3 a4 x st h => fk_w_aloadn 0 [.ref x, a1, a2, a3, a4] dX12_history_156 rfl,
  fun d L st N y l => fk_g_getC rfl lf_12_94 (by decide) rfl dX12_history_157 fk_at_246,
  fun d a0 a1 a2 a3 x st h => fk_w_iload 4 [a0, a1, a2, a3, .int x] dX12_history_160 rfl,
  fun d L st N y l i hi => fk_g_iald fk_at_274 fk_ln_274 (by decide) dX12_history_162 hi,
  fun d L x0 x1 N y l  => fk_g_call [.int x0, .int x1] [] rfl lm_12_343 dX12_history_163 rfl ⟨rfl, by decide⟩ (by simp) fk_at_246,
  fun d a1 a2 a3 a4 x st h => fk_w_aloadn 0 [.ref x, a1, a2, a3, a4] dX12_history_166 rfl,
  fun d L st N y l => fk_g_getC rfl lf_12_91 (by decide) rfl dX12_history_167 fk_at_246,
  fun d a0 a1 a2 a3 x st h => fk_w_iload 4 [a0, a1, a2, a3, .int x] dX12_history_170 rfl,
  fun d L st N y l i hi => fk_g_iald fk_at_273 fk_ln_273 (by decide) dX12_history_172 hi,
  fun d L x y st h => fk_r_icmp_eq dX12_history_173 (by decide),
  fun d a0 a1 a2 a3 x st h => fk_w_iload 4 [a0, a1, a2, a3, .int x] dX12_history_176 rfl,
  fun d L x h => fk_r_ret dX12_history_178 (Or.inl rfl),
  fun d a0 a1 a2 a3 x st h => fk_w_iinc 4 5 (1) [] [a0, a1, a2, a3, .int x] [a0, a1, a2, a3, .int (x + nI 1)] dX12_history_179 rfl rfl rfl (by decide) rfl,
  fun d L st h => fk_r_goto dX12_history_182 (by decide),
  fun d a1 a2 a3 a4 x st h => fk_w_aloadn 0 [.ref x, a1, a2, a3, a4] dX12_history_185 rfl,
  fun d L st N y l => fk_g_getI rfl lf_12_406 (by decide) dX12_history_186 fk_at_246,
  fun d L x h => fk_r_ret dX12_history_189 (Or.inl rfl)⟩
theorem hX12_history_53 : ∀ (d : Nat) (a0 a1 a2 a4 : Value) (x : Int32) (st : List Value) (h : fk_H), fk_ev d qX12_history 53 [a0, a1, a2, .int x, a4] st h = fk_ev d qX12_history 54 [a0, a1, a2, .int x, a4] (.int x :: st) h := fun d a0 a1 a2 a4 x st h => fk_w_iloadn 3 [a0, a1, a2, .int x, a4] dX12_history_53 rfl
theorem hX12_history_110 : ∀ (d : Nat) (a0 a1 a2 a3 : Value) (x : Int32) (st : List Value) (h : fk_H), fk_ev d qX12_history 110 [a0, a1, a2, a3, .int x] st h = fk_ev d qX12_history 112 [a0, a1, a2, a3, .int x] (.int x :: st) h := fun d a0 a1 a2 a3 x st h => fk_w_iload 4 [a0, a1, a2, a3, .int x] dX12_history_110 rfl
theorem dX12_isFrom_0 : decode cX12_isFrom 0 = .ok (.iload_n 1, 1) := by decide +kernel
theorem dX12_isFrom_1 : decode cX12_isFrom 1 = .ok (.istore_n 3, 1) := by decide +kernel
theorem dX12_isFrom_2 : decode cX12_isFrom 2 = .ok (.iload_n 3, 1) := by decide +kernel
theorem dX12_isFrom_3 : decode cX12_isFrom 3 = .ok (.ifCond .lt 21, 3) := by decide +kernel
theorem dX12_isFrom_6 : decode cX12_isFrom 6 = .ok (.iload_n 3, 1) := by decide +kernel
theorem dX12_isFrom_7 : decode cX12_isFrom 7 = .ok (.iload_n 2, 1) := by decide +kernel
theorem dX12_isFrom_8 : decode cX12_isFrom 8 = .ok (.if_icmp .eq 16, 3) := by decide +kernel
theorem dX12_isFrom_11 : decode cX12_isFrom 11 = .ok (.aload_n 0, 1) := by decide +kernel
theorem dX12_isFrom_12 : decode cX12_isFrom 12 = .ok (.getfield 7, 3) := by decide +kernel
theorem dX12_isFrom_15 : decode cX12_isFrom 15 = .ok (.bipush 64, 2) := by decide +kernel
theorem dX12_isFrom_17 : decode cX12_isFrom 17 = .ok (.iload_n 3, 1) := by decide +kernel
theorem dX12_isFrom_18 : decode cX12_isFrom 18 = .ok (.iadd, 1) := by decide +kernel
theorem dX12_isFrom_19 : decode cX12_isFrom 19 = .ok (.iaload, 1) := by decide +kernel
theorem dX12_isFrom_20 : decode cX12_isFrom 20 = .ok (.istore_n 3, 1) := by decide +kernel
theorem dX12_isFrom_21 : decode cX12_isFrom 21 = .ok (.goto (-19), 3) := by decide +kernel
theorem dX12_isFrom_24 : decode cX12_isFrom 24 = .ok (.iload_n 3, 1) := by decide +kernel
theorem dX12_isFrom_25 : decode cX12_isFrom 25 = .ok (.iload_n 2, 1) := by decide +kernel
theorem dX12_isFrom_26 : decode cX12_isFrom 26 = .ok (.if_icmp .ne 7, 3) := by decide +kernel
theorem dX12_isFrom_29 : decode cX12_isFrom 29 = .ok (.iconst 1, 1) := by decide +kernel
theorem dX12_isFrom_30 : decode cX12_isFrom 30 = .ok (.goto 4, 3) := by decide +kernel
theorem dX12_isFrom_33 : decode cX12_isFrom 33 = .ok (.iconst 0, 1) := by decide +kernel
theorem dX12_isFrom_34 : decode cX12_isFrom 34 = .ok (.ireturn, 1) := by decide +kernel
theorem rX12_isFrom : (∀ (d : Nat) (a0 a2 a3 : Value) (x : Int32) (st : List Value) (h : fk_H), fk_ev d qX12_isFrom 0 [a0, .int x, a2, a3] st h = fk_ev d qX12_isFrom 1 [a0, .int x, a2, a3] (.int x :: st) h) ∧
  (∀ (d : Nat) (a0 a1 a2 a3 : Value) (x : Int32) (st : List Value) (h : fk_H), fk_ev d qX12_isFrom 1 [a0, a1, a2, a3] (.int x :: st) h = fk_ev d qX12_isFrom 2 [a0, a1, a2, .int x] st h) ∧
  (∀ (d : Nat) (L : List Value) (x : Int32) (st : List Value) (h : fk_H), fk_ev d qX12_isFrom 3 L (.int x :: st) h = if x < nI 0 then fk_ev d qX12_isFrom 24 L st h else fk_ev d qX12_isFrom 6 L st h) ∧
  (∀ (d : Nat) (a0 a1 a2 : Value) (x : Int32) (st : List Value) (h : fk_H), fk_ev d qX12_isFrom 6 [a0, a1, a2, .int x] st h = fk_ev d qX12_isFrom 7 [a0, a1, a2, .int x] (.int x :: st) h) ∧
  (∀ (d : Nat) (a0 a1 a3 : Value) (x : Int32) (st : List Value) (h : fk_H), fk_ev d qX12_isFrom 7 [a0, a1, .int x, a3] st h = fk_ev d qX12_isFrom 8 [a0, a1, .int x, a3] (.int x :: st) h) ∧
  (∀ (d : Nat) (L : List Value) (x y : Int32) (st : List Value) (h : fk_H), fk_ev d qX12_isFrom 8 L (.int y :: .int x :: st) h = if x = y then fk_ev d qX12_isFrom 24 L st h else fk_ev d qX12_isFrom 11 L st h) ∧
  (∀ (d : Nat) (a1 a2 a3 : Value) (x : Nat) (st : List Value) (h : fk_H), fk_ev d qX12_isFrom 11 [.ref x, a1, a2, a3] st h = fk_ev d qX12_isFrom 12 [.ref x, a1, a2, a3] (.ref x :: st) h) ∧
  (∀ (d : Nat) (L st : List Value) (N : Nat) (y : Nat → Nat → Int32) (l : Nat → Nat → Int64), fk_ev d qX12_isFrom 12 L (.ref 246 :: st) (fk_E N y l) = fk_ev d qX12_isFrom 15 L (.ref 247 :: st) (fk_E N y l)) ∧
  (∀ (d : Nat) (L st : List Value) (h : fk_H), fk_ev d qX12_isFrom 15 L st h = fk_ev d qX12_isFrom 17 L (.int (nI 64) :: st) h) ∧
  (∀ (d : Nat) (a0 a1 a2 : Value) (x : Int32) (st : List Value) (h : fk_H), fk_ev d qX12_isFrom 17 [a0, a1, a2, .int x] st h = fk_ev d qX12_isFrom 18 [a0, a1, a2, .int x] (.int x :: st) h) ∧
  (∀ (d : Nat) (L : List Value) (x y : Int32) (st : List Value) (h : fk_H), fk_ev d qX12_isFrom 18 L (.int y :: .int x :: st) h = fk_ev d qX12_isFrom 19 L (.int (x + y) :: st) h) ∧
  (∀ (d : Nat) (L st : List Value) (N : Nat) (y : Nat → Nat → Int32) (l : Nat → Nat → Int64) (i : Nat), i < 3912 → fk_ev d qX12_isFrom 19 L (.int (nI i) :: .ref 247 :: st) (fk_E N y l) = fk_ev d qX12_isFrom 20 L (.int (y 247 i) :: st) (fk_E N y l)) ∧
  (∀ (d : Nat) (a0 a1 a2 a3 : Value) (x : Int32) (st : List Value) (h : fk_H), fk_ev d qX12_isFrom 20 [a0, a1, a2, a3] (.int x :: st) h = fk_ev d qX12_isFrom 21 [a0, a1, a2, .int x] st h) ∧
  (∀ (d : Nat) (L st : List Value) (h : fk_H), fk_ev d qX12_isFrom 21 L st h = fk_ev d qX12_isFrom 2 L st h) ∧
  (∀ (d : Nat) (a0 a1 a2 : Value) (x : Int32) (st : List Value) (h : fk_H), fk_ev d qX12_isFrom 24 [a0, a1, a2, .int x] st h = fk_ev d qX12_isFrom 25 [a0, a1, a2, .int x] (.int x :: st) h) ∧
  (∀ (d : Nat) (a0 a1 a3 : Value) (x : Int32) (st : List Value) (h : fk_H), fk_ev d qX12_isFrom 25 [a0, a1, .int x, a3] st h = fk_ev d qX12_isFrom 26 [a0, a1, .int x, a3] (.int x :: st) h) ∧
  (∀ (d : Nat) (L : List Value) (x y : Int32) (st : List Value) (h : fk_H), fk_ev d qX12_isFrom 26 L (.int y :: .int x :: st) h = if ¬ x = y then fk_ev d qX12_isFrom 33 L st h else fk_ev d qX12_isFrom 29 L st h) ∧
  (∀ (d : Nat) (L st : List Value) (h : fk_H), fk_ev d qX12_isFrom 29 L st h = fk_ev d qX12_isFrom 30 L (.int (nI 1) :: st) h) ∧
  (∀ (d : Nat) (L st : List Value) (h : fk_H), fk_ev d qX12_isFrom 30 L st h = fk_ev d qX12_isFrom 34 L st h) ∧
  (∀ (d : Nat) (L st : List Value) (h : fk_H), fk_ev d qX12_isFrom 33 L st h = fk_ev d qX12_isFrom 34 L (.int (nI 0) :: st) h) ∧
  (∀ (d : Nat) (L : List Value) (h : fk_H), fk_ev d qX12_isFrom 34 L [.int (nI 0)] h = some (some (.int (nI 0)), h)) ∧
  (∀ (d : Nat) (L : List Value) (h : fk_H), fk_ev d qX12_isFrom 34 L [.int (nI 1)] h = some (some (.int (nI 1)), h)) ∧
  (∀ (d : Nat) (L : List Value) (p : Prop) [Decidable p] (h : fk_H), fk_ev d qX12_isFrom 34 L [.int (fk_b p)] h = some (some (.int (fk_b p)), h)) ∧
  (∀ (d : Nat) (L : List Value) (x : Int32) (h : fk_H), (x = nI 0 ∨ x = nI 1) → fk_ev d qX12_isFrom 34 L [.int x] h = some (some (.int x), h)) := ⟨fun d a0 a2 a3 x st h => fk_w_iloadn 1 [a0, .int x, a2, a3] dX12_isFrom_0 rfl,
  fun d a0 a1 a2 a3 x st h => fk_w_istoren 3 4 [] [a0, a1, a2, a3] [a0, a1, a2, .int x] dX12_isFrom_1 rfl rfl (by decide) rfl,
  fun d L x st h => fk_r_if_lt dX12_isFrom_3 (by decide),
  fun d a0 a1 a2 x st h => fk_w_iloadn 3 [a0, a1, a2, .int x] dX12_isFrom_6 rfl,
  fun d a0 a1 a3 x st h => fk_w_iloadn 2 [a0, a1, .int x, a3] dX12_isFrom_7 rfl,
  fun d L x y st h => fk_r_icmp_eq dX12_isFrom_8 (by decide),
  fun d a1 a2 a3 x st h => fk_w_aloadn 0 [.ref x, a1, a2, a3] dX12_isFrom_11 rfl,
  fun d L st N y l => fk_g_getC rfl lf_12_7 (by decide) rfl dX12_isFrom_12 fk_at_246,
  fun d L st h => fk_w_bipush dX12_isFrom_15 (by decide),
  fun d a0 a1 a2 x st h => fk_w_iloadn 3 [a0, a1, a2, .int x] dX12_isFrom_17 rfl,
  fun d L x y st h => fk_r_iadd dX12_isFrom_18,
  fun d L st N y l i hi => fk_g_iald fk_at_247 fk_ln_247 (by decide) dX12_isFrom_19 hi,
  fun d a0 a1 a2 a3 x st h => fk_w_istoren 3 4 [] [a0, a1, a2, a3] [a0, a1, a2, .int x] dX12_isFrom_20 rfl rfl (by decide) rfl,
  fun d L st h => fk_r_goto dX12_isFrom_21 (by decide),
  fun d a0 a1 a2 x st h => fk_w_iloadn 3 [a0, a1, a2, .int x] dX12_isFrom_24 rfl,
  fun d a0 a1 a3 x st h => fk_w_iloadn 2 [a0, a1, .int x, a3] dX12_isFrom_25 rfl,
  fun d L x y st h => fk_r_icmp_ne dX12_isFrom_26 (by decide),
  fun d L st h => fk_w_iconst dX12_isFrom_29 (by decide),
  fun d L st h => fk_r_goto dX12_isFrom_30 (by decide),
  fun d L st h => fk_w_iconst dX12_isFrom_33 (by decide),
  fun d L h => fk_r_ret dX12_isFrom_34 (Or.inr (Or.inl ⟨rfl, by decide⟩)),
  fun d L h => fk_r_ret dX12_isFrom_34 (Or.inr (Or.inl ⟨rfl, by decide⟩)),
  fun d L p _ h => fk_r_ret dX12_isFrom_34 (Or.inr (Or.inl ⟨rfl, fk_b_01⟩)),
  fun d L x h hx => fk_r_ret dX12_isFrom_34 (Or.inr (Or.inl ⟨rfl, hx⟩))⟩
theorem hX12_isFrom_2 : ∀ (d : Nat) (a0 a1 a2 : Value) (x : Int32) (st : List Value) (h : fk_H), fk_ev d qX12_isFrom 2 [a0, a1, a2, .int x] st h = fk_ev d qX12_isFrom 3 [a0, a1, a2, .int x] (.int x :: st) h := fun d a0 a1 a2 x st h => fk_w_iloadn 3 [a0, a1, a2, .int x] dX12_isFrom_2 rfl
theorem dX12_kin_0 : decode cX12_kin 0 = .ok (.aload_n 0, 1) := by decide +kernel
theorem dX12_kin_1 : decode cX12_kin 1 = .ok (.iload_n 1, 1) := by decide +kernel
theorem dX12_kin_2 : decode cX12_kin 2 = .ok (.invokevirtual 123, 3) := by decide +kernel
theorem dX12_kin_5 : decode cX12_kin 5 = .ok (.ifCond .eq 25, 3) := by decide +kernel
theorem dX12_kin_8 : decode cX12_kin 8 = .ok (.iload_n 3, 1) := by decide +kernel
theorem dX12_kin_9 : decode cX12_kin 9 = .ok (.iconst 0, 1) := by decide +kernel
theorem dX12_kin_10 : decode cX12_kin 10 = .ok (.iconst 2, 1) := by decide +kernel
theorem dX12_kin_11 : decode cX12_kin 11 = .ok (.invokestatic 112, 3) := by decide +kernel
theorem dX12_kin_14 : decode cX12_kin 14 = .ok (.ifCond .eq 16, 3) := by decide +kernel
theorem dX12_kin_17 : decode cX12_kin 17 = .ok (.iload_n 3, 1) := by decide +kernel
theorem dX12_kin_18 : decode cX12_kin 18 = .ok (.iconst 2, 1) := by decide +kernel
theorem dX12_kin_19 : decode cX12_kin 19 = .ok (.if_icmp .ne 13, 3) := by decide +kernel
theorem dX12_kin_22 : decode cX12_kin 22 = .ok (.aload_n 0, 1) := by decide +kernel
theorem dX12_kin_23 : decode cX12_kin 23 = .ok (.iload_n 2, 1) := by decide +kernel
theorem dX12_kin_24 : decode cX12_kin 24 = .ok (.invokevirtual 123, 3) := by decide +kernel
theorem dX12_kin_27 : decode cX12_kin 27 = .ok (.ifCond .ne 5, 3) := by decide +kernel
theorem dX12_kin_30 : decode cX12_kin 30 = .ok (.iconst (-1), 1) := by decide +kernel
theorem dX12_kin_31 : decode cX12_kin 31 = .ok (.ireturn, 1) := by decide +kernel
theorem dX12_kin_32 : decode cX12_kin 32 = .ok (.iconst 0, 1) := by decide +kernel
theorem dX12_kin_33 : decode cX12_kin 33 = .ok (.istore 4, 2) := by decide +kernel
theorem dX12_kin_35 : decode cX12_kin 35 = .ok (.iload_n 1, 1) := by decide +kernel
theorem dX12_kin_36 : decode cX12_kin 36 = .ok (.istore 5, 2) := by decide +kernel
theorem dX12_kin_38 : decode cX12_kin 38 = .ok (.iload_n 1, 1) := by decide +kernel
theorem dX12_kin_39 : decode cX12_kin 39 = .ok (.istore 6, 2) := by decide +kernel
theorem dX12_kin_41 : decode cX12_kin 41 = .ok (.iload 6, 2) := by decide +kernel
theorem dX12_kin_43 : decode cX12_kin 43 = .ok (.ifCond .lt 46, 3) := by decide +kernel
theorem dX12_kin_46 : decode cX12_kin 46 = .ok (.iload_n 3, 1) := by decide +kernel
theorem dX12_kin_47 : decode cX12_kin 47 = .ok (.iconst 2, 1) := by decide +kernel
theorem dX12_kin_48 : decode cX12_kin 48 = .ok (.if_icmp .ne 16, 3) := by decide +kernel
theorem dX12_kin_51 : decode cX12_kin 51 = .ok (.aload_n 0, 1) := by decide +kernel
theorem dX12_kin_52 : decode cX12_kin 52 = .ok (.iload_n 2, 1) := by decide +kernel
theorem dX12_kin_53 : decode cX12_kin 53 = .ok (.iload 6, 2) := by decide +kernel
theorem dX12_kin_55 : decode cX12_kin 55 = .ok (.invokevirtual 415, 3) := by decide +kernel
theorem dX12_kin_58 : decode cX12_kin 58 = .ok (.ifCond .eq 6, 3) := by decide +kernel
theorem dX12_kin_61 : decode cX12_kin 61 = .ok (.iload 6, 2) := by decide +kernel
theorem dX12_kin_63 : decode cX12_kin 63 = .ok (.ireturn, 1) := by decide +kernel
theorem dX12_kin_64 : decode cX12_kin 64 = .ok (.iload 6, 2) := by decide +kernel
theorem dX12_kin_66 : decode cX12_kin 66 = .ok (.istore 5, 2) := by decide +kernel
theorem dX12_kin_68 : decode cX12_kin 68 = .ok (.iload 4, 2) := by decide +kernel
theorem dX12_kin_70 : decode cX12_kin 70 = .ok (.iconst 1, 1) := by decide +kernel
theorem dX12_kin_71 : decode cX12_kin 71 = .ok (.iadd, 1) := by decide +kernel
theorem dX12_kin_72 : decode cX12_kin 72 = .ok (.istore 4, 2) := by decide +kernel
theorem dX12_kin_74 : decode cX12_kin 74 = .ok (.aload_n 0, 1) := by decide +kernel
theorem dX12_kin_75 : decode cX12_kin 75 = .ok (.getfield 7, 3) := by decide +kernel
theorem dX12_kin_78 : decode cX12_kin 78 = .ok (.bipush 64, 2) := by decide +kernel
theorem dX12_kin_80 : decode cX12_kin 80 = .ok (.iload 6, 2) := by decide +kernel
theorem dX12_kin_82 : decode cX12_kin 82 = .ok (.iadd, 1) := by decide +kernel
theorem dX12_kin_83 : decode cX12_kin 83 = .ok (.iaload, 1) := by decide +kernel
theorem dX12_kin_84 : decode cX12_kin 84 = .ok (.istore 6, 2) := by decide +kernel
theorem dX12_kin_86 : decode cX12_kin 86 = .ok (.goto (-45), 3) := by decide +kernel
theorem dX12_kin_89 : decode cX12_kin 89 = .ok (.iload_n 3, 1) := by decide +kernel
theorem dX12_kin_90 : decode cX12_kin 90 = .ok (.ifCond .ne 8, 3) := by decide +kernel
theorem dX12_kin_93 : decode cX12_kin 93 = .ok (.iload 4, 2) := by decide +kernel
theorem dX12_kin_95 : decode cX12_kin 95 = .ok (.goto 15, 3) := by decide +kernel
theorem dX12_kin_98 : decode cX12_kin 98 = .ok (.iload_n 3, 1) := by decide +kernel
theorem dX12_kin_99 : decode cX12_kin 99 = .ok (.iconst 1, 1) := by decide +kernel
theorem dX12_kin_100 : decode cX12_kin 100 = .ok (.if_icmp .ne 8, 3) := by decide +kernel
theorem dX12_kin_103 : decode cX12_kin 103 = .ok (.iload 5, 2) := by decide +kernel
theorem dX12_kin_105 : decode cX12_kin 105 = .ok (.goto 5, 3) := by decide +kernel
theorem dX12_kin_108 : decode cX12_kin 108 = .ok (.bipush (-2), 2) := by decide +kernel
theorem dX12_kin_110 : decode cX12_kin 110 = .ok (.ireturn, 1) := by decide +kernel
theorem rX12_kin : (∀ (d : Nat) (a1 a2 a3 a4 a5 a6 : Value) (x : Nat) (st : List Value) (h : fk_H), fk_ev d qX12_kin 0 [.ref x, a1, a2, a3, a4, a5, a6] st h = fk_ev d qX12_kin 1 [.ref x, a1, a2, a3, a4, a5, a6] (.ref x :: st) h) ∧
  (∀ (d : Nat) (a0 a2 a3 a4 a5 a6 : Value) (x : Int32) (st : List Value) (h : fk_H), fk_ev d qX12_kin 1 [a0, .int x, a2, a3, a4, a5, a6] st h = fk_ev d qX12_kin 2 [a0, .int x, a2, a3, a4, a5, a6] (.int x :: st) h) ∧
  (∀ (d : Nat) (L : List Value) (x0 : Int32)  (N : Nat) (y : Nat → Nat → Int32) (l : Nat → Nat → Int64), fk_ev (d + 1) qX12_kin 2 L (.int x0 :: .ref 246 :: []) (fk_E N y l) = (fk_ev d qX12_isHalf 0 [.ref 246, .int x0] [] (fk_E N y l)).bind fun o => fk_ev (d + 1) qX12_kin 5 L (o.1.toList ++ []) o.2) ∧
  (∀ (d : Nat) (L : List Value) (x : Int32) (st : List Value) (h : fk_H), fk_ev d qX12_kin 5 L (.int x :: st) h = if x = nI 0 then fk_ev d qX12_kin 30 L st h else fk_ev d qX12_kin 8 L st h) ∧
  (∀ (d : Nat) (a0 a1 a2 a4 a5 a6 : Value) (x : Int32) (st : List Value) (h : fk_H), fk_ev d qX12_kin 8 [a0, a1, a2, .int x, a4, a5, a6] st h = fk_ev d qX12_kin 9 [a0, a1, a2, .int x, a4, a5, a6] (.int x :: st) h) ∧
  (∀ (d : Nat) (L st : List Value) (h : fk_H), fk_ev d qX12_kin 9 L st h = fk_ev d qX12_kin 10 L (.int (nI 0) :: st) h) ∧
  (∀ (d : Nat) (L st : List Value) (h : fk_H), fk_ev d qX12_kin 10 L st h = fk_ev d qX12_kin 11 L (.int (nI 2) :: st) h) ∧
  (∀ (d : Nat) (L : List Value) (x0 : Int32) (x1 : Int32) (x2 : Int32)  (h : fk_H), fk_ev (d + 1) qX12_kin 11 L (.int x2 :: .int x1 :: .int x0 :: []) h = (fk_ev d qX12_in 0 [.int x0, .int x1, .int x2] [] h).bind fun o => fk_ev (d + 1) qX12_kin 14 L (o.1.toList ++ []) o.2) ∧
  (∀ (d : Nat) (L : List Value) (x : Int32) (st : List Value) (h : fk_H), fk_ev d qX12_kin 14 L (.int x :: st) h = if x = nI 0 then fk_ev d qX12_kin 30 L st h else fk_ev d qX12_kin 17 L st h) ∧
  (∀ (d : Nat) (a0 a1 a2 a4 a5 a6 : Value) (x : Int32) (st : List Value) (h : fk_H), fk_ev d qX12_kin 17 [a0, a1, a2, .int x, a4, a5, a6] st h = fk_ev d qX12_kin 18 [a0, a1, a2, .int x, a4, a5, a6] (.int x :: st) h) ∧
  (∀ (d : Nat) (L st : List Value) (h : fk_H), fk_ev d qX12_kin 18 L st h = fk_ev d qX12_kin 19 L (.int (nI 2) :: st) h) ∧
  (∀ (d : Nat) (L : List Value) (x y : Int32) (st : List Value) (h : fk_H), fk_ev d qX12_kin 19 L (.int y :: .int x :: st) h = if ¬ x = y then fk_ev d qX12_kin 32 L st h else fk_ev d qX12_kin 22 L st h) ∧
  (∀ (d : Nat) (a1 a2 a3 a4 a5 a6 : Value) (x : Nat) (st : List Value) (h : fk_H), fk_ev d qX12_kin 22 [.ref x, a1, a2, a3, a4, a5, a6] st h = fk_ev d qX12_kin 23 [.ref x, a1, a2, a3, a4, a5, a6] (.ref x :: st) h) ∧
  (∀ (d : Nat) (a0 a1 a3 a4 a5 a6 : Value) (x : Int32) (st : List Value) (h : fk_H), fk_ev d qX12_kin 23 [a0, a1, .int x, a3, a4, a5, a6] st h = fk_ev d qX12_kin 24 [a0, a1, .int x, a3, a4, a5, a6] (.int x :: st) h) ∧
  (∀ (d : Nat) (L : List Value) (x0 : Int32)  (N : Nat) (y : Nat → Nat → Int32) (l : Nat → Nat → Int64), fk_ev (d + 1) qX12_kin 24 L (.int x0 :: .ref 246 :: []) (fk_E N y l) = (fk_ev d qX12_isHalf 0 [.ref 246, .int x0] [] (fk_E N y l)).bind fun o => fk_ev (d + 1) qX12_kin 27 L (o.1.toList ++ []) o.2) ∧
  (∀ (d : Nat) (L : List Value) (x : Int32) (st : List Value) (h : fk_H), fk_ev d qX12_kin 27 L (.int x :: st) h = if ¬ x = nI 0 then fk_ev d qX12_kin 32 L st h else fk_ev d qX12_kin 30 L st h) ∧
  (∀ (d : Nat) (L st : List Value) (h : fk_H), fk_ev d qX12_kin 30 L st h = fk_ev d qX12_kin 31 L (.int ((-1 : Int32)) :: st) h) ∧
  (∀ (d : Nat) (L : List Value) (x : Int32) (h : fk_H), fk_ev d qX12_kin 31 L [.int x] h = some (some (.int x), h)) ∧
  (∀ (d : Nat) (L st : List Value) (h : fk_H), fk_ev d qX12_kin 32 L st h = fk_ev d qX12_kin 33 L (.int (nI 0) :: st) h) ∧
  (∀ (d : Nat) (a0 a1 a2 a3 a4 a5 a6 : Value) (x : Int32) (st : List Value) (h : fk_H), fk_ev d qX12_kin 33 [a0, a1, a2, a3, a4, a5, a6] (.int x :: st) h = fk_ev d qX12_kin 35 [a0, a1, a2, a3, .int x, a5, a6] st h) ∧
  (∀ (d : Nat) (a0 a2 a3 a4 a5 a6 : Value) (x : Int32) (st : List Value) (h : fk_H), fk_ev d qX12_kin 35 [a0, .int x, a2, a3, a4, a5, a6] st h = fk_ev d qX12_kin 36 [a0, .int x, a2, a3, a4, a5, a6] (.int x :: st) h) ∧
  (∀ (d : Nat) (a0 a1 a2 a3 a4 a5 a6 : Value) (x : Int32) (st : List Value) (h : fk_H), fk_ev d qX12_kin 36 [a0, a1, a2, a3, a4, a5, a6] (.int x :: st) h = fk_ev d qX12_kin 38 [a0, a1, a2, a3, a4, .int x, a6] st h) ∧
  (∀ (d : Nat) (a0 a2 a3 a4 a5 a6 : Value) (x : Int32) (st : List Value) (h : fk_H), fk_ev d qX12_kin 38 [a0, .int x, a2, a3, a4, a5, a6] st h = fk_ev d qX12_kin 39 [a0, .int x, a2, a3, a4, a5, a6] (.int x :: st) h) ∧
  (∀ (d : Nat) (a0 a1 a2 a3 a4 a5 a6 : Value) (x : Int32) (st : List Value) (h : fk_H), fk_ev d qX12_kin 39 [a0, a1, a2, a3, a4, a5, a6] (.int x :: st) h = fk_ev d qX12_kin 41 [a0, a1, a2, a3, a4, a5, .int x] st h) ∧
  (∀ (d : Nat) (L : List Value) (x : Int32) (st : List Value) (h : fk_H), fk_ev d qX12_kin 43 L (.int x :: st) h = if x < nI 0 then fk_ev d qX12_kin 89 L st h else fk_ev d qX12_kin 46 L st h) ∧
  (∀ (d : Nat) (a0 a1 a2 a4 a5 a6 : Value) (x : Int32) (st : List Value) (h : fk_H), fk_ev d qX12_kin 46 [a0, a1, a2, .int x, a4, a5, a6] st h = fk_ev d qX12_kin 47 [a0, a1, a2, .int x, a4, a5, a6] (.int x :: st) h) ∧
  (∀ (d : Nat) (L st : List Value) (h : fk_H), fk_ev d qX12_kin 47 L st h = fk_ev d qX12_kin 48 L (.int (nI 2) :: st) h) ∧
  (∀ (d : Nat) (L : List Value) (x y : Int32) (st : List Value) (h : fk_H), fk_ev d qX12_kin 48 L (.int y :: .int x :: st) h = if ¬ x = y then fk_ev d qX12_kin 64 L st h else fk_ev d qX12_kin 51 L st h) ∧
  (∀ (d : Nat) (a1 a2 a3 a4 a5 a6 : Value) (x : Nat) (st : List Value) (h : fk_H), fk_ev d qX12_kin 51 [.ref x, a1, a2, a3, a4, a5, a6] st h = fk_ev d qX12_kin 52 [.ref x, a1, a2, a3, a4, a5, a6] (.ref x :: st) h) ∧
  (∀ (d : Nat) (a0 a1 a3 a4 a5 a6 : Value) (x : Int32) (st : List Value) (h : fk_H), fk_ev d qX12_kin 52 [a0, a1, .int x, a3, a4, a5, a6] st h = fk_ev d qX12_kin 53 [a0, a1, .int x, a3, a4, a5, a6] (.int x :: st) h) ∧
  (∀ (d : Nat) (a0 a1 a2 a3 a4 a5 : Value) (x : Int32) (st : List Value) (h : fk_H), fk_ev d qX12_kin 53 [a0, a1, a2, a3, a4, a5, .int x] st h = fk_ev d qX12_kin 55 [a0, a1, a2, a3, a4, a5, .int x] (.int x :: st) h) ∧
  (∀ (d : Nat) (L : List Value) (x0 : Int32) (x1 : Int32)  (N : Nat) (y : Nat → Nat → Int32) (l : Nat → Nat → Int64), fk_ev (d + 1) qX12_kin 55 L (.int x1 :: .int x0 :: .ref 246 :: []) (fk_E N y l) = (fk_ev d qX12_isFrom 0 [.ref 246, .int x0, .int x1, .null] [] (fk_E N y l)).bind fun o => fk_ev (d + 1) qX12_kin 58 L (o.1.toList ++ []) o.2) ∧
  (∀ (d : Nat) (L : List Value) (x : Int32) (st : List Value) (h : fk_H), fk_ev d qX12_kin 58 L (.int x :: st) h = if x = nI 0 then fk_ev d qX12_kin 64 L st h else fk_ev d qX12_kin 61 L st h) ∧
  (∀ (d : Nat) (a0 a1 a2 a3 a4 a5 : Value) (x : Int32) (st : List Value) (h : fk_H), fk_ev d qX12_kin 61 [a0, a1, a2, a3, a4, a5, .int x] st h = fk_ev d qX12_kin 63 [a0, a1, a2, a3, a4, a5, .int x] (.int x :: st) h) ∧
  (∀ (d : Nat) (L : List Value) (x : Int32) (h : fk_H), fk_ev d qX12_kin 63 L [.int x] h = some (some (.int x), h)) ∧
  (∀ (d : Nat) (a0 a1 a2 a3 a4 a5 : Value) (x : Int32) (st : List Value) (h : fk_H), fk_ev d qX12_kin 64 [a0, a1, a2, a3, a4, a5, .int x] st h = fk_ev d qX12_kin 66 [a0, a1, a2, a3, a4, a5, .int x] (.int x :: st) h) ∧
  (∀ (d : Nat) (a0 a1 a2 a3 a4 a5 a6 : Value) (x : Int32) (st : List Value) (h : fk_H), fk_ev d qX12_kin 66 [a0, a1, a2, a3, a4, a5, a6] (.int x :: st) h = fk_ev d qX12_kin 68 [a0, a1, a2, a3, a4, .int x, a6] st h) ∧
  (∀ (d : Nat) (a0 a1 a2 a3 a5 a6 : Value) (x : Int32) (st : List Value) (h : fk_H), fk_ev d qX12_kin 68 [a0, a1, a2, a3, .int x, a5, a6] st h = fk_ev d qX12_kin 70 [a0, a1, a2, a3, .int x, a5, a6] (.int x :: st) h) ∧
  (∀ (d : Nat) (L st : List Value) (h : fk_H), fk_ev d qX12_kin 70 L st h = fk_ev d qX12_kin 71 L (.int (nI 1) :: st) h) ∧
  (∀ (d : Nat) (L : List Value) (x y : Int32) (st : List Value) (h : fk_H), fk_ev d qX12_kin 71 L (.int y :: .int x :: st) h = fk_ev d qX12_kin 72 L (.int (x + y) :: st) h) ∧
  (∀ (d : Nat) (a0 a1 a2 a3 a4 a5 a6 : Value) (x : Int32) (st : List Value) (h : fk_H), fk_ev d qX12_kin 72 [a0, a1, a2, a3, a4, a5, a6] (.int x :: st) h = fk_ev d qX12_kin 74 [a0, a1, a2, a3, .int x, a5, a6] st h) ∧
  (∀ (d : Nat) (a1 a2 a3 a4 a5 a6 : Value) (x : Nat) (st : List Value) (h : fk_H), fk_ev d qX12_kin 74 [.ref x, a1, a2, a3, a4, a5, a6] st h = fk_ev d qX12_kin 75 [.ref x, a1, a2, a3, a4, a5, a6] (.ref x :: st) h) ∧
  (∀ (d : Nat) (L st : List Value) (N : Nat) (y : Nat → Nat → Int32) (l : Nat → Nat → Int64), fk_ev d qX12_kin 75 L (.ref 246 :: st) (fk_E N y l) = fk_ev d qX12_kin 78 L (.ref 247 :: st) (fk_E N y l)) ∧
  (∀ (d : Nat) (L st : List Value) (h : fk_H), fk_ev d qX12_kin 78 L st h = fk_ev d qX12_kin 80 L (.int (nI 64) :: st) h) ∧
  (∀ (d : Nat) (a0 a1 a2 a3 a4 a5 : Value) (x : Int32) (st : List Value) (h : fk_H), fk_ev d qX12_kin 80 [a0, a1, a2, a3, a4, a5, .int x] st h = fk_ev d qX12_kin 82 [a0, a1, a2, a3, a4, a5, .int x] (.int x :: st) h) ∧
  (∀ (d : Nat) (L : List Value) (x y : Int32) (st : List Value) (h : fk_H), fk_ev d qX12_kin 82 L (.int y :: .int x :: st) h = fk_ev d qX12_kin 83 L (.int (x + y) :: st) h) ∧
  (∀ (d : Nat) (L st : List Value) (N : Nat) (y : Nat → Nat → Int32) (l : Nat → Nat → Int64) (i : Nat), i < 3912 → fk_ev d qX12_kin 83 L (.int (nI i) :: .ref 247 :: st) (fk_E N y l) = fk_ev d qX12_kin 84 L (.int (y 247 i) :: st) (fk_E N y l)) ∧
  (∀ (d : Nat) (a0 a1 a2 a3 a4 a5 a6 : Value) (x : Int32) (st : List Value) (h : fk_H), fk_ev d qX12_kin 84 [a0, a1, a2, a3, a4, a5, a6] (.int x :: st) h = fk_ev d qX12_kin 86 [a0, a1, a2, a3, a4, a5, .int x] st h) ∧
  (∀ (d : Nat) (L st : List Value) (h : fk_H), fk_ev d qX12_kin 86 L st h = fk_ev d qX12_kin 41 L st h) ∧
  (∀ (d : Nat) (a0 a1 a2 a4 a5 a6 : Value) (x : Int32) (st : List Value) (h : fk_H), fk_ev d qX12_kin 89 [a0, a1, a2, .int x, a4, a5, a6] st h = fk_ev d qX12_kin 90 [a0, a1, a2, .int x, a4, a5, a6] (.int x :: st) h) ∧
  (∀ (d : Nat) (L : List Value) (x : Int32) (st : List Value) (h : fk_H), fk_ev d qX12_kin 90 L (.int x :: st) h = if ¬ x = nI 0 then fk_ev d qX12_kin 98 L st h else fk_ev d qX12_kin 93 L st h) ∧
  (∀ (d : Nat) (a0 a1 a2 a3 a5 a6 : Value) (x : Int32) (st : List Value) (h : fk_H), fk_ev d qX12_kin 93 [a0, a1, a2, a3, .int x, a5, a6] st h = fk_ev d qX12_kin 95 [a0, a1, a2, a3, .int x, a5, a6] (.int x :: st) h) ∧
  (∀ (d : Nat) (L st : List Value) (h : fk_H), fk_ev d qX12_kin 95 L st h = fk_ev d qX12_kin 110 L st h) ∧
  (∀ (d : Nat) (a0 a1 a2 a4 a5 a6 : Value) (x : Int32) (st : List Value) (h : fk_H), fk_ev d qX12_kin 98 [a0, a1, a2, .int x, a4, a5, a6] st h = fk_ev d qX12_kin 99 [a0, a1, a2, .int x, a4, a5, a6] (.int x :: st) h) ∧
  (∀ (d : Nat) (L st : List Value) (h : fk_H), fk_ev d qX12_kin 99 L st h = fk_ev d qX12_kin 100 L (.int (nI 1) :: st) h) ∧
  (∀ (d : Nat) (L : List Value) (x y : Int32) (st : List Value) (h : fk_H), fk_ev d qX12_kin 100 L (.int y :: .int x :: st) h = if ¬ x = y then fk_ev d qX12_kin 108 L st h else fk_ev d qX12_kin 103 L st h) ∧
  (∀ (d : Nat) (a0 a1 a2 a3 a4 a6 : Value) (x : Int32) (st : List Value) (h : fk_H), fk_ev d qX12_kin 103 [a0, a1, a2, a3, a4, .int x, a6] st h = fk_ev d qX12_kin 105 [a0, a1, a2, a3, a4, .int x, a6] (.int x :: st) h) ∧
  (∀ (d : Nat) (L st : List Value) (h : fk_H), fk_ev d qX12_kin 105 L st h = fk_ev d qX12_kin 110 L st h) ∧
  (∀ (d : Nat) (L st : List Value) (h : fk_H), fk_ev d qX12_kin 108 L st h = fk_ev d qX12_kin 110 L (.int ((-2 : Int32)) :: st) h) ∧
  (∀ (d : Nat) (L : List Value) (x : Int32) (h : fk_H), fk_ev d qX12_kin 110 L [.int x] h = some (some (.int x), h)) := ⟨fun d a1 a2 a3 a4 a5 a6 x st h => fk_w_aloadn 0 [.ref x, a1, a2, a3, a4, a5, a6] dX12_kin_0 rfl,
  fun d a0 a2 a3 a4 a5 a6 x st h => fk_w_iloadn 1 [a0, .int x, a2, a3, a4, a5, a6] dX12_kin_1 rfl,
  fun d L x0 N y l  => fk_g_call [.int x0] [] rfl lm_12_123 dX12_kin_2 rfl ⟨rfl, by decide⟩ (by simp) fk_at_246,
  fun d L x st h => fk_r_if_eq dX12_kin_5 (by decide),
  fun d a0 a1 a2 a4 a5 a6 x st h => fk_w_iloadn 3 [a0, a1, a2, .int x, a4, a5, a6] dX12_kin_8 rfl,
  fun d L st h => fk_w_iconst dX12_kin_9 (by decide),
  fun d L st h => fk_w_iconst dX12_kin_10 (by decide),
  fun d L x0 x1 x2 h => fk_g_calls [.int x0, .int x1, .int x2] [] rfl lm_12_112 dX12_kin_11 rfl ⟨rfl, by decide⟩ (by simp),
  fun d L x st h => fk_r_if_eq dX12_kin_14 (by decide),
  fun d a0 a1 a2 a4 a5 a6 x st h => fk_w_iloadn 3 [a0, a1, a2, .int x, a4, a5, a6] dX12_kin_17 rfl,
  fun d L st h => fk_w_iconst dX12_kin_18 (by decide),
  fun d L x y st h => fk_r_icmp_ne dX12_kin_19 (by decide),
  fun d a1 a2 a3 a4 a5 a6 x st h => fk_w_aloadn 0 [.ref x, a1, a2, a3, a4, a5, a6] dX12_kin_22 rfl,
  fun d a0 a1 a3 a4 a5 a6 x st h => fk_w_iloadn 2 [a0, a1, .int x, a3, a4, a5, a6] dX12_kin_23 rfl,
  fun d L x0 N y l  => fk_g_call [.int x0] [] rfl lm_12_123 dX12_kin_24 rfl ⟨rfl, by decide⟩ (by simp) fk_at_246,
  fun d L x st h => fk_r_if_ne dX12_kin_27 (by decide),
  fun d L st h => fk_w_iconst dX12_kin_30 (by decide),
  fun d L x h => fk_r_ret dX12_kin_31 (Or.inl rfl),
  fun d L st h => fk_w_iconst dX12_kin_32 (by decide),
  fun d a0 a1 a2 a3 a4 a5 a6 x st h => fk_w_istore 4 7 [] [a0, a1, a2, a3, a4, a5, a6] [a0, a1, a2, a3, .int x, a5, a6] dX12_kin_33 rfl rfl (by decide) rfl,
  fun d a0 a2 a3 a4 a5 a6 x st h => fk_w_iloadn 1 [a0, .int x, a2, a3, a4, a5, a6] dX12_kin_35 rfl,
  fun d a0 a1 a2 a3 a4 a5 a6 x st h => fk_w_istore 5 7 [] [a0, a1, a2, a3, a4, a5, a6] [a0, a1, a2, a3, a4, .int x, a6] dX12_kin_36 rfl rfl (by decide) rfl,
  fun d a0 a2 a3 a4 a5 a6 x st h => fk_w_iloadn 1 [a0, .int x, a2, a3, a4, a5, a6] dX12_kin_38 rfl,
  fun d a0 a1 a2 a3 a4 a5 a6 x st h => fk_w_istore 6 7 [] [a0, a1, a2, a3, a4, a5, a6] [a0, a1, a2, a3, a4, a5, .int x] dX12_kin_39 rfl rfl (by decide) rfl,
  fun d L x st h => fk_r_if_lt dX12_kin_43 (by decide),
  fun d a0 a1 a2 a4 a5 a6 x st h => fk_w_iloadn 3 [a0, a1, a2, .int x, a4, a5, a6] dX12_kin_46 rfl,
  fun d L st h => fk_w_iconst dX12_kin_47 (by decide),
  fun d L x y st h => fk_r_icmp_ne dX12_kin_48 (by decide),
  fun d a1 a2 a3 a4 a5 a6 x st h => fk_w_aloadn 0 [.ref x, a1, a2, a3, a4, a5, a6] dX12_kin_51 rfl,
  fun d a0 a1 a3 a4 a5 a6 x st h => fk_w_iloadn 2 [a0, a1, .int x, a3, a4, a5, a6] dX12_kin_52 rfl,
  fun d a0 a1 a2 a3 a4 a5 x st h => fk_w_iload 6 [a0, a1, a2, a3, a4, a5, .int x] dX12_kin_53 rfl,
  fun d L x0 x1 N y l  => fk_g_call [.int x0, .int x1] [] rfl lm_12_415 dX12_kin_55 rfl ⟨rfl, by decide⟩ (by simp) fk_at_246,
  fun d L x st h => fk_r_if_eq dX12_kin_58 (by decide),
  fun d a0 a1 a2 a3 a4 a5 x st h => fk_w_iload 6 [a0, a1, a2, a3, a4, a5, .int x] dX12_kin_61 rfl,
  fun d L x h => fk_r_ret dX12_kin_63 (Or.inl rfl),
  fun d a0 a1 a2 a3 a4 a5 x st h => fk_w_iload 6 [a0, a1, a2, a3, a4, a5, .int x] dX12_kin_64 rfl,
  fun d a0 a1 a2 a3 a4 a5 a6 x st h => fk_w_istore 5 7 [] [a0, a1, a2, a3, a4, a5, a6] [a0, a1, a2, a3, a4, .int x, a6] dX12_kin_66 rfl rfl (by decide) rfl,
  fun d a0 a1 a2 a3 a5 a6 x st h => fk_w_iload 4 [a0, a1, a2, a3, .int x, a5, a6] dX12_kin_68 rfl,
  fun d L st h => fk_w_iconst dX12_kin_70 (by decide),
  fun d L x y st h => fk_r_iadd dX12_kin_71,
  fun d a0 a1 a2 a3 a4 a5 a6 x st h => fk_w_istore 4 7 [] [a0, a1, a2, a3, a4, a5, a6] [a0, a1, a2, a3, .int x, a5, a6] dX12_kin_72 rfl rfl (by decide) rfl,
  fun d a1 a2 a3 a4 a5 a6 x st h => fk_w_aloadn 0 [.ref x, a1, a2, a3, a4, a5, a6] dX12_kin_74 rfl,
  fun d L st N y l => fk_g_getC rfl lf_12_7 (by decide) rfl dX12_kin_75 fk_at_246,
  fun d L st h => fk_w_bipush dX12_kin_78 (by decide),
  fun d a0 a1 a2 a3 a4 a5 x st h => fk_w_iload 6 [a0, a1, a2, a3, a4, a5, .int x] dX12_kin_80 rfl,
  fun d L x y st h => fk_r_iadd dX12_kin_82,
  fun d L st N y l i hi => fk_g_iald fk_at_247 fk_ln_247 (by decide) dX12_kin_83 hi,
  fun d a0 a1 a2 a3 a4 a5 a6 x st h => fk_w_istore 6 7 [] [a0, a1, a2, a3, a4, a5, a6] [a0, a1, a2, a3, a4, a5, .int x] dX12_kin_84 rfl rfl (by decide) rfl,
  fun d L st h => fk_r_goto dX12_kin_86 (by decide),
  fun d a0 a1 a2 a4 a5 a6 x st h => fk_w_iloadn 3 [a0, a1, a2, .int x, a4, a5, a6] dX12_kin_89 rfl,
  fun d L x st h => fk_r_if_ne dX12_kin_90 (by decide),
  fun d a0 a1 a2 a3 a5 a6 x st h => fk_w_iload 4 [a0, a1, a2, a3, .int x, a5, a6] dX12_kin_93 rfl,
  fun d L st h => fk_r_goto dX12_kin_95 (by decide),
  fun d a0 a1 a2 a4 a5 a6 x st h => fk_w_iloadn 3 [a0, a1, a2, .int x, a4, a5, a6] dX12_kin_98 rfl,
  fun d L st h => fk_w_iconst dX12_kin_99 (by decide),
  fun d L x y st h => fk_r_icmp_ne dX12_kin_100 (by decide),
  fun d a0 a1 a2 a3 a4 a6 x st h => fk_w_iload 5 [a0, a1, a2, a3, a4, .int x, a6] dX12_kin_103 rfl,
  fun d L st h => fk_r_goto dX12_kin_105 (by decide),
  fun d L st h => fk_w_bipush dX12_kin_108 (by decide),
  fun d L x h => fk_r_ret dX12_kin_110 (Or.inl rfl)⟩
theorem hX12_kin_41 : ∀ (d : Nat) (a0 a1 a2 a3 a4 a5 : Value) (x : Int32) (st : List Value) (h : fk_H), fk_ev d qX12_kin 41 [a0, a1, a2, a3, a4, a5, .int x] st h = fk_ev d qX12_kin 43 [a0, a1, a2, a3, a4, a5, .int x] (.int x :: st) h := fun d a0 a1 a2 a3 a4 a5 x st h => fk_w_iload 6 [a0, a1, a2, a3, a4, a5, .int x] dX12_kin_41 rfl
theorem dX12_bread_0 : decode cX12_bread 0 = .ok (.aload_n 0, 1) := by decide +kernel
theorem dX12_bread_1 : decode cX12_bread 1 = .ok (.iload_n 1, 1) := by decide +kernel
theorem dX12_bread_2 : decode cX12_bread 2 = .ok (.invokevirtual 129, 3) := by decide +kernel
theorem dX12_bread_5 : decode cX12_bread 5 = .ok (.ifCond .eq 14, 3) := by decide +kernel
theorem dX12_bread_8 : decode cX12_bread 8 = .ok (.iload_n 2, 1) := by decide +kernel
theorem dX12_bread_9 : decode cX12_bread 9 = .ok (.iconst 1, 1) := by decide +kernel
theorem dX12_bread_10 : decode cX12_bread 10 = .ok (.sipush 999, 3) := by decide +kernel
theorem dX12_bread_13 : decode cX12_bread 13 = .ok (.invokestatic 112, 3) := by decide +kernel
theorem dX12_bread_16 : decode cX12_bread 16 = .ok (.ifCond .ne 5, 3) := by decide +kernel
theorem dX12_bread_19 : decode cX12_bread 19 = .ok (.iconst (-1), 1) := by decide +kernel
theorem dX12_bread_20 : decode cX12_bread 20 = .ok (.ireturn, 1) := by decide +kernel
theorem dX12_bread_21 : decode cX12_bread 21 = .ok (.aload_n 0, 1) := by decide +kernel
theorem dX12_bread_22 : decode cX12_bread 22 = .ok (.getfield 7, 3) := by decide +kernel
theorem dX12_bread_25 : decode cX12_bread 25 = .ok (.iconst 0, 1) := by decide +kernel
theorem dX12_bread_26 : decode cX12_bread 26 = .ok (.iload_n 1, 1) := by decide +kernel
theorem dX12_bread_27 : decode cX12_bread 27 = .ok (.iadd, 1) := by decide +kernel
theorem dX12_bread_28 : decode cX12_bread 28 = .ok (.iaload, 1) := by decide +kernel
theorem dX12_bread_29 : decode cX12_bread 29 = .ok (.istore_n 3, 1) := by decide +kernel
theorem dX12_bread_30 : decode cX12_bread 30 = .ok (.aload_n 0, 1) := by decide +kernel
theorem dX12_bread_31 : decode cX12_bread 31 = .ok (.sipush 256, 3) := by decide +kernel
theorem dX12_bread_34 : decode cX12_bread 34 = .ok (.iload_n 3, 1) := by decide +kernel
theorem dX12_bread_35 : decode cX12_bread 35 = .ok (.invokevirtual 328, 3) := by decide +kernel
theorem dX12_bread_38 : decode cX12_bread 38 = .ok (.istore 4, 2) := by decide +kernel
theorem dX12_bread_40 : decode cX12_bread 40 = .ok (.iload_n 2, 1) := by decide +kernel
theorem dX12_bread_41 : decode cX12_bread 41 = .ok (.aload_n 0, 1) := by decide +kernel
theorem dX12_bread_42 : decode cX12_bread 42 = .ok (.getfield 7, 3) := by decide +kernel
theorem dX12_bread_45 : decode cX12_bread 45 = .ok (.sipush 256, 3) := by decide +kernel
theorem dX12_bread_48 : decode cX12_bread 48 = .ok (.iload_n 1, 1) := by decide +kernel
theorem dX12_bread_49 : decode cX12_bread 49 = .ok (.iadd, 1) := by decide +kernel
theorem dX12_bread_50 : decode cX12_bread 50 = .ok (.iaload, 1) := by decide +kernel
theorem dX12_bread_51 : decode cX12_bread 51 = .ok (.imul, 1) := by decide +kernel
theorem dX12_bread_52 : decode cX12_bread 52 = .ok (.iload 4, 2) := by decide +kernel
theorem dX12_bread_54 : decode cX12_bread 54 = .ok (.irem, 1) := by decide +kernel
theorem dX12_bread_55 : decode cX12_bread 55 = .ok (.istore 5, 2) := by decide +kernel
theorem dX12_bread_57 : decode cX12_bread 57 = .ok (.iload_n 2, 1) := by decide +kernel
theorem dX12_bread_58 : decode cX12_bread 58 = .ok (.istore 6, 2) := by decide +kernel
theorem dX12_bread_60 : decode cX12_bread 60 = .ok (.iconst 0, 1) := by decide +kernel
theorem dX12_bread_61 : decode cX12_bread 61 = .ok (.istore 7, 2) := by decide +kernel
theorem dX12_bread_63 : decode cX12_bread 63 = .ok (.iconst 0, 1) := by decide +kernel
theorem dX12_bread_64 : decode cX12_bread 64 = .ok (.istore 8, 2) := by decide +kernel
theorem dX12_bread_66 : decode cX12_bread 66 = .ok (.iload 8, 2) := by decide +kernel
theorem dX12_bread_68 : decode cX12_bread 68 = .ok (.aload_n 0, 1) := by decide +kernel
theorem dX12_bread_69 : decode cX12_bread 69 = .ok (.getfield 7, 3) := by decide +kernel
theorem dX12_bread_72 : decode cX12_bread 72 = .ok (.sipush 833, 3) := by decide +kernel
theorem dX12_bread_75 : decode cX12_bread 75 = .ok (.iaload, 1) := by decide +kernel
theorem dX12_bread_76 : decode cX12_bread 76 = .ok (.if_icmp .ge 99, 3) := by decide +kernel
theorem dX12_bread_79 : decode cX12_bread 79 = .ok (.aload_n 0, 1) := by decide +kernel
theorem dX12_bread_80 : decode cX12_bread 80 = .ok (.iload 8, 2) := by decide +kernel
theorem dX12_bread_82 : decode cX12_bread 82 = .ok (.invokevirtual 126, 3) := by decide +kernel
theorem dX12_bread_85 : decode cX12_bread 85 = .ok (.ifCond .eq 84, 3) := by decide +kernel
theorem dX12_bread_88 : decode cX12_bread 88 = .ok (.aload_n 0, 1) := by decide +kernel
theorem dX12_bread_89 : decode cX12_bread 89 = .ok (.getfield 7, 3) := by decide +kernel
theorem dX12_bread_92 : decode cX12_bread 92 = .ok (.iconst 0, 1) := by decide +kernel
theorem dX12_bread_93 : decode cX12_bread 93 = .ok (.iload 8, 2) := by decide +kernel
theorem dX12_bread_95 : decode cX12_bread 95 = .ok (.iadd, 1) := by decide +kernel
theorem dX12_bread_96 : decode cX12_bread 96 = .ok (.iaload, 1) := by decide +kernel
theorem dX12_bread_97 : decode cX12_bread 97 = .ok (.iload_n 3, 1) := by decide +kernel
theorem dX12_bread_98 : decode cX12_bread 98 = .ok (.if_icmp .eq 6, 3) := by decide +kernel
theorem dX12_bread_101 : decode cX12_bread 101 = .ok (.goto 68, 3) := by decide +kernel
theorem dX12_bread_104 : decode cX12_bread 104 = .ok (.iload 6, 2) := by decide +kernel
theorem dX12_bread_106 : decode cX12_bread 106 = .ok (.iload_n 2, 1) := by decide +kernel
theorem dX12_bread_107 : decode cX12_bread 107 = .ok (.aload_n 0, 1) := by decide +kernel
theorem dX12_bread_108 : decode cX12_bread 108 = .ok (.getfield 7, 3) := by decide +kernel
theorem dX12_bread_111 : decode cX12_bread 111 = .ok (.sipush 256, 3) := by decide +kernel
theorem dX12_bread_114 : decode cX12_bread 114 = .ok (.iload 8, 2) := by decide +kernel
theorem dX12_bread_116 : decode cX12_bread 116 = .ok (.iadd, 1) := by decide +kernel
theorem dX12_bread_117 : decode cX12_bread 117 = .ok (.iaload, 1) := by decide +kernel
theorem dX12_bread_118 : decode cX12_bread 118 = .ok (.imul, 1) := by decide +kernel
theorem dX12_bread_119 : decode cX12_bread 119 = .ok (.iload 4, 2) := by decide +kernel
theorem dX12_bread_121 : decode cX12_bread 121 = .ok (.idiv, 1) := by decide +kernel
theorem dX12_bread_122 : decode cX12_bread 122 = .ok (.isub, 1) := by decide +kernel
theorem dX12_bread_123 : decode cX12_bread 123 = .ok (.istore 6, 2) := by decide +kernel
theorem dX12_bread_125 : decode cX12_bread 125 = .ok (.iload_n 2, 1) := by decide +kernel
theorem dX12_bread_126 : decode cX12_bread 126 = .ok (.aload_n 0, 1) := by decide +kernel
theorem dX12_bread_127 : decode cX12_bread 127 = .ok (.getfield 7, 3) := by decide +kernel
theorem dX12_bread_130 : decode cX12_bread 130 = .ok (.sipush 256, 3) := by decide +kernel
theorem dX12_bread_133 : decode cX12_bread 133 = .ok (.iload 8, 2) := by decide +kernel
theorem dX12_bread_135 : decode cX12_bread 135 = .ok (.iadd, 1) := by decide +kernel
theorem dX12_bread_136 : decode cX12_bread 136 = .ok (.iaload, 1) := by decide +kernel
theorem dX12_bread_137 : decode cX12_bread 137 = .ok (.imul, 1) := by decide +kernel
theorem dX12_bread_138 : decode cX12_bread 138 = .ok (.iload 4, 2) := by decide +kernel
theorem dX12_bread_140 : decode cX12_bread 140 = .ok (.irem, 1) := by decide +kernel
theorem dX12_bread_141 : decode cX12_bread 141 = .ok (.istore 9, 2) := by decide +kernel
theorem dX12_bread_143 : decode cX12_bread 143 = .ok (.iload 9, 2) := by decide +kernel
theorem dX12_bread_145 : decode cX12_bread 145 = .ok (.iload 5, 2) := by decide +kernel
theorem dX12_bread_147 : decode cX12_bread 147 = .ok (.if_icmp .gt 16, 3) := by decide +kernel
theorem dX12_bread_150 : decode cX12_bread 150 = .ok (.iload 9, 2) := by decide +kernel
theorem dX12_bread_152 : decode cX12_bread 152 = .ok (.iload 5, 2) := by decide +kernel
theorem dX12_bread_154 : decode cX12_bread 154 = .ok (.if_icmp .ne 15, 3) := by decide +kernel
theorem dX12_bread_157 : decode cX12_bread 157 = .ok (.iload 8, 2) := by decide +kernel
theorem dX12_bread_159 : decode cX12_bread 159 = .ok (.iload_n 1, 1) := by decide +kernel
theorem dX12_bread_160 : decode cX12_bread 160 = .ok (.if_icmp .ge 9, 3) := by decide +kernel
theorem dX12_bread_163 : decode cX12_bread 163 = .ok (.iload 7, 2) := by decide +kernel
theorem dX12_bread_165 : decode cX12_bread 165 = .ok (.iconst 1, 1) := by decide +kernel
theorem dX12_bread_166 : decode cX12_bread 166 = .ok (.iadd, 1) := by decide +kernel
theorem dX12_bread_167 : decode cX12_bread 167 = .ok (.istore 7, 2) := by decide +kernel
theorem dX12_bread_169 : decode cX12_bread 169 = .ok (.iinc 8 1, 3) := by decide +kernel
theorem dX12_bread_172 : decode cX12_bread 172 = .ok (.goto (-106), 3) := by decide +kernel
theorem dX12_bread_175 : decode cX12_bread 175 = .ok (.iload_n 2, 1) := by decide +kernel
theorem dX12_bread_176 : decode cX12_bread 176 = .ok (.aload_n 0, 1) := by decide +kernel
theorem dX12_bread_177 : decode cX12_bread 177 = .ok (.getfield 7, 3) := by decide +kernel
theorem dX12_bread_180 : decode cX12_bread 180 = .ok (.sipush 256, 3) := by decide +kernel
theorem dX12_bread_183 : decode cX12_bread 183 = .ok (.iload_n 1, 1) := by decide +kernel
theorem dX12_bread_184 : decode cX12_bread 184 = .ok (.iadd, 1) := by decide +kernel
theorem dX12_bread_185 : decode cX12_bread 185 = .ok (.iaload, 1) := by decide +kernel
theorem dX12_bread_186 : decode cX12_bread 186 = .ok (.imul, 1) := by decide +kernel
theorem dX12_bread_187 : decode cX12_bread 187 = .ok (.iload 4, 2) := by decide +kernel
theorem dX12_bread_189 : decode cX12_bread 189 = .ok (.idiv, 1) := by decide +kernel
theorem dX12_bread_190 : decode cX12_bread 190 = .ok (.iload 7, 2) := by decide +kernel
theorem dX12_bread_192 : decode cX12_bread 192 = .ok (.iload 6, 2) := by decide +kernel
theorem dX12_bread_194 : decode cX12_bread 194 = .ok (.if_icmp .ge 7, 3) := by decide +kernel
theorem dX12_bread_197 : decode cX12_bread 197 = .ok (.iconst 1, 1) := by decide +kernel
theorem dX12_bread_198 : decode cX12_bread 198 = .ok (.goto 4, 3) := by decide +kernel
theorem dX12_bread_201 : decode cX12_bread 201 = .ok (.iconst 0, 1) := by decide +kernel
theorem dX12_bread_202 : decode cX12_bread 202 = .ok (.iadd, 1) := by decide +kernel
theorem dX12_bread_203 : decode cX12_bread 203 = .ok (.ireturn, 1) := by decide +kernel
theorem rX12_bread : (∀ (d : Nat) (a1 a2 a3 a4 a5 a6 a7 a8 a9 : Value) (x : Nat) (st : List Value) (h : fk_H), fk_ev d qX12_bread 0 [.ref x, a1, a2, a3, a4, a5, a6, a7, a8, a9] st h = fk_ev d qX12_bread 1 [.ref x, a1, a2, a3, a4, a5, a6, a7, a8, a9] (.ref x :: st) h) ∧
  (∀ (d : Nat) (a0 a2 a3 a4 a5 a6 a7 a8 a9 : Value) (x : Int32) (st : List Value) (h : fk_H), fk_ev d qX12_bread 1 [a0, .int x, a2, a3, a4, a5, a6, a7, a8, a9] st h = fk_ev d qX12_bread 2 [a0, .int x, a2, a3, a4, a5, a6, a7, a8, a9] (.int x :: st) h) ∧
  (∀ (d : Nat) (L : List Value) (x0 : Int32)  (N : Nat) (y : Nat → Nat → Int32) (l : Nat → Nat → Int64), fk_ev (d + 1) qX12_bread 2 L (.int x0 :: .ref 246 :: []) (fk_E N y l) = (fk_ev d qX12_isLiving 0 [.ref 246, .int x0] [] (fk_E N y l)).bind fun o => fk_ev (d + 1) qX12_bread 5 L (o.1.toList ++ []) o.2) ∧
  (∀ (d : Nat) (L : List Value) (x : Int32) (st : List Value) (h : fk_H), fk_ev d qX12_bread 5 L (.int x :: st) h = if x = nI 0 then fk_ev d qX12_bread 19 L st h else fk_ev d qX12_bread 8 L st h) ∧
  (∀ (d : Nat) (a0 a1 a3 a4 a5 a6 a7 a8 a9 : Value) (x : Int32) (st : List Value) (h : fk_H), fk_ev d qX12_bread 8 [a0, a1, .int x, a3, a4, a5, a6, a7, a8, a9] st h = fk_ev d qX12_bread 9 [a0, a1, .int x, a3, a4, a5, a6, a7, a8, a9] (.int x :: st) h) ∧
  (∀ (d : Nat) (L st : List Value) (h : fk_H), fk_ev d qX12_bread 9 L st h = fk_ev d qX12_bread 10 L (.int (nI 1) :: st) h) ∧
  (∀ (d : Nat) (L st : List Value) (h : fk_H), fk_ev d qX12_bread 10 L st h = fk_ev d qX12_bread 13 L (.int (nI 999) :: st) h) ∧
  (∀ (d : Nat) (L : List Value) (x0 : Int32) (x1 : Int32) (x2 : Int32)  (h : fk_H), fk_ev (d + 1) qX12_bread 13 L (.int x2 :: .int x1 :: .int x0 :: []) h = (fk_ev d qX12_in 0 [.int x0, .int x1, .int x2] [] h).bind fun o => fk_ev (d + 1) qX12_bread 16 L (o.1.toList ++ []) o.2) ∧
  (∀ (d : Nat) (L : List Value) (x : Int32) (st : List Value) (h : fk_H), fk_ev d qX12_bread 16 L (.int x :: st) h = if ¬ x = nI 0 then fk_ev d qX12_bread 21 L st h else fk_ev d qX12_bread 19 L st h) ∧
  (∀ (d : Nat) (L st : List Value) (h : fk_H), fk_ev d qX12_bread 19 L st h = fk_ev d qX12_bread 20 L (.int ((-1 : Int32)) :: st) h) ∧
  (∀ (d : Nat) (L : List Value) (x : Int32) (h : fk_H), fk_ev d qX12_bread 20 L [.int x] h = some (some (.int x), h)) ∧
  (∀ (d : Nat) (a1 a2 a3 a4 a5 a6 a7 a8 a9 : Value) (x : Nat) (st : List Value) (h : fk_H), fk_ev d qX12_bread 21 [.ref x, a1, a2, a3, a4, a5, a6, a7, a8, a9] st h = fk_ev d qX12_bread 22 [.ref x, a1, a2, a3, a4, a5, a6, a7, a8, a9] (.ref x :: st) h) ∧
  (∀ (d : Nat) (L st : List Value) (N : Nat) (y : Nat → Nat → Int32) (l : Nat → Nat → Int64), fk_ev d qX12_bread 22 L (.ref 246 :: st) (fk_E N y l) = fk_ev d qX12_bread 25 L (.ref 247 :: st) (fk_E N y l)) ∧
  (∀ (d : Nat) (L st : List Value) (h : fk_H), fk_ev d qX12_bread 25 L st h = fk_ev d qX12_bread 26 L (.int (nI 0) :: st) h) ∧
  (∀ (d : Nat) (a0 a2 a3 a4 a5 a6 a7 a8 a9 : Value) (x : Int32) (st : List Value) (h : fk_H), fk_ev d qX12_bread 26 [a0, .int x, a2, a3, a4, a5, a6, a7, a8, a9] st h = fk_ev d qX12_bread 27 [a0, .int x, a2, a3, a4, a5, a6, a7, a8, a9] (.int x :: st) h) ∧
  (∀ (d : Nat) (L : List Value) (x y : Int32) (st : List Value) (h : fk_H), fk_ev d qX12_bread 27 L (.int y :: .int x :: st) h = fk_ev d qX12_bread 28 L (.int (x + y) :: st) h) ∧
  (∀ (d : Nat) (L st : List Value) (N : Nat) (y : Nat → Nat → Int32) (l : Nat → Nat → Int64) (i : Nat), i < 3912 → fk_ev d qX12_bread 28 L (.int (nI i) :: .ref 247 :: st) (fk_E N y l) = fk_ev d qX12_bread 29 L (.int (y 247 i) :: st) (fk_E N y l)) ∧
  (∀ (d : Nat) (a0 a1 a2 a3 a4 a5 a6 a7 a8 a9 : Value) (x : Int32) (st : List Value) (h : fk_H), fk_ev d qX12_bread 29 [a0, a1, a2, a3, a4, a5, a6, a7, a8, a9] (.int x :: st) h = fk_ev d qX12_bread 30 [a0, a1, a2, .int x, a4, a5, a6, a7, a8, a9] st h) ∧
  (∀ (d : Nat) (a1 a2 a3 a4 a5 a6 a7 a8 a9 : Value) (x : Nat) (st : List Value) (h : fk_H), fk_ev d qX12_bread 30 [.ref x, a1, a2, a3, a4, a5, a6, a7, a8, a9] st h = fk_ev d qX12_bread 31 [.ref x, a1, a2, a3, a4, a5, a6, a7, a8, a9] (.ref x :: st) h) ∧
  (∀ (d : Nat) (L st : List Value) (h : fk_H), fk_ev d qX12_bread 31 L st h = fk_ev d qX12_bread 34 L (.int (nI 256) :: st) h) ∧
  (∀ (d : Nat) (a0 a1 a2 a4 a5 a6 a7 a8 a9 : Value) (x : Int32) (st : List Value) (h : fk_H), fk_ev d qX12_bread 34 [a0, a1, a2, .int x, a4, a5, a6, a7, a8, a9] st h = fk_ev d qX12_bread 35 [a0, a1, a2, .int x, a4, a5, a6, a7, a8, a9] (.int x :: st) h) ∧
  (∀ (d : Nat) (L : List Value) (x0 : Int32) (x1 : Int32)  (N : Nat) (y : Nat → Nat → Int32) (l : Nat → Nat → Int64), fk_ev (d + 1) qX12_bread 35 L (.int x1 :: .int x0 :: .ref 246 :: []) (fk_E N y l) = (fk_ev d qX12_sumFor 0 [.ref 246, .int x0, .int x1, .null, .null] [] (fk_E N y l)).bind fun o => fk_ev (d + 1) qX12_bread 38 L (o.1.toList ++ []) o.2) ∧
  (∀ (d : Nat) (a0 a1 a2 a3 a4 a5 a6 a7 a8 a9 : Value) (x : Int32) (st : List Value) (h : fk_H), fk_ev d qX12_bread 38 [a0, a1, a2, a3, a4, a5, a6, a7, a8, a9] (.int x :: st) h = fk_ev d qX12_bread 40 [a0, a1, a2, a3, .int x, a5, a6, a7, a8, a9] st h) ∧
  (∀ (d : Nat) (a0 a1 a3 a4 a5 a6 a7 a8 a9 : Value) (x : Int32) (st : List Value) (h : fk_H), fk_ev d qX12_bread 40 [a0, a1, .int x, a3, a4, a5, a6, a7, a8, a9] st h = fk_ev d qX12_bread 41 [a0, a1, .int x, a3, a4, a5, a6, a7, a8, a9] (.int x :: st) h) ∧
  (∀ (d : Nat) (a1 a2 a3 a4 a5 a6 a7 a8 a9 : Value) (x : Nat) (st : List Value) (h : fk_H), fk_ev d qX12_bread 41 [.ref x, a1, a2, a3, a4, a5, a6, a7, a8, a9] st h = fk_ev d qX12_bread 42 [.ref x, a1, a2, a3, a4, a5, a6, a7, a8, a9] (.ref x :: st) h) ∧
  (∀ (d : Nat) (L st : List Value) (N : Nat) (y : Nat → Nat → Int32) (l : Nat → Nat → Int64), fk_ev d qX12_bread 42 L (.ref 246 :: st) (fk_E N y l) = fk_ev d qX12_bread 45 L (.ref 247 :: st) (fk_E N y l)) ∧
  (∀ (d : Nat) (L st : List Value) (h : fk_H), fk_ev d qX12_bread 45 L st h = fk_ev d qX12_bread 48 L (.int (nI 256) :: st) h) ∧
  (∀ (d : Nat) (a0 a2 a3 a4 a5 a6 a7 a8 a9 : Value) (x : Int32) (st : List Value) (h : fk_H), fk_ev d qX12_bread 48 [a0, .int x, a2, a3, a4, a5, a6, a7, a8, a9] st h = fk_ev d qX12_bread 49 [a0, .int x, a2, a3, a4, a5, a6, a7, a8, a9] (.int x :: st) h) ∧
  (∀ (d : Nat) (L : List Value) (x y : Int32) (st : List Value) (h : fk_H), fk_ev d qX12_bread 49 L (.int y :: .int x :: st) h = fk_ev d qX12_bread 50 L (.int (x + y) :: st) h) ∧
  (∀ (d : Nat) (L st : List Value) (N : Nat) (y : Nat → Nat → Int32) (l : Nat → Nat → Int64) (i : Nat), i < 3912 → fk_ev d qX12_bread 50 L (.int (nI i) :: .ref 247 :: st) (fk_E N y l) = fk_ev d qX12_bread 51 L (.int (y 247 i) :: st) (fk_E N y l)) ∧
  (∀ (d : Nat) (L : List Value) (x y : Int32) (st : List Value) (h : fk_H), fk_ev d qX12_bread 51 L (.int y :: .int x :: st) h = fk_ev d qX12_bread 52 L (.int (x * y) :: st) h) ∧
  (∀ (d : Nat) (a0 a1 a2 a3 a5 a6 a7 a8 a9 : Value) (x : Int32) (st : List Value) (h : fk_H), fk_ev d qX12_bread 52 [a0, a1, a2, a3, .int x, a5, a6, a7, a8, a9] st h = fk_ev d qX12_bread 54 [a0, a1, a2, a3, .int x, a5, a6, a7, a8, a9] (.int x :: st) h) ∧
  (∀ (d : Nat) (L : List Value) (x y : Int32) (st : List Value) (h : fk_H), fk_ev d qX12_bread 54 L (.int y :: .int x :: st) h = if y = 0 then none else fk_ev d qX12_bread 55 L (.int (x - x / y * y) :: st) h) ∧
  (∀ (d : Nat) (a0 a1 a2 a3 a4 a5 a6 a7 a8 a9 : Value) (x : Int32) (st : List Value) (h : fk_H), fk_ev d qX12_bread 55 [a0, a1, a2, a3, a4, a5, a6, a7, a8, a9] (.int x :: st) h = fk_ev d qX12_bread 57 [a0, a1, a2, a3, a4, .int x, a6, a7, a8, a9] st h) ∧
  (∀ (d : Nat) (a0 a1 a3 a4 a5 a6 a7 a8 a9 : Value) (x : Int32) (st : List Value) (h : fk_H), fk_ev d qX12_bread 57 [a0, a1, .int x, a3, a4, a5, a6, a7, a8, a9] st h = fk_ev d qX12_bread 58 [a0, a1, .int x, a3, a4, a5, a6, a7, a8, a9] (.int x :: st) h) ∧
  (∀ (d : Nat) (a0 a1 a2 a3 a4 a5 a6 a7 a8 a9 : Value) (x : Int32) (st : List Value) (h : fk_H), fk_ev d qX12_bread 58 [a0, a1, a2, a3, a4, a5, a6, a7, a8, a9] (.int x :: st) h = fk_ev d qX12_bread 60 [a0, a1, a2, a3, a4, a5, .int x, a7, a8, a9] st h) ∧
  (∀ (d : Nat) (L st : List Value) (h : fk_H), fk_ev d qX12_bread 60 L st h = fk_ev d qX12_bread 61 L (.int (nI 0) :: st) h) ∧
  (∀ (d : Nat) (a0 a1 a2 a3 a4 a5 a6 a7 a8 a9 : Value) (x : Int32) (st : List Value) (h : fk_H), fk_ev d qX12_bread 61 [a0, a1, a2, a3, a4, a5, a6, a7, a8, a9] (.int x :: st) h = fk_ev d qX12_bread 63 [a0, a1, a2, a3, a4, a5, a6, .int x, a8, a9] st h) ∧
  (∀ (d : Nat) (L st : List Value) (h : fk_H), fk_ev d qX12_bread 63 L st h = fk_ev d qX12_bread 64 L (.int (nI 0) :: st) h) ∧
  (∀ (d : Nat) (a0 a1 a2 a3 a4 a5 a6 a7 a8 a9 : Value) (x : Int32) (st : List Value) (h : fk_H), fk_ev d qX12_bread 64 [a0, a1, a2, a3, a4, a5, a6, a7, a8, a9] (.int x :: st) h = fk_ev d qX12_bread 66 [a0, a1, a2, a3, a4, a5, a6, a7, .int x, a9] st h) ∧
  (∀ (d : Nat) (a1 a2 a3 a4 a5 a6 a7 a8 a9 : Value) (x : Nat) (st : List Value) (h : fk_H), fk_ev d qX12_bread 68 [.ref x, a1, a2, a3, a4, a5, a6, a7, a8, a9] st h = fk_ev d qX12_bread 69 [.ref x, a1, a2, a3, a4, a5, a6, a7, a8, a9] (.ref x :: st) h) ∧
  (∀ (d : Nat) (L st : List Value) (N : Nat) (y : Nat → Nat → Int32) (l : Nat → Nat → Int64), fk_ev d qX12_bread 69 L (.ref 246 :: st) (fk_E N y l) = fk_ev d qX12_bread 72 L (.ref 247 :: st) (fk_E N y l)) ∧
  (∀ (d : Nat) (L st : List Value) (h : fk_H), fk_ev d qX12_bread 72 L st h = fk_ev d qX12_bread 75 L (.int (nI 833) :: st) h) ∧
  (∀ (d : Nat) (L st : List Value) (N : Nat) (y : Nat → Nat → Int32) (l : Nat → Nat → Int64) (i : Nat), i < 3912 → fk_ev d qX12_bread 75 L (.int (nI i) :: .ref 247 :: st) (fk_E N y l) = fk_ev d qX12_bread 76 L (.int (y 247 i) :: st) (fk_E N y l)) ∧
  (∀ (d : Nat) (L : List Value) (x y : Int32) (st : List Value) (h : fk_H), fk_ev d qX12_bread 76 L (.int y :: .int x :: st) h = if y ≤ x then fk_ev d qX12_bread 175 L st h else fk_ev d qX12_bread 79 L st h) ∧
  (∀ (d : Nat) (a1 a2 a3 a4 a5 a6 a7 a8 a9 : Value) (x : Nat) (st : List Value) (h : fk_H), fk_ev d qX12_bread 79 [.ref x, a1, a2, a3, a4, a5, a6, a7, a8, a9] st h = fk_ev d qX12_bread 80 [.ref x, a1, a2, a3, a4, a5, a6, a7, a8, a9] (.ref x :: st) h) ∧
  (∀ (d : Nat) (a0 a1 a2 a3 a4 a5 a6 a7 a9 : Value) (x : Int32) (st : List Value) (h : fk_H), fk_ev d qX12_bread 80 [a0, a1, a2, a3, a4, a5, a6, a7, .int x, a9] st h = fk_ev d qX12_bread 82 [a0, a1, a2, a3, a4, a5, a6, a7, .int x, a9] (.int x :: st) h) ∧
  (∀ (d : Nat) (L : List Value) (x0 : Int32)  (N : Nat) (y : Nat → Nat → Int32) (l : Nat → Nat → Int64), fk_ev (d + 1) qX12_bread 82 L (.int x0 :: .ref 246 :: []) (fk_E N y l) = (fk_ev d qX12_lives 0 [.ref 246, .int x0] [] (fk_E N y l)).bind fun o => fk_ev (d + 1) qX12_bread 85 L (o.1.toList ++ []) o.2) ∧
  (∀ (d : Nat) (L : List Value) (x : Int32) (st : List Value) (h : fk_H), fk_ev d qX12_bread 85 L (.int x :: st) h = if x = nI 0 then fk_ev d qX12_bread 169 L st h else fk_ev d qX12_bread 88 L st h) ∧
  (∀ (d : Nat) (a1 a2 a3 a4 a5 a6 a7 a8 a9 : Value) (x : Nat) (st : List Value) (h : fk_H), fk_ev d qX12_bread 88 [.ref x, a1, a2, a3, a4, a5, a6, a7, a8, a9] st h = fk_ev d qX12_bread 89 [.ref x, a1, a2, a3, a4, a5, a6, a7, a8, a9] (.ref x :: st) h) ∧
  (∀ (d : Nat) (L st : List Value) (N : Nat) (y : Nat → Nat → Int32) (l : Nat → Nat → Int64), fk_ev d qX12_bread 89 L (.ref 246 :: st) (fk_E N y l) = fk_ev d qX12_bread 92 L (.ref 247 :: st) (fk_E N y l)) ∧
  (∀ (d : Nat) (L st : List Value) (h : fk_H), fk_ev d qX12_bread 92 L st h = fk_ev d qX12_bread 93 L (.int (nI 0) :: st) h) ∧
  (∀ (d : Nat) (a0 a1 a2 a3 a4 a5 a6 a7 a9 : Value) (x : Int32) (st : List Value) (h : fk_H), fk_ev d qX12_bread 93 [a0, a1, a2, a3, a4, a5, a6, a7, .int x, a9] st h = fk_ev d qX12_bread 95 [a0, a1, a2, a3, a4, a5, a6, a7, .int x, a9] (.int x :: st) h) ∧
  (∀ (d : Nat) (L : List Value) (x y : Int32) (st : List Value) (h : fk_H), fk_ev d qX12_bread 95 L (.int y :: .int x :: st) h = fk_ev d qX12_bread 96 L (.int (x + y) :: st) h) ∧
  (∀ (d : Nat) (L st : List Value) (N : Nat) (y : Nat → Nat → Int32) (l : Nat → Nat → Int64) (i : Nat), i < 3912 → fk_ev d qX12_bread 96 L (.int (nI i) :: .ref 247 :: st) (fk_E N y l) = fk_ev d qX12_bread 97 L (.int (y 247 i) :: st) (fk_E N y l)) ∧
  (∀ (d : Nat) (a0 a1 a2 a4 a5 a6 a7 a8 a9 : Value) (x : Int32) (st : List Value) (h : fk_H), fk_ev d qX12_bread 97 [a0, a1, a2, .int x, a4, a5, a6, a7, a8, a9] st h = fk_ev d qX12_bread 98 [a0, a1, a2, .int x, a4, a5, a6, a7, a8, a9] (.int x :: st) h) ∧
  (∀ (d : Nat) (L : List Value) (x y : Int32) (st : List Value) (h : fk_H), fk_ev d qX12_bread 98 L (.int y :: .int x :: st) h = if x = y then fk_ev d qX12_bread 104 L st h else fk_ev d qX12_bread 101 L st h) ∧
  (∀ (d : Nat) (L st : List Value) (h : fk_H), fk_ev d qX12_bread 101 L st h = fk_ev d qX12_bread 169 L st h) ∧
  (∀ (d : Nat) (a0 a1 a2 a3 a4 a5 a7 a8 a9 : Value) (x : Int32) (st : List Value) (h : fk_H), fk_ev d qX12_bread 104 [a0, a1, a2, a3, a4, a5, .int x, a7, a8, a9] st h = fk_ev d qX12_bread 106 [a0, a1, a2, a3, a4, a5, .int x, a7, a8, a9] (.int x :: st) h) ∧
  (∀ (d : Nat) (a0 a1 a3 a4 a5 a6 a7 a8 a9 : Value) (x : Int32) (st : List Value) (h : fk_H), fk_ev d qX12_bread 106 [a0, a1, .int x, a3, a4, a5, a6, a7, a8, a9] st h = fk_ev d qX12_bread 107 [a0, a1, .int x, a3, a4, a5, a6, a7, a8, a9] (.int x :: st) h) ∧
  (∀ (d : Nat) (a1 a2 a3 a4 a5 a6 a7 a8 a9 : Value) (x : Nat) (st : List Value) (h : fk_H), fk_ev d qX12_bread 107 [.ref x, a1, a2, a3, a4, a5, a6, a7, a8, a9] st h = fk_ev d qX12_bread 108 [.ref x, a1, a2, a3, a4, a5, a6, a7, a8, a9] (.ref x :: st) h) ∧
  (∀ (d : Nat) (L st : List Value) (N : Nat) (y : Nat → Nat → Int32) (l : Nat → Nat → Int64), fk_ev d qX12_bread 108 L (.ref 246 :: st) (fk_E N y l) = fk_ev d qX12_bread 111 L (.ref 247 :: st) (fk_E N y l)) ∧
  (∀ (d : Nat) (L st : List Value) (h : fk_H), fk_ev d qX12_bread 111 L st h = fk_ev d qX12_bread 114 L (.int (nI 256) :: st) h) ∧
  (∀ (d : Nat) (a0 a1 a2 a3 a4 a5 a6 a7 a9 : Value) (x : Int32) (st : List Value) (h : fk_H), fk_ev d qX12_bread 114 [a0, a1, a2, a3, a4, a5, a6, a7, .int x, a9] st h = fk_ev d qX12_bread 116 [a0, a1, a2, a3, a4, a5, a6, a7, .int x, a9] (.int x :: st) h) ∧
  (∀ (d : Nat) (L : List Value) (x y : Int32) (st : List Value) (h : fk_H), fk_ev d qX12_bread 116 L (.int y :: .int x :: st) h = fk_ev d qX12_bread 117 L (.int (x + y) :: st) h) ∧
  (∀ (d : Nat) (L st : List Value) (N : Nat) (y : Nat → Nat → Int32) (l : Nat → Nat → Int64) (i : Nat), i < 3912 → fk_ev d qX12_bread 117 L (.int (nI i) :: .ref 247 :: st) (fk_E N y l) = fk_ev d qX12_bread 118 L (.int (y 247 i) :: st) (fk_E N y l)) ∧
  (∀ (d : Nat) (L : List Value) (x y : Int32) (st : List Value) (h : fk_H), fk_ev d qX12_bread 118 L (.int y :: .int x :: st) h = fk_ev d qX12_bread 119 L (.int (x * y) :: st) h) ∧
  (∀ (d : Nat) (a0 a1 a2 a3 a5 a6 a7 a8 a9 : Value) (x : Int32) (st : List Value) (h : fk_H), fk_ev d qX12_bread 119 [a0, a1, a2, a3, .int x, a5, a6, a7, a8, a9] st h = fk_ev d qX12_bread 121 [a0, a1, a2, a3, .int x, a5, a6, a7, a8, a9] (.int x :: st) h) ∧
  (∀ (d : Nat) (L : List Value) (x y : Int32) (st : List Value) (h : fk_H), fk_ev d qX12_bread 121 L (.int y :: .int x :: st) h = if y = 0 then none else fk_ev d qX12_bread 122 L (.int (x / y) :: st) h) ∧
  (∀ (d : Nat) (L : List Value) (x y : Int32) (st : List Value) (h : fk_H), fk_ev d qX12_bread 122 L (.int y :: .int x :: st) h = fk_ev d qX12_bread 123 L (.int (x - y) :: st) h) ∧
  (∀ (d : Nat) (a0 a1 a2 a3 a4 a5 a6 a7 a8 a9 : Value) (x : Int32) (st : List Value) (h : fk_H), fk_ev d qX12_bread 123 [a0, a1, a2, a3, a4, a5, a6, a7, a8, a9] (.int x :: st) h = fk_ev d qX12_bread 125 [a0, a1, a2, a3, a4, a5, .int x, a7, a8, a9] st h) ∧
  (∀ (d : Nat) (a0 a1 a3 a4 a5 a6 a7 a8 a9 : Value) (x : Int32) (st : List Value) (h : fk_H), fk_ev d qX12_bread 125 [a0, a1, .int x, a3, a4, a5, a6, a7, a8, a9] st h = fk_ev d qX12_bread 126 [a0, a1, .int x, a3, a4, a5, a6, a7, a8, a9] (.int x :: st) h) ∧
  (∀ (d : Nat) (a1 a2 a3 a4 a5 a6 a7 a8 a9 : Value) (x : Nat) (st : List Value) (h : fk_H), fk_ev d qX12_bread 126 [.ref x, a1, a2, a3, a4, a5, a6, a7, a8, a9] st h = fk_ev d qX12_bread 127 [.ref x, a1, a2, a3, a4, a5, a6, a7, a8, a9] (.ref x :: st) h) ∧
  (∀ (d : Nat) (L st : List Value) (N : Nat) (y : Nat → Nat → Int32) (l : Nat → Nat → Int64), fk_ev d qX12_bread 127 L (.ref 246 :: st) (fk_E N y l) = fk_ev d qX12_bread 130 L (.ref 247 :: st) (fk_E N y l)) ∧
  (∀ (d : Nat) (L st : List Value) (h : fk_H), fk_ev d qX12_bread 130 L st h = fk_ev d qX12_bread 133 L (.int (nI 256) :: st) h) ∧
  (∀ (d : Nat) (a0 a1 a2 a3 a4 a5 a6 a7 a9 : Value) (x : Int32) (st : List Value) (h : fk_H), fk_ev d qX12_bread 133 [a0, a1, a2, a3, a4, a5, a6, a7, .int x, a9] st h = fk_ev d qX12_bread 135 [a0, a1, a2, a3, a4, a5, a6, a7, .int x, a9] (.int x :: st) h) ∧
  (∀ (d : Nat) (L : List Value) (x y : Int32) (st : List Value) (h : fk_H), fk_ev d qX12_bread 135 L (.int y :: .int x :: st) h = fk_ev d qX12_bread 136 L (.int (x + y) :: st) h) ∧
  (∀ (d : Nat) (L st : List Value) (N : Nat) (y : Nat → Nat → Int32) (l : Nat → Nat → Int64) (i : Nat), i < 3912 → fk_ev d qX12_bread 136 L (.int (nI i) :: .ref 247 :: st) (fk_E N y l) = fk_ev d qX12_bread 137 L (.int (y 247 i) :: st) (fk_E N y l)) ∧
  (∀ (d : Nat) (L : List Value) (x y : Int32) (st : List Value) (h : fk_H), fk_ev d qX12_bread 137 L (.int y :: .int x :: st) h = fk_ev d qX12_bread 138 L (.int (x * y) :: st) h) ∧
  (∀ (d : Nat) (a0 a1 a2 a3 a5 a6 a7 a8 a9 : Value) (x : Int32) (st : List Value) (h : fk_H), fk_ev d qX12_bread 138 [a0, a1, a2, a3, .int x, a5, a6, a7, a8, a9] st h = fk_ev d qX12_bread 140 [a0, a1, a2, a3, .int x, a5, a6, a7, a8, a9] (.int x :: st) h) ∧
  (∀ (d : Nat) (L : List Value) (x y : Int32) (st : List Value) (h : fk_H), fk_ev d qX12_bread 140 L (.int y :: .int x :: st) h = if y = 0 then none else fk_ev d qX12_bread 141 L (.int (x - x / y * y) :: st) h) ∧
  (∀ (d : Nat) (a0 a1 a2 a3 a4 a5 a6 a7 a8 a9 : Value) (x : Int32) (st : List Value) (h : fk_H), fk_ev d qX12_bread 141 [a0, a1, a2, a3, a4, a5, a6, a7, a8, a9] (.int x :: st) h = fk_ev d qX12_bread 143 [a0, a1, a2, a3, a4, a5, a6, a7, a8, .int x] st h) ∧
  (∀ (d : Nat) (a0 a1 a2 a3 a4 a5 a6 a7 a8 : Value) (x : Int32) (st : List Value) (h : fk_H), fk_ev d qX12_bread 143 [a0, a1, a2, a3, a4, a5, a6, a7, a8, .int x] st h = fk_ev d qX12_bread 145 [a0, a1, a2, a3, a4, a5, a6, a7, a8, .int x] (.int x :: st) h) ∧
  (∀ (d : Nat) (a0 a1 a2 a3 a4 a6 a7 a8 a9 : Value) (x : Int32) (st : List Value) (h : fk_H), fk_ev d qX12_bread 145 [a0, a1, a2, a3, a4, .int x, a6, a7, a8, a9] st h = fk_ev d qX12_bread 147 [a0, a1, a2, a3, a4, .int x, a6, a7, a8, a9] (.int x :: st) h) ∧
  (∀ (d : Nat) (L : List Value) (x y : Int32) (st : List Value) (h : fk_H), fk_ev d qX12_bread 147 L (.int y :: .int x :: st) h = if y < x then fk_ev d qX12_bread 163 L st h else fk_ev d qX12_bread 150 L st h) ∧
  (∀ (d : Nat) (a0 a1 a2 a3 a4 a5 a6 a7 a8 : Value) (x : Int32) (st : List Value) (h : fk_H), fk_ev d qX12_bread 150 [a0, a1, a2, a3, a4, a5, a6, a7, a8, .int x] st h = fk_ev d qX12_bread 152 [a0, a1, a2, a3, a4, a5, a6, a7, a8, .int x] (.int x :: st) h) ∧
  (∀ (d : Nat) (a0 a1 a2 a3 a4 a6 a7 a8 a9 : Value) (x : Int32) (st : List Value) (h : fk_H), fk_ev d qX12_bread 152 [a0, a1, a2, a3, a4, .int x, a6, a7, a8, a9] st h = fk_ev d qX12_bread 154 [a0, a1, a2, a3, a4, .int x, a6, a7, a8, a9] (.int x :: st) h) ∧
  (∀ (d : Nat) (L : List Value) (x y : Int32) (st : List Value) (h : fk_H), fk_ev d qX12_bread 154 L (.int y :: .int x :: st) h = if ¬ x = y then fk_ev d qX12_bread 169 L st h else fk_ev d qX12_bread 157 L st h) ∧
  (∀ (d : Nat) (a0 a1 a2 a3 a4 a5 a6 a7 a9 : Value) (x : Int32) (st : List Value) (h : fk_H), fk_ev d qX12_bread 157 [a0, a1, a2, a3, a4, a5, a6, a7, .int x, a9] st h = fk_ev d qX12_bread 159 [a0, a1, a2, a3, a4, a5, a6, a7, .int x, a9] (.int x :: st) h) ∧
  (∀ (d : Nat) (a0 a2 a3 a4 a5 a6 a7 a8 a9 : Value) (x : Int32) (st : List Value) (h : fk_H), fk_ev d qX12_bread 159 [a0, .int x, a2, a3, a4, a5, a6, a7, a8, a9] st h = fk_ev d qX12_bread 160 [a0, .int x, a2, a3, a4, a5, a6, a7, a8, a9] (.int x :: st) h) ∧
  (∀ (d : Nat) (L : List Value) (x y : Int32) (st : List Value) (h : fk_H), fk_ev d qX12_bread 160 L (.int y :: .int x :: st) h = if y ≤ x then fk_ev d qX12_bread 169 L st h else fk_ev d qX12_bread 163 L st h) ∧
  (∀ (d : Nat) (a0 a1 a2 a3 a4 a5 a6 a8 a9 : Value) (x : Int32) (st : List Value) (h : fk_H), fk_ev d qX12_bread 163 [a0, a1, a2, a3, a4, a5, a6, .int x, a8, a9] st h = fk_ev d qX12_bread 165 [a0, a1, a2, a3, a4, a5, a6, .int x, a8, a9] (.int x :: st) h) ∧
  (∀ (d : Nat) (L st : List Value) (h : fk_H), fk_ev d qX12_bread 165 L st h = fk_ev d qX12_bread 166 L (.int (nI 1) :: st) h) ∧
  (∀ (d : Nat) (L : List Value) (x y : Int32) (st : List Value) (h : fk_H), fk_ev d qX12_bread 166 L (.int y :: .int x :: st) h = fk_ev d qX12_bread 167 L (.int (x + y) :: st) h) ∧
  (∀ (d : Nat) (a0 a1 a2 a3 a4 a5 a6 a7 a8 a9 : Value) (x : Int32) (st : List Value) (h : fk_H), fk_ev d qX12_bread 167 [a0, a1, a2, a3, a4, a5, a6, a7, a8, a9] (.int x :: st) h = fk_ev d qX12_bread 169 [a0, a1, a2, a3, a4, a5, a6, .int x, a8, a9] st h) ∧
  (∀ (d : Nat) (a0 a1 a2 a3 a4 a5 a6 a7 a9 : Value) (x : Int32) (st : List Value) (h : fk_H), fk_ev d qX12_bread 169 [a0, a1, a2, a3, a4, a5, a6, a7, .int x, a9] st h = fk_ev d qX12_bread 172 [a0, a1, a2, a3, a4, a5, a6, a7, .int (x + nI 1), a9] st h) ∧
  (∀ (d : Nat) (L st : List Value) (h : fk_H), fk_ev d qX12_bread 172 L st h = fk_ev d qX12_bread 66 L st h) ∧
  (∀ (d : Nat) (a0 a1 a3 a4 a5 a6 a7 a8 a9 : Value) (x : Int32) (st : List Value) (h : fk_H), fk_ev d qX12_bread 175 [a0, a1, .int x, a3, a4, a5, a6, a7, a8, a9] st h = fk_ev d qX12_bread 176 [a0, a1, .int x, a3, a4, a5, a6, a7, a8, a9] (.int x :: st) h) ∧
  (∀ (d : Nat) (a1 a2 a3 a4 a5 a6 a7 a8 a9 : Value) (x : Nat) (st : List Value) (h : fk_H), fk_ev d qX12_bread 176 [.ref x, a1, a2, a3, a4, a5, a6, a7, a8, a9] st h = fk_ev d qX12_bread 177 [.ref x, a1, a2, a3, a4, a5, a6, a7, a8, a9] (.ref x :: st) h) ∧
  (∀ (d : Nat) (L st : List Value) (N : Nat) (y : Nat → Nat → Int32) (l : Nat → Nat → Int64), fk_ev d qX12_bread 177 L (.ref 246 :: st) (fk_E N y l) = fk_ev d qX12_bread 180 L (.ref 247 :: st) (fk_E N y l)) ∧
  (∀ (d : Nat) (L st : List Value) (h : fk_H), fk_ev d qX12_bread 180 L st h = fk_ev d qX12_bread 183 L (.int (nI 256) :: st) h) ∧
  (∀ (d : Nat) (a0 a2 a3 a4 a5 a6 a7 a8 a9 : Value) (x : Int32) (st : List Value) (h : fk_H), fk_ev d qX12_bread 183 [a0, .int x, a2, a3, a4, a5, a6, a7, a8, a9] st h = fk_ev d qX12_bread 184 [a0, .int x, a2, a3, a4, a5, a6, a7, a8, a9] (.int x :: st) h) ∧
  (∀ (d : Nat) (L : List Value) (x y : Int32) (st : List Value) (h : fk_H), fk_ev d qX12_bread 184 L (.int y :: .int x :: st) h = fk_ev d qX12_bread 185 L (.int (x + y) :: st) h) ∧
  (∀ (d : Nat) (L st : List Value) (N : Nat) (y : Nat → Nat → Int32) (l : Nat → Nat → Int64) (i : Nat), i < 3912 → fk_ev d qX12_bread 185 L (.int (nI i) :: .ref 247 :: st) (fk_E N y l) = fk_ev d qX12_bread 186 L (.int (y 247 i) :: st) (fk_E N y l)) ∧
  (∀ (d : Nat) (L : List Value) (x y : Int32) (st : List Value) (h : fk_H), fk_ev d qX12_bread 186 L (.int y :: .int x :: st) h = fk_ev d qX12_bread 187 L (.int (x * y) :: st) h) ∧
  (∀ (d : Nat) (a0 a1 a2 a3 a5 a6 a7 a8 a9 : Value) (x : Int32) (st : List Value) (h : fk_H), fk_ev d qX12_bread 187 [a0, a1, a2, a3, .int x, a5, a6, a7, a8, a9] st h = fk_ev d qX12_bread 189 [a0, a1, a2, a3, .int x, a5, a6, a7, a8, a9] (.int x :: st) h) ∧
  (∀ (d : Nat) (L : List Value) (x y : Int32) (st : List Value) (h : fk_H), fk_ev d qX12_bread 189 L (.int y :: .int x :: st) h = if y = 0 then none else fk_ev d qX12_bread 190 L (.int (x / y) :: st) h) ∧
  (∀ (d : Nat) (a0 a1 a2 a3 a4 a5 a6 a8 a9 : Value) (x : Int32) (st : List Value) (h : fk_H), fk_ev d qX12_bread 190 [a0, a1, a2, a3, a4, a5, a6, .int x, a8, a9] st h = fk_ev d qX12_bread 192 [a0, a1, a2, a3, a4, a5, a6, .int x, a8, a9] (.int x :: st) h) ∧
  (∀ (d : Nat) (a0 a1 a2 a3 a4 a5 a7 a8 a9 : Value) (x : Int32) (st : List Value) (h : fk_H), fk_ev d qX12_bread 192 [a0, a1, a2, a3, a4, a5, .int x, a7, a8, a9] st h = fk_ev d qX12_bread 194 [a0, a1, a2, a3, a4, a5, .int x, a7, a8, a9] (.int x :: st) h) ∧
  (∀ (d : Nat) (L : List Value) (x y : Int32) (st : List Value) (h : fk_H), fk_ev d qX12_bread 194 L (.int y :: .int x :: st) h = if y ≤ x then fk_ev d qX12_bread 201 L st h else fk_ev d qX12_bread 197 L st h) ∧
  (∀ (d : Nat) (L st : List Value) (h : fk_H), fk_ev d qX12_bread 197 L st h = fk_ev d qX12_bread 198 L (.int (nI 1) :: st) h) ∧
  (∀ (d : Nat) (L st : List Value) (h : fk_H), fk_ev d qX12_bread 198 L st h = fk_ev d qX12_bread 202 L st h) ∧
  (∀ (d : Nat) (L st : List Value) (h : fk_H), fk_ev d qX12_bread 201 L st h = fk_ev d qX12_bread 202 L (.int (nI 0) :: st) h) ∧
  (∀ (d : Nat) (L : List Value) (x y : Int32) (st : List Value) (h : fk_H), fk_ev d qX12_bread 202 L (.int y :: .int x :: st) h = fk_ev d qX12_bread 203 L (.int (x + y) :: st) h) ∧
  (∀ (d : Nat) (L : List Value) (x : Int32) (h : fk_H), fk_ev d qX12_bread 203 L [.int x] h = some (some (.int x), h)) := ⟨fun d a1 a2 a3 a4 a5 a6 a7 a8 a9 x st h => fk_w_aloadn 0 [.ref x, a1, a2, a3, a4, a5, a6, a7, a8, a9] dX12_bread_0 rfl,
  fun d a0 a2 a3 a4 a5 a6 a7 a8 a9 x st h => fk_w_iloadn 1 [a0, .int x, a2, a3, a4, a5, a6, a7, a8, a9] dX12_bread_1 rfl,
  fun d L x0 N y l  => fk_g_call [.int x0] [] rfl lm_12_129 dX12_bread_2 rfl ⟨rfl, by decide⟩ (by simp) fk_at_246,
  fun d L x st h => fk_r_if_eq dX12_bread_5 (by decide),
  fun d a0 a1 a3 a4 a5 a6 a7 a8 a9 x st h => fk_w_iloadn 2 [a0, a1, .int x, a3, a4, a5, a6, a7, a8, a9] dX12_bread_8 rfl,
  fun d L st h => fk_w_iconst dX12_bread_9 (by decide),
  fun d L st h => fk_w_sipush dX12_bread_10 (by decide),
  fun d L x0 x1 x2 h => fk_g_calls [.int x0, .int x1, .int x2] [] rfl lm_12_112 dX12_bread_13 rfl ⟨rfl, by decide⟩ (by simp),
  fun d L x st h => fk_r_if_ne dX12_bread_16 (by decide),
  fun d L st h => fk_w_iconst dX12_bread_19 (by decide),
  fun d L x h => fk_r_ret dX12_bread_20 (Or.inl rfl),
  fun d a1 a2 a3 a4 a5 a6 a7 a8 a9 x st h => fk_w_aloadn 0 [.ref x, a1, a2, a3, a4, a5, a6, a7, a8, a9] dX12_bread_21 rfl,
  fun d L st N y l => fk_g_getC rfl lf_12_7 (by decide) rfl dX12_bread_22 fk_at_246,
  fun d L st h => fk_w_iconst dX12_bread_25 (by decide),
  fun d a0 a2 a3 a4 a5 a6 a7 a8 a9 x st h => fk_w_iloadn 1 [a0, .int x, a2, a3, a4, a5, a6, a7, a8, a9] dX12_bread_26 rfl,
  fun d L x y st h => fk_r_iadd dX12_bread_27,
  fun d L st N y l i hi => fk_g_iald fk_at_247 fk_ln_247 (by decide) dX12_bread_28 hi,
  fun d a0 a1 a2 a3 a4 a5 a6 a7 a8 a9 x st h => fk_w_istoren 3 10 [] [a0, a1, a2, a3, a4, a5, a6, a7, a8, a9] [a0, a1, a2, .int x, a4, a5, a6, a7, a8, a9] dX12_bread_29 rfl rfl (by decide) rfl,
  fun d a1 a2 a3 a4 a5 a6 a7 a8 a9 x st h => fk_w_aloadn 0 [.ref x, a1, a2, a3, a4, a5, a6, a7, a8, a9] dX12_bread_30 rfl,
  fun d L st h => fk_w_sipush dX12_bread_31 (by decide),
  fun d a0 a1 a2 a4 a5 a6 a7 a8 a9 x st h => fk_w_iloadn 3 [a0, a1, a2, .int x, a4, a5, a6, a7, a8, a9] dX12_bread_34 rfl,
  fun d L x0 x1 N y l  => fk_g_call [.int x0, .int x1] [] rfl lm_12_328 dX12_bread_35 rfl ⟨rfl, by decide⟩ (by simp) fk_at_246,
  fun d a0 a1 a2 a3 a4 a5 a6 a7 a8 a9 x st h => fk_w_istore 4 10 [] [a0, a1, a2, a3, a4, a5, a6, a7, a8, a9] [a0, a1, a2, a3, .int x, a5, a6, a7, a8, a9] dX12_bread_38 rfl rfl (by decide) rfl,
  fun d a0 a1 a3 a4 a5 a6 a7 a8 a9 x st h => fk_w_iloadn 2 [a0, a1, .int x, a3, a4, a5, a6, a7, a8, a9] dX12_bread_40 rfl,
  fun d a1 a2 a3 a4 a5 a6 a7 a8 a9 x st h => fk_w_aloadn 0 [.ref x, a1, a2, a3, a4, a5, a6, a7, a8, a9] dX12_bread_41 rfl,
  fun d L st N y l => fk_g_getC rfl lf_12_7 (by decide) rfl dX12_bread_42 fk_at_246,
  fun d L st h => fk_w_sipush dX12_bread_45 (by decide),
  fun d a0 a2 a3 a4 a5 a6 a7 a8 a9 x st h => fk_w_iloadn 1 [a0, .int x, a2, a3, a4, a5, a6, a7, a8, a9] dX12_bread_48 rfl,
  fun d L x y st h => fk_r_iadd dX12_bread_49,
  fun d L st N y l i hi => fk_g_iald fk_at_247 fk_ln_247 (by decide) dX12_bread_50 hi,
  fun d L x y st h => fk_r_imul dX12_bread_51,
  fun d a0 a1 a2 a3 a5 a6 a7 a8 a9 x st h => fk_w_iload 4 [a0, a1, a2, a3, .int x, a5, a6, a7, a8, a9] dX12_bread_52 rfl,
  fun d L x y st h => fk_r_irem dX12_bread_54,
  fun d a0 a1 a2 a3 a4 a5 a6 a7 a8 a9 x st h => fk_w_istore 5 10 [] [a0, a1, a2, a3, a4, a5, a6, a7, a8, a9] [a0, a1, a2, a3, a4, .int x, a6, a7, a8, a9] dX12_bread_55 rfl rfl (by decide) rfl,
  fun d a0 a1 a3 a4 a5 a6 a7 a8 a9 x st h => fk_w_iloadn 2 [a0, a1, .int x, a3, a4, a5, a6, a7, a8, a9] dX12_bread_57 rfl,
  fun d a0 a1 a2 a3 a4 a5 a6 a7 a8 a9 x st h => fk_w_istore 6 10 [] [a0, a1, a2, a3, a4, a5, a6, a7, a8, a9] [a0, a1, a2, a3, a4, a5, .int x, a7, a8, a9] dX12_bread_58 rfl rfl (by decide) rfl,
  fun d L st h => fk_w_iconst dX12_bread_60 (by decide),
  fun d a0 a1 a2 a3 a4 a5 a6 a7 a8 a9 x st h => fk_w_istore 7 10 [] [a0, a1, a2, a3, a4, a5, a6, a7, a8, a9] [a0, a1, a2, a3, a4, a5, a6, .int x, a8, a9] dX12_bread_61 rfl rfl (by decide) rfl,
  fun d L st h => fk_w_iconst dX12_bread_63 (by decide),
  fun d a0 a1 a2 a3 a4 a5 a6 a7 a8 a9 x st h => fk_w_istore 8 10 [] [a0, a1, a2, a3, a4, a5, a6, a7, a8, a9] [a0, a1, a2, a3, a4, a5, a6, a7, .int x, a9] dX12_bread_64 rfl rfl (by decide) rfl,
  fun d a1 a2 a3 a4 a5 a6 a7 a8 a9 x st h => fk_w_aloadn 0 [.ref x, a1, a2, a3, a4, a5, a6, a7, a8, a9] dX12_bread_68 rfl,
  fun d L st N y l => fk_g_getC rfl lf_12_7 (by decide) rfl dX12_bread_69 fk_at_246,
  fun d L st h => fk_w_sipush dX12_bread_72 (by decide),
  fun d L st N y l i hi => fk_g_iald fk_at_247 fk_ln_247 (by decide) dX12_bread_75 hi,
  fun d L x y st h => fk_r_icmp_ge dX12_bread_76 (by decide),
  fun d a1 a2 a3 a4 a5 a6 a7 a8 a9 x st h => fk_w_aloadn 0 [.ref x, a1, a2, a3, a4, a5, a6, a7, a8, a9] dX12_bread_79 rfl,
  fun d a0 a1 a2 a3 a4 a5 a6 a7 a9 x st h => fk_w_iload 8 [a0, a1, a2, a3, a4, a5, a6, a7, .int x, a9] dX12_bread_80 rfl,
  fun d L x0 N y l  => fk_g_call [.int x0] [] rfl lm_12_126 dX12_bread_82 rfl ⟨rfl, by decide⟩ (by simp) fk_at_246,
  fun d L x st h => fk_r_if_eq dX12_bread_85 (by decide),
  fun d a1 a2 a3 a4 a5 a6 a7 a8 a9 x st h => fk_w_aloadn 0 [.ref x, a1, a2, a3, a4, a5, a6, a7, a8, a9] dX12_bread_88 rfl,
  fun d L st N y l => fk_g_getC rfl lf_12_7 (by decide) rfl dX12_bread_89 fk_at_246,
  fun d L st h => fk_w_iconst dX12_bread_92 (by decide),
  fun d a0 a1 a2 a3 a4 a5 a6 a7 a9 x st h => fk_w_iload 8 [a0, a1, a2, a3, a4, a5, a6, a7, .int x, a9] dX12_bread_93 rfl,
  fun d L x y st h => fk_r_iadd dX12_bread_95,
  fun d L st N y l i hi => fk_g_iald fk_at_247 fk_ln_247 (by decide) dX12_bread_96 hi,
  fun d a0 a1 a2 a4 a5 a6 a7 a8 a9 x st h => fk_w_iloadn 3 [a0, a1, a2, .int x, a4, a5, a6, a7, a8, a9] dX12_bread_97 rfl,
  fun d L x y st h => fk_r_icmp_eq dX12_bread_98 (by decide),
  fun d L st h => fk_r_goto dX12_bread_101 (by decide),
  fun d a0 a1 a2 a3 a4 a5 a7 a8 a9 x st h => fk_w_iload 6 [a0, a1, a2, a3, a4, a5, .int x, a7, a8, a9] dX12_bread_104 rfl,
  fun d a0 a1 a3 a4 a5 a6 a7 a8 a9 x st h => fk_w_iloadn 2 [a0, a1, .int x, a3, a4, a5, a6, a7, a8, a9] dX12_bread_106 rfl,
  fun d a1 a2 a3 a4 a5 a6 a7 a8 a9 x st h => fk_w_aloadn 0 [.ref x, a1, a2, a3, a4, a5, a6, a7, a8, a9] dX12_bread_107 rfl,
  fun d L st N y l => fk_g_getC rfl lf_12_7 (by decide) rfl dX12_bread_108 fk_at_246,
  fun d L st h => fk_w_sipush dX12_bread_111 (by decide),
  fun d a0 a1 a2 a3 a4 a5 a6 a7 a9 x st h => fk_w_iload 8 [a0, a1, a2, a3, a4, a5, a6, a7, .int x, a9] dX12_bread_114 rfl,
  fun d L x y st h => fk_r_iadd dX12_bread_116,
  fun d L st N y l i hi => fk_g_iald fk_at_247 fk_ln_247 (by decide) dX12_bread_117 hi,
  fun d L x y st h => fk_r_imul dX12_bread_118,
  fun d a0 a1 a2 a3 a5 a6 a7 a8 a9 x st h => fk_w_iload 4 [a0, a1, a2, a3, .int x, a5, a6, a7, a8, a9] dX12_bread_119 rfl,
  fun d L x y st h => fk_r_idiv dX12_bread_121,
  fun d L x y st h => fk_r_isub dX12_bread_122,
  fun d a0 a1 a2 a3 a4 a5 a6 a7 a8 a9 x st h => fk_w_istore 6 10 [] [a0, a1, a2, a3, a4, a5, a6, a7, a8, a9] [a0, a1, a2, a3, a4, a5, .int x, a7, a8, a9] dX12_bread_123 rfl rfl (by decide) rfl,
  fun d a0 a1 a3 a4 a5 a6 a7 a8 a9 x st h => fk_w_iloadn 2 [a0, a1, .int x, a3, a4, a5, a6, a7, a8, a9] dX12_bread_125 rfl,
  fun d a1 a2 a3 a4 a5 a6 a7 a8 a9 x st h => fk_w_aloadn 0 [.ref x, a1, a2, a3, a4, a5, a6, a7, a8, a9] dX12_bread_126 rfl,
  fun d L st N y l => fk_g_getC rfl lf_12_7 (by decide) rfl dX12_bread_127 fk_at_246,
  fun d L st h => fk_w_sipush dX12_bread_130 (by decide),
  fun d a0 a1 a2 a3 a4 a5 a6 a7 a9 x st h => fk_w_iload 8 [a0, a1, a2, a3, a4, a5, a6, a7, .int x, a9] dX12_bread_133 rfl,
  fun d L x y st h => fk_r_iadd dX12_bread_135,
  fun d L st N y l i hi => fk_g_iald fk_at_247 fk_ln_247 (by decide) dX12_bread_136 hi,
  fun d L x y st h => fk_r_imul dX12_bread_137,
  fun d a0 a1 a2 a3 a5 a6 a7 a8 a9 x st h => fk_w_iload 4 [a0, a1, a2, a3, .int x, a5, a6, a7, a8, a9] dX12_bread_138 rfl,
  fun d L x y st h => fk_r_irem dX12_bread_140,
  fun d a0 a1 a2 a3 a4 a5 a6 a7 a8 a9 x st h => fk_w_istore 9 10 [] [a0, a1, a2, a3, a4, a5, a6, a7, a8, a9] [a0, a1, a2, a3, a4, a5, a6, a7, a8, .int x] dX12_bread_141 rfl rfl (by decide) rfl,
  fun d a0 a1 a2 a3 a4 a5 a6 a7 a8 x st h => fk_w_iload 9 [a0, a1, a2, a3, a4, a5, a6, a7, a8, .int x] dX12_bread_143 rfl,
  fun d a0 a1 a2 a3 a4 a6 a7 a8 a9 x st h => fk_w_iload 5 [a0, a1, a2, a3, a4, .int x, a6, a7, a8, a9] dX12_bread_145 rfl,
  fun d L x y st h => fk_r_icmp_gt dX12_bread_147 (by decide),
  fun d a0 a1 a2 a3 a4 a5 a6 a7 a8 x st h => fk_w_iload 9 [a0, a1, a2, a3, a4, a5, a6, a7, a8, .int x] dX12_bread_150 rfl,
  fun d a0 a1 a2 a3 a4 a6 a7 a8 a9 x st h => fk_w_iload 5 [a0, a1, a2, a3, a4, .int x, a6, a7, a8, a9] dX12_bread_152 rfl,
  fun d L x y st h => fk_r_icmp_ne dX12_bread_154 (by decide),
  fun d a0 a1 a2 a3 a4 a5 a6 a7 a9 x st h => fk_w_iload 8 [a0, a1, a2, a3, a4, a5, a6, a7, .int x, a9] dX12_bread_157 rfl,
  fun d a0 a2 a3 a4 a5 a6 a7 a8 a9 x st h => fk_w_iloadn 1 [a0, .int x, a2, a3, a4, a5, a6, a7, a8, a9] dX12_bread_159 rfl,
  fun d L x y st h => fk_r_icmp_ge dX12_bread_160 (by decide),
  fun d a0 a1 a2 a3 a4 a5 a6 a8 a9 x st h => fk_w_iload 7 [a0, a1, a2, a3, a4, a5, a6, .int x, a8, a9] dX12_bread_163 rfl,
  fun d L st h => fk_w_iconst dX12_bread_165 (by decide),
  fun d L x y st h => fk_r_iadd dX12_bread_166,
  fun d a0 a1 a2 a3 a4 a5 a6 a7 a8 a9 x st h => fk_w_istore 7 10 [] [a0, a1, a2, a3, a4, a5, a6, a7, a8, a9] [a0, a1, a2, a3, a4, a5, a6, .int x, a8, a9] dX12_bread_167 rfl rfl (by decide) rfl,
  fun d a0 a1 a2 a3 a4 a5 a6 a7 a9 x st h => fk_w_iinc 8 10 (1) [] [a0, a1, a2, a3, a4, a5, a6, a7, .int x, a9] [a0, a1, a2, a3, a4, a5, a6, a7, .int (x + nI 1), a9] dX12_bread_169 rfl rfl rfl (by decide) rfl,
  fun d L st h => fk_r_goto dX12_bread_172 (by decide),
  fun d a0 a1 a3 a4 a5 a6 a7 a8 a9 x st h => fk_w_iloadn 2 [a0, a1, .int x, a3, a4, a5, a6, a7, a8, a9] dX12_bread_175 rfl,
  fun d a1 a2 a3 a4 a5 a6 a7 a8 a9 x st h => fk_w_aloadn 0 [.ref x, a1, a2, a3, a4, a5, a6, a7, a8, a9] dX12_bread_176 rfl,
  fun d L st N y l => fk_g_getC rfl lf_12_7 (by decide) rfl dX12_bread_177 fk_at_246,
  fun d L st h => fk_w_sipush dX12_bread_180 (by decide),
  fun d a0 a2 a3 a4 a5 a6 a7 a8 a9 x st h => fk_w_iloadn 1 [a0, .int x, a2, a3, a4, a5, a6, a7, a8, a9] dX12_bread_183 rfl,
  fun d L x y st h => fk_r_iadd dX12_bread_184,
  fun d L st N y l i hi => fk_g_iald fk_at_247 fk_ln_247 (by decide) dX12_bread_185 hi,
  fun d L x y st h => fk_r_imul dX12_bread_186,
  fun d a0 a1 a2 a3 a5 a6 a7 a8 a9 x st h => fk_w_iload 4 [a0, a1, a2, a3, .int x, a5, a6, a7, a8, a9] dX12_bread_187 rfl,
  fun d L x y st h => fk_r_idiv dX12_bread_189,
  fun d a0 a1 a2 a3 a4 a5 a6 a8 a9 x st h => fk_w_iload 7 [a0, a1, a2, a3, a4, a5, a6, .int x, a8, a9] dX12_bread_190 rfl,
  fun d a0 a1 a2 a3 a4 a5 a7 a8 a9 x st h => fk_w_iload 6 [a0, a1, a2, a3, a4, a5, .int x, a7, a8, a9] dX12_bread_192 rfl,
  fun d L x y st h => fk_r_icmp_ge dX12_bread_194 (by decide),
  fun d L st h => fk_w_iconst dX12_bread_197 (by decide),
  fun d L st h => fk_r_goto dX12_bread_198 (by decide),
  fun d L st h => fk_w_iconst dX12_bread_201 (by decide),
  fun d L x y st h => fk_r_iadd dX12_bread_202,
  fun d L x h => fk_r_ret dX12_bread_203 (Or.inl rfl)⟩
theorem hX12_bread_66 : ∀ (d : Nat) (a0 a1 a2 a3 a4 a5 a6 a7 a9 : Value) (x : Int32) (st : List Value) (h : fk_H), fk_ev d qX12_bread 66 [a0, a1, a2, a3, a4, a5, a6, a7, .int x, a9] st h = fk_ev d qX12_bread 68 [a0, a1, a2, a3, a4, a5, a6, a7, .int x, a9] (.int x :: st) h := fun d a0 a1 a2 a3 a4 a5 a6 a7 a9 x st h => fk_w_iload 8 [a0, a1, a2, a3, a4, a5, a6, a7, .int x, a9] dX12_bread_66 rfl
theorem dX12_weightFor_0 : decode cX12_weightFor 0 = .ok (.iconst 0, 1) := by decide +kernel
theorem dX12_weightFor_1 : decode cX12_weightFor 1 = .ok (.istore 4, 2) := by decide +kernel
theorem dX12_weightFor_3 : decode cX12_weightFor 3 = .ok (.iconst 0, 1) := by decide +kernel
theorem dX12_weightFor_4 : decode cX12_weightFor 4 = .ok (.istore 5, 2) := by decide +kernel
theorem dX12_weightFor_6 : decode cX12_weightFor 6 = .ok (.iload 5, 2) := by decide +kernel
theorem dX12_weightFor_8 : decode cX12_weightFor 8 = .ok (.aload_n 0, 1) := by decide +kernel
theorem dX12_weightFor_9 : decode cX12_weightFor 9 = .ok (.getfield 7, 3) := by decide +kernel
theorem dX12_weightFor_12 : decode cX12_weightFor 12 = .ok (.sipush 833, 3) := by decide +kernel
theorem dX12_weightFor_15 : decode cX12_weightFor 15 = .ok (.iaload, 1) := by decide +kernel
theorem dX12_weightFor_16 : decode cX12_weightFor 16 = .ok (.if_icmp .ge 84, 3) := by decide +kernel
theorem dX12_weightFor_19 : decode cX12_weightFor 19 = .ok (.aload_n 0, 1) := by decide +kernel
theorem dX12_weightFor_20 : decode cX12_weightFor 20 = .ok (.iload 5, 2) := by decide +kernel
theorem dX12_weightFor_22 : decode cX12_weightFor 22 = .ok (.invokevirtual 126, 3) := by decide +kernel
theorem dX12_weightFor_25 : decode cX12_weightFor 25 = .ok (.ifCond .eq 69, 3) := by decide +kernel
theorem dX12_weightFor_28 : decode cX12_weightFor 28 = .ok (.aload_n 0, 1) := by decide +kernel
theorem dX12_weightFor_29 : decode cX12_weightFor 29 = .ok (.getfield 7, 3) := by decide +kernel
theorem dX12_weightFor_32 : decode cX12_weightFor 32 = .ok (.iconst 0, 1) := by decide +kernel
theorem dX12_weightFor_33 : decode cX12_weightFor 33 = .ok (.iload 5, 2) := by decide +kernel
theorem dX12_weightFor_35 : decode cX12_weightFor 35 = .ok (.iadd, 1) := by decide +kernel
theorem dX12_weightFor_36 : decode cX12_weightFor 36 = .ok (.iaload, 1) := by decide +kernel
theorem dX12_weightFor_37 : decode cX12_weightFor 37 = .ok (.iload_n 1, 1) := by decide +kernel
theorem dX12_weightFor_38 : decode cX12_weightFor 38 = .ok (.if_icmp .ne 56, 3) := by decide +kernel
theorem dX12_weightFor_41 : decode cX12_weightFor 41 = .ok (.aload_n 0, 1) := by decide +kernel
theorem dX12_weightFor_42 : decode cX12_weightFor 42 = .ok (.getfield 7, 3) := by decide +kernel
theorem dX12_weightFor_45 : decode cX12_weightFor 45 = .ok (.sipush 704, 3) := by decide +kernel
theorem dX12_weightFor_48 : decode cX12_weightFor 48 = .ok (.iload 5, 2) := by decide +kernel
theorem dX12_weightFor_50 : decode cX12_weightFor 50 = .ok (.iadd, 1) := by decide +kernel
theorem dX12_weightFor_51 : decode cX12_weightFor 51 = .ok (.iaload, 1) := by decide +kernel
theorem dX12_weightFor_52 : decode cX12_weightFor 52 = .ok (.iload_n 2, 1) := by decide +kernel
theorem dX12_weightFor_53 : decode cX12_weightFor 53 = .ok (.invokestatic 108, 3) := by decide +kernel
theorem dX12_weightFor_56 : decode cX12_weightFor 56 = .ok (.ifCond .eq 38, 3) := by decide +kernel
theorem dX12_weightFor_59 : decode cX12_weightFor 59 = .ok (.aload_n 0, 1) := by decide +kernel
theorem dX12_weightFor_60 : decode cX12_weightFor 60 = .ok (.getfield 7, 3) := by decide +kernel
theorem dX12_weightFor_63 : decode cX12_weightFor 63 = .ok (.sipush 768, 3) := by decide +kernel
theorem dX12_weightFor_66 : decode cX12_weightFor 66 = .ok (.iload 5, 2) := by decide +kernel
theorem dX12_weightFor_68 : decode cX12_weightFor 68 = .ok (.iadd, 1) := by decide +kernel
theorem dX12_weightFor_69 : decode cX12_weightFor 69 = .ok (.iaload, 1) := by decide +kernel
theorem dX12_weightFor_70 : decode cX12_weightFor 70 = .ok (.iload_n 2, 1) := by decide +kernel
theorem dX12_weightFor_71 : decode cX12_weightFor 71 = .ok (.invokestatic 108, 3) := by decide +kernel
theorem dX12_weightFor_74 : decode cX12_weightFor 74 = .ok (.iload_n 3, 1) := by decide +kernel
theorem dX12_weightFor_75 : decode cX12_weightFor 75 = .ok (.if_icmp .ne 19, 3) := by decide +kernel
theorem dX12_weightFor_78 : decode cX12_weightFor 78 = .ok (.iload 4, 2) := by decide +kernel
theorem dX12_weightFor_80 : decode cX12_weightFor 80 = .ok (.aload_n 0, 1) := by decide +kernel
theorem dX12_weightFor_81 : decode cX12_weightFor 81 = .ok (.getfield 7, 3) := by decide +kernel
theorem dX12_weightFor_84 : decode cX12_weightFor 84 = .ok (.sipush 256, 3) := by decide +kernel
theorem dX12_weightFor_87 : decode cX12_weightFor 87 = .ok (.iload 5, 2) := by decide +kernel
theorem dX12_weightFor_89 : decode cX12_weightFor 89 = .ok (.iadd, 1) := by decide +kernel
theorem dX12_weightFor_90 : decode cX12_weightFor 90 = .ok (.iaload, 1) := by decide +kernel
theorem dX12_weightFor_91 : decode cX12_weightFor 91 = .ok (.iadd, 1) := by decide +kernel
theorem dX12_weightFor_92 : decode cX12_weightFor 92 = .ok (.istore 4, 2) := by decide +kernel
theorem dX12_weightFor_94 : decode cX12_weightFor 94 = .ok (.iinc 5 1, 3) := by decide +kernel
theorem dX12_weightFor_97 : decode cX12_weightFor 97 = .ok (.goto (-91), 3) := by decide +kernel
theorem dX12_weightFor_100 : decode cX12_weightFor 100 = .ok (.iload 4, 2) := by decide +kernel
theorem dX12_weightFor_102 : decode cX12_weightFor 102 = .ok (.ireturn, 1) := by decide +kernel
theorem rX12_weightFor : (∀ (d : Nat) (L st : List Value) (h : fk_H), fk_ev d qX12_weightFor 0 L st h = fk_ev d qX12_weightFor 1 L (.int (nI 0) :: st) h) ∧
  (∀ (d : Nat) (a0 a1 a2 a3 a4 a5 : Value) (x : Int32) (st : List Value) (h : fk_H), fk_ev d qX12_weightFor 1 [a0, a1, a2, a3, a4, a5] (.int x :: st) h = fk_ev d qX12_weightFor 3 [a0, a1, a2, a3, .int x, a5] st h) ∧
  (∀ (d : Nat) (L st : List Value) (h : fk_H), fk_ev d qX12_weightFor 3 L st h = fk_ev d qX12_weightFor 4 L (.int (nI 0) :: st) h) ∧
  (∀ (d : Nat) (a0 a1 a2 a3 a4 a5 : Value) (x : Int32) (st : List Value) (h : fk_H), fk_ev d qX12_weightFor 4 [a0, a1, a2, a3, a4, a5] (.int x :: st) h = fk_ev d qX12_weightFor 6 [a0, a1, a2, a3, a4, .int x] st h) ∧
  (∀ (d : Nat) (a1 a2 a3 a4 a5 : Value) (x : Nat) (st : List Value) (h : fk_H), fk_ev d qX12_weightFor 8 [.ref x, a1, a2, a3, a4, a5] st h = fk_ev d qX12_weightFor 9 [.ref x, a1, a2, a3, a4, a5] (.ref x :: st) h) ∧
  (∀ (d : Nat) (L st : List Value) (N : Nat) (y : Nat → Nat → Int32) (l : Nat → Nat → Int64), fk_ev d qX12_weightFor 9 L (.ref 246 :: st) (fk_E N y l) = fk_ev d qX12_weightFor 12 L (.ref 247 :: st) (fk_E N y l)) ∧
  (∀ (d : Nat) (L st : List Value) (h : fk_H), fk_ev d qX12_weightFor 12 L st h = fk_ev d qX12_weightFor 15 L (.int (nI 833) :: st) h) ∧
  (∀ (d : Nat) (L st : List Value) (N : Nat) (y : Nat → Nat → Int32) (l : Nat → Nat → Int64) (i : Nat), i < 3912 → fk_ev d qX12_weightFor 15 L (.int (nI i) :: .ref 247 :: st) (fk_E N y l) = fk_ev d qX12_weightFor 16 L (.int (y 247 i) :: st) (fk_E N y l)) ∧
  (∀ (d : Nat) (L : List Value) (x y : Int32) (st : List Value) (h : fk_H), fk_ev d qX12_weightFor 16 L (.int y :: .int x :: st) h = if y ≤ x then fk_ev d qX12_weightFor 100 L st h else fk_ev d qX12_weightFor 19 L st h) ∧
  (∀ (d : Nat) (a1 a2 a3 a4 a5 : Value) (x : Nat) (st : List Value) (h : fk_H), fk_ev d qX12_weightFor 19 [.ref x, a1, a2, a3, a4, a5] st h = fk_ev d qX12_weightFor 20 [.ref x, a1, a2, a3, a4, a5] (.ref x :: st) h) ∧
  (∀ (d : Nat) (a0 a1 a2 a3 a4 : Value) (x : Int32) (st : List Value) (h : fk_H), fk_ev d qX12_weightFor 20 [a0, a1, a2, a3, a4, .int x] st h = fk_ev d qX12_weightFor 22 [a0, a1, a2, a3, a4, .int x] (.int x :: st) h) ∧
  (∀ (d : Nat) (L : List Value) (x0 : Int32)  (N : Nat) (y : Nat → Nat → Int32) (l : Nat → Nat → Int64), fk_ev (d + 1) qX12_weightFor 22 L (.int x0 :: .ref 246 :: []) (fk_E N y l) = (fk_ev d qX12_lives 0 [.ref 246, .int x0] [] (fk_E N y l)).bind fun o => fk_ev (d + 1) qX12_weightFor 25 L (o.1.toList ++ []) o.2) ∧
  (∀ (d : Nat) (L : List Value) (x : Int32) (st : List Value) (h : fk_H), fk_ev d qX12_weightFor 25 L (.int x :: st) h = if x = nI 0 then fk_ev d qX12_weightFor 94 L st h else fk_ev d qX12_weightFor 28 L st h) ∧
  (∀ (d : Nat) (a1 a2 a3 a4 a5 : Value) (x : Nat) (st : List Value) (h : fk_H), fk_ev d qX12_weightFor 28 [.ref x, a1, a2, a3, a4, a5] st h = fk_ev d qX12_weightFor 29 [.ref x, a1, a2, a3, a4, a5] (.ref x :: st) h) ∧
  (∀ (d : Nat) (L st : List Value) (N : Nat) (y : Nat → Nat → Int32) (l : Nat → Nat → Int64), fk_ev d qX12_weightFor 29 L (.ref 246 :: st) (fk_E N y l) = fk_ev d qX12_weightFor 32 L (.ref 247 :: st) (fk_E N y l)) ∧
  (∀ (d : Nat) (L st : List Value) (h : fk_H), fk_ev d qX12_weightFor 32 L st h = fk_ev d qX12_weightFor 33 L (.int (nI 0) :: st) h) ∧
  (∀ (d : Nat) (a0 a1 a2 a3 a4 : Value) (x : Int32) (st : List Value) (h : fk_H), fk_ev d qX12_weightFor 33 [a0, a1, a2, a3, a4, .int x] st h = fk_ev d qX12_weightFor 35 [a0, a1, a2, a3, a4, .int x] (.int x :: st) h) ∧
  (∀ (d : Nat) (L : List Value) (x y : Int32) (st : List Value) (h : fk_H), fk_ev d qX12_weightFor 35 L (.int y :: .int x :: st) h = fk_ev d qX12_weightFor 36 L (.int (x + y) :: st) h) ∧
  (∀ (d : Nat) (L st : List Value) (N : Nat) (y : Nat → Nat → Int32) (l : Nat → Nat → Int64) (i : Nat), i < 3912 → fk_ev d qX12_weightFor 36 L (.int (nI i) :: .ref 247 :: st) (fk_E N y l) = fk_ev d qX12_weightFor 37 L (.int (y 247 i) :: st) (fk_E N y l)) ∧
  (∀ (d : Nat) (a0 a2 a3 a4 a5 : Value) (x : Int32) (st : List Value) (h : fk_H), fk_ev d qX12_weightFor 37 [a0, .int x, a2, a3, a4, a5] st h = fk_ev d qX12_weightFor 38 [a0, .int x, a2, a3, a4, a5] (.int x :: st) h) ∧
  (∀ (d : Nat) (L : List Value) (x y : Int32) (st : List Value) (h : fk_H), fk_ev d qX12_weightFor 38 L (.int y :: .int x :: st) h = if ¬ x = y then fk_ev d qX12_weightFor 94 L st h else fk_ev d qX12_weightFor 41 L st h) ∧
  (∀ (d : Nat) (a1 a2 a3 a4 a5 : Value) (x : Nat) (st : List Value) (h : fk_H), fk_ev d qX12_weightFor 41 [.ref x, a1, a2, a3, a4, a5] st h = fk_ev d qX12_weightFor 42 [.ref x, a1, a2, a3, a4, a5] (.ref x :: st) h) ∧
  (∀ (d : Nat) (L st : List Value) (N : Nat) (y : Nat → Nat → Int32) (l : Nat → Nat → Int64), fk_ev d qX12_weightFor 42 L (.ref 246 :: st) (fk_E N y l) = fk_ev d qX12_weightFor 45 L (.ref 247 :: st) (fk_E N y l)) ∧
  (∀ (d : Nat) (L st : List Value) (h : fk_H), fk_ev d qX12_weightFor 45 L st h = fk_ev d qX12_weightFor 48 L (.int (nI 704) :: st) h) ∧
  (∀ (d : Nat) (a0 a1 a2 a3 a4 : Value) (x : Int32) (st : List Value) (h : fk_H), fk_ev d qX12_weightFor 48 [a0, a1, a2, a3, a4, .int x] st h = fk_ev d qX12_weightFor 50 [a0, a1, a2, a3, a4, .int x] (.int x :: st) h) ∧
  (∀ (d : Nat) (L : List Value) (x y : Int32) (st : List Value) (h : fk_H), fk_ev d qX12_weightFor 50 L (.int y :: .int x :: st) h = fk_ev d qX12_weightFor 51 L (.int (x + y) :: st) h) ∧
  (∀ (d : Nat) (L st : List Value) (N : Nat) (y : Nat → Nat → Int32) (l : Nat → Nat → Int64) (i : Nat), i < 3912 → fk_ev d qX12_weightFor 51 L (.int (nI i) :: .ref 247 :: st) (fk_E N y l) = fk_ev d qX12_weightFor 52 L (.int (y 247 i) :: st) (fk_E N y l)) ∧
  (∀ (d : Nat) (a0 a1 a3 a4 a5 : Value) (x : Int32) (st : List Value) (h : fk_H), fk_ev d qX12_weightFor 52 [a0, a1, .int x, a3, a4, a5] st h = fk_ev d qX12_weightFor 53 [a0, a1, .int x, a3, a4, a5] (.int x :: st) h) ∧
  (∀ (d : Nat) (L : List Value) (x0 : Int32) (x1 : Int32)  (h : fk_H), fk_ev (d + 1) qX12_weightFor 53 L (.int x1 :: .int x0 :: []) h = (fk_ev d qX12_has 0 [.int x0, .int x1] [] h).bind fun o => fk_ev (d + 1) qX12_weightFor 56 L (o.1.toList ++ []) o.2) ∧
  (∀ (d : Nat) (L : List Value) (x : Int32) (st : List Value) (h : fk_H), fk_ev d qX12_weightFor 56 L (.int x :: st) h = if x = nI 0 then fk_ev d qX12_weightFor 94 L st h else fk_ev d qX12_weightFor 59 L st h) ∧
  (∀ (d : Nat) (a1 a2 a3 a4 a5 : Value) (x : Nat) (st : List Value) (h : fk_H), fk_ev d qX12_weightFor 59 [.ref x, a1, a2, a3, a4, a5] st h = fk_ev d qX12_weightFor 60 [.ref x, a1, a2, a3, a4, a5] (.ref x :: st) h) ∧
  (∀ (d : Nat) (L st : List Value) (N : Nat) (y : Nat → Nat → Int32) (l : Nat → Nat → Int64), fk_ev d qX12_weightFor 60 L (.ref 246 :: st) (fk_E N y l) = fk_ev d qX12_weightFor 63 L (.ref 247 :: st) (fk_E N y l)) ∧
  (∀ (d : Nat) (L st : List Value) (h : fk_H), fk_ev d qX12_weightFor 63 L st h = fk_ev d qX12_weightFor 66 L (.int (nI 768) :: st) h) ∧
  (∀ (d : Nat) (a0 a1 a2 a3 a4 : Value) (x : Int32) (st : List Value) (h : fk_H), fk_ev d qX12_weightFor 66 [a0, a1, a2, a3, a4, .int x] st h = fk_ev d qX12_weightFor 68 [a0, a1, a2, a3, a4, .int x] (.int x :: st) h) ∧
  (∀ (d : Nat) (L : List Value) (x y : Int32) (st : List Value) (h : fk_H), fk_ev d qX12_weightFor 68 L (.int y :: .int x :: st) h = fk_ev d qX12_weightFor 69 L (.int (x + y) :: st) h) ∧
  (∀ (d : Nat) (L st : List Value) (N : Nat) (y : Nat → Nat → Int32) (l : Nat → Nat → Int64) (i : Nat), i < 3912 → fk_ev d qX12_weightFor 69 L (.int (nI i) :: .ref 247 :: st) (fk_E N y l) = fk_ev d qX12_weightFor 70 L (.int (y 247 i) :: st) (fk_E N y l)) ∧
  (∀ (d : Nat) (a0 a1 a3 a4 a5 : Value) (x : Int32) (st : List Value) (h : fk_H), fk_ev d qX12_weightFor 70 [a0, a1, .int x, a3, a4, a5] st h = fk_ev d qX12_weightFor 71 [a0, a1, .int x, a3, a4, a5] (.int x :: st) h) ∧
  (∀ (d : Nat) (L : List Value) (x0 : Int32) (x1 : Int32)  (h : fk_H), fk_ev (d + 1) qX12_weightFor 71 L (.int x1 :: .int x0 :: []) h = (fk_ev d qX12_has 0 [.int x0, .int x1] [] h).bind fun o => fk_ev (d + 1) qX12_weightFor 74 L (o.1.toList ++ []) o.2) ∧
  (∀ (d : Nat) (a0 a1 a2 a4 a5 : Value) (x : Int32) (st : List Value) (h : fk_H), fk_ev d qX12_weightFor 74 [a0, a1, a2, .int x, a4, a5] st h = fk_ev d qX12_weightFor 75 [a0, a1, a2, .int x, a4, a5] (.int x :: st) h) ∧
  (∀ (d : Nat) (L : List Value) (x y : Int32) (st : List Value) (h : fk_H), fk_ev d qX12_weightFor 75 L (.int y :: .int x :: st) h = if ¬ x = y then fk_ev d qX12_weightFor 94 L st h else fk_ev d qX12_weightFor 78 L st h) ∧
  (∀ (d : Nat) (a0 a1 a2 a3 a5 : Value) (x : Int32) (st : List Value) (h : fk_H), fk_ev d qX12_weightFor 78 [a0, a1, a2, a3, .int x, a5] st h = fk_ev d qX12_weightFor 80 [a0, a1, a2, a3, .int x, a5] (.int x :: st) h) ∧
  (∀ (d : Nat) (a1 a2 a3 a4 a5 : Value) (x : Nat) (st : List Value) (h : fk_H), fk_ev d qX12_weightFor 80 [.ref x, a1, a2, a3, a4, a5] st h = fk_ev d qX12_weightFor 81 [.ref x, a1, a2, a3, a4, a5] (.ref x :: st) h) ∧
  (∀ (d : Nat) (L st : List Value) (N : Nat) (y : Nat → Nat → Int32) (l : Nat → Nat → Int64), fk_ev d qX12_weightFor 81 L (.ref 246 :: st) (fk_E N y l) = fk_ev d qX12_weightFor 84 L (.ref 247 :: st) (fk_E N y l)) ∧
  (∀ (d : Nat) (L st : List Value) (h : fk_H), fk_ev d qX12_weightFor 84 L st h = fk_ev d qX12_weightFor 87 L (.int (nI 256) :: st) h) ∧
  (∀ (d : Nat) (a0 a1 a2 a3 a4 : Value) (x : Int32) (st : List Value) (h : fk_H), fk_ev d qX12_weightFor 87 [a0, a1, a2, a3, a4, .int x] st h = fk_ev d qX12_weightFor 89 [a0, a1, a2, a3, a4, .int x] (.int x :: st) h) ∧
  (∀ (d : Nat) (L : List Value) (x y : Int32) (st : List Value) (h : fk_H), fk_ev d qX12_weightFor 89 L (.int y :: .int x :: st) h = fk_ev d qX12_weightFor 90 L (.int (x + y) :: st) h) ∧
  (∀ (d : Nat) (L st : List Value) (N : Nat) (y : Nat → Nat → Int32) (l : Nat → Nat → Int64) (i : Nat), i < 3912 → fk_ev d qX12_weightFor 90 L (.int (nI i) :: .ref 247 :: st) (fk_E N y l) = fk_ev d qX12_weightFor 91 L (.int (y 247 i) :: st) (fk_E N y l)) ∧
  (∀ (d : Nat) (L : List Value) (x y : Int32) (st : List Value) (h : fk_H), fk_ev d qX12_weightFor 91 L (.int y :: .int x :: st) h = fk_ev d qX12_weightFor 92 L (.int (x + y) :: st) h) ∧
  (∀ (d : Nat) (a0 a1 a2 a3 a4 a5 : Value) (x : Int32) (st : List Value) (h : fk_H), fk_ev d qX12_weightFor 92 [a0, a1, a2, a3, a4, a5] (.int x :: st) h = fk_ev d qX12_weightFor 94 [a0, a1, a2, a3, .int x, a5] st h) ∧
  (∀ (d : Nat) (a0 a1 a2 a3 a4 : Value) (x : Int32) (st : List Value) (h : fk_H), fk_ev d qX12_weightFor 94 [a0, a1, a2, a3, a4, .int x] st h = fk_ev d qX12_weightFor 97 [a0, a1, a2, a3, a4, .int (x + nI 1)] st h) ∧
  (∀ (d : Nat) (L st : List Value) (h : fk_H), fk_ev d qX12_weightFor 97 L st h = fk_ev d qX12_weightFor 6 L st h) ∧
  (∀ (d : Nat) (a0 a1 a2 a3 a5 : Value) (x : Int32) (st : List Value) (h : fk_H), fk_ev d qX12_weightFor 100 [a0, a1, a2, a3, .int x, a5] st h = fk_ev d qX12_weightFor 102 [a0, a1, a2, a3, .int x, a5] (.int x :: st) h) ∧
  (∀ (d : Nat) (L : List Value) (x : Int32) (h : fk_H), fk_ev d qX12_weightFor 102 L [.int x] h = some (some (.int x), h)) := ⟨fun d L st h => fk_w_iconst dX12_weightFor_0 (by decide),
  fun d a0 a1 a2 a3 a4 a5 x st h => fk_w_istore 4 6 [] [a0, a1, a2, a3, a4, a5] [a0, a1, a2, a3, .int x, a5] dX12_weightFor_1 rfl rfl (by decide) rfl,
  fun d L st h => fk_w_iconst dX12_weightFor_3 (by decide),
  fun d a0 a1 a2 a3 a4 a5 x st h => fk_w_istore 5 6 [] [a0, a1, a2, a3, a4, a5] [a0, a1, a2, a3, a4, .int x] dX12_weightFor_4 rfl rfl (by decide) rfl,
  fun d a1 a2 a3 a4 a5 x st h => fk_w_aloadn 0 [.ref x, a1, a2, a3, a4, a5] dX12_weightFor_8 rfl,
  fun d L st N y l => fk_g_getC rfl lf_12_7 (by decide) rfl dX12_weightFor_9 fk_at_246,
  fun d L st h => fk_w_sipush dX12_weightFor_12 (by decide),
  fun d L st N y l i hi => fk_g_iald fk_at_247 fk_ln_247 (by decide) dX12_weightFor_15 hi,
  fun d L x y st h => fk_r_icmp_ge dX12_weightFor_16 (by decide),
  fun d a1 a2 a3 a4 a5 x st h => fk_w_aloadn 0 [.ref x, a1, a2, a3, a4, a5] dX12_weightFor_19 rfl,
  fun d a0 a1 a2 a3 a4 x st h => fk_w_iload 5 [a0, a1, a2, a3, a4, .int x] dX12_weightFor_20 rfl,
  fun d L x0 N y l  => fk_g_call [.int x0] [] rfl lm_12_126 dX12_weightFor_22 rfl ⟨rfl, by decide⟩ (by simp) fk_at_246,
  fun d L x st h => fk_r_if_eq dX12_weightFor_25 (by decide),
  fun d a1 a2 a3 a4 a5 x st h => fk_w_aloadn 0 [.ref x, a1, a2, a3, a4, a5] dX12_weightFor_28 rfl,
  fun d L st N y l => fk_g_getC rfl lf_12_7 (by decide) rfl dX12_weightFor_29 fk_at_246,
  fun d L st h => fk_w_iconst dX12_weightFor_32 (by decide),
  fun d a0 a1 a2 a3 a4 x st h => fk_w_iload 5 [a0, a1, a2, a3, a4, .int x] dX12_weightFor_33 rfl,
  fun d L x y st h => fk_r_iadd dX12_weightFor_35,
  fun d L st N y l i hi => fk_g_iald fk_at_247 fk_ln_247 (by decide) dX12_weightFor_36 hi,
  fun d a0 a2 a3 a4 a5 x st h => fk_w_iloadn 1 [a0, .int x, a2, a3, a4, a5] dX12_weightFor_37 rfl,
  fun d L x y st h => fk_r_icmp_ne dX12_weightFor_38 (by decide),
  fun d a1 a2 a3 a4 a5 x st h => fk_w_aloadn 0 [.ref x, a1, a2, a3, a4, a5] dX12_weightFor_41 rfl,
  fun d L st N y l => fk_g_getC rfl lf_12_7 (by decide) rfl dX12_weightFor_42 fk_at_246,
  fun d L st h => fk_w_sipush dX12_weightFor_45 (by decide),
  fun d a0 a1 a2 a3 a4 x st h => fk_w_iload 5 [a0, a1, a2, a3, a4, .int x] dX12_weightFor_48 rfl,
  fun d L x y st h => fk_r_iadd dX12_weightFor_50,
  fun d L st N y l i hi => fk_g_iald fk_at_247 fk_ln_247 (by decide) dX12_weightFor_51 hi,
  fun d a0 a1 a3 a4 a5 x st h => fk_w_iloadn 2 [a0, a1, .int x, a3, a4, a5] dX12_weightFor_52 rfl,
  fun d L x0 x1 h => fk_g_calls [.int x0, .int x1] [] rfl lm_12_108 dX12_weightFor_53 rfl ⟨rfl, by decide⟩ (by simp),
  fun d L x st h => fk_r_if_eq dX12_weightFor_56 (by decide),
  fun d a1 a2 a3 a4 a5 x st h => fk_w_aloadn 0 [.ref x, a1, a2, a3, a4, a5] dX12_weightFor_59 rfl,
  fun d L st N y l => fk_g_getC rfl lf_12_7 (by decide) rfl dX12_weightFor_60 fk_at_246,
  fun d L st h => fk_w_sipush dX12_weightFor_63 (by decide),
  fun d a0 a1 a2 a3 a4 x st h => fk_w_iload 5 [a0, a1, a2, a3, a4, .int x] dX12_weightFor_66 rfl,
  fun d L x y st h => fk_r_iadd dX12_weightFor_68,
  fun d L st N y l i hi => fk_g_iald fk_at_247 fk_ln_247 (by decide) dX12_weightFor_69 hi,
  fun d a0 a1 a3 a4 a5 x st h => fk_w_iloadn 2 [a0, a1, .int x, a3, a4, a5] dX12_weightFor_70 rfl,
  fun d L x0 x1 h => fk_g_calls [.int x0, .int x1] [] rfl lm_12_108 dX12_weightFor_71 rfl ⟨rfl, by decide⟩ (by simp),
  fun d a0 a1 a2 a4 a5 x st h => fk_w_iloadn 3 [a0, a1, a2, .int x, a4, a5] dX12_weightFor_74 rfl,
  fun d L x y st h => fk_r_icmp_ne dX12_weightFor_75 (by decide),
  fun d a0 a1 a2 a3 a5 x st h => fk_w_iload 4 [a0, a1, a2, a3, .int x, a5] dX12_weightFor_78 rfl,
  fun d a1 a2 a3 a4 a5 x st h => fk_w_aloadn 0 [.ref x, a1, a2, a3, a4, a5] dX12_weightFor_80 rfl,
  fun d L st N y l => fk_g_getC rfl lf_12_7 (by decide) rfl dX12_weightFor_81 fk_at_246,
  fun d L st h => fk_w_sipush dX12_weightFor_84 (by decide),
  fun d a0 a1 a2 a3 a4 x st h => fk_w_iload 5 [a0, a1, a2, a3, a4, .int x] dX12_weightFor_87 rfl,
  fun d L x y st h => fk_r_iadd dX12_weightFor_89,
  fun d L st N y l i hi => fk_g_iald fk_at_247 fk_ln_247 (by decide) dX12_weightFor_90 hi,
  fun d L x y st h => fk_r_iadd dX12_weightFor_91,
  fun d a0 a1 a2 a3 a4 a5 x st h => fk_w_istore 4 6 [] [a0, a1, a2, a3, a4, a5] [a0, a1, a2, a3, .int x, a5] dX12_weightFor_92 rfl rfl (by decide) rfl,
  fun d a0 a1 a2 a3 a4 x st h => fk_w_iinc 5 6 (1) [] [a0, a1, a2, a3, a4, .int x] [a0, a1, a2, a3, a4, .int (x + nI 1)] dX12_weightFor_94 rfl rfl rfl (by decide) rfl,
  fun d L st h => fk_r_goto dX12_weightFor_97 (by decide),
  fun d a0 a1 a2 a3 a5 x st h => fk_w_iload 4 [a0, a1, a2, a3, .int x, a5] dX12_weightFor_100 rfl,
  fun d L x h => fk_r_ret dX12_weightFor_102 (Or.inl rfl)⟩
theorem hX12_weightFor_6 : ∀ (d : Nat) (a0 a1 a2 a3 a4 : Value) (x : Int32) (st : List Value) (h : fk_H), fk_ev d qX12_weightFor 6 [a0, a1, a2, a3, a4, .int x] st h = fk_ev d qX12_weightFor 8 [a0, a1, a2, a3, a4, .int x] (.int x :: st) h := fun d a0 a1 a2 a3 a4 x st h => fk_w_iload 5 [a0, a1, a2, a3, a4, .int x] dX12_weightFor_6 rfl
theorem dX12_vote_0 : decode cX12_vote 0 = .ok (.iload_n 1, 1) := by decide +kernel
theorem dX12_vote_1 : decode cX12_vote 1 = .ok (.invokestatic 132, 3) := by decide +kernel
theorem dX12_vote_4 : decode cX12_vote 4 = .ok (.ifCond .eq 19, 3) := by decide +kernel
theorem dX12_vote_7 : decode cX12_vote 7 = .ok (.iload_n 2, 1) := by decide +kernel
theorem dX12_vote_8 : decode cX12_vote 8 = .ok (.invokestatic 120, 3) := by decide +kernel
theorem dX12_vote_11 : decode cX12_vote 11 = .ok (.ifCond .eq 12, 3) := by decide +kernel
theorem dX12_vote_14 : decode cX12_vote 14 = .ok (.iload_n 3, 1) := by decide +kernel
theorem dX12_vote_15 : decode cX12_vote 15 = .ok (.iconst 0, 1) := by decide +kernel
theorem dX12_vote_16 : decode cX12_vote 16 = .ok (.iconst 2, 1) := by decide +kernel
theorem dX12_vote_17 : decode cX12_vote 17 = .ok (.invokestatic 112, 3) := by decide +kernel
theorem dX12_vote_20 : decode cX12_vote 20 = .ok (.ifCond .ne 5, 3) := by decide +kernel
theorem dX12_vote_23 : decode cX12_vote 23 = .ok (.iconst (-1), 1) := by decide +kernel
theorem dX12_vote_24 : decode cX12_vote 24 = .ok (.ireturn, 1) := by decide +kernel
theorem dX12_vote_25 : decode cX12_vote 25 = .ok (.aload_n 0, 1) := by decide +kernel
theorem dX12_vote_26 : decode cX12_vote 26 = .ok (.iload_n 1, 1) := by decide +kernel
theorem dX12_vote_27 : decode cX12_vote 27 = .ok (.iload_n 2, 1) := by decide +kernel
theorem dX12_vote_28 : decode cX12_vote 28 = .ok (.iconst 1, 1) := by decide +kernel
theorem dX12_vote_29 : decode cX12_vote 29 = .ok (.invokevirtual 418, 3) := by decide +kernel
theorem dX12_vote_32 : decode cX12_vote 32 = .ok (.istore 4, 2) := by decide +kernel
theorem dX12_vote_34 : decode cX12_vote 34 = .ok (.aload_n 0, 1) := by decide +kernel
theorem dX12_vote_35 : decode cX12_vote 35 = .ok (.iload_n 1, 1) := by decide +kernel
theorem dX12_vote_36 : decode cX12_vote 36 = .ok (.iload_n 2, 1) := by decide +kernel
theorem dX12_vote_37 : decode cX12_vote 37 = .ok (.iconst 0, 1) := by decide +kernel
theorem dX12_vote_38 : decode cX12_vote 38 = .ok (.invokevirtual 418, 3) := by decide +kernel
theorem dX12_vote_41 : decode cX12_vote 41 = .ok (.istore 5, 2) := by decide +kernel
theorem dX12_vote_43 : decode cX12_vote 43 = .ok (.iload_n 3, 1) := by decide +kernel
theorem dX12_vote_44 : decode cX12_vote 44 = .ok (.iconst 2, 1) := by decide +kernel
theorem dX12_vote_45 : decode cX12_vote 45 = .ok (.if_icmp .ne 28, 3) := by decide +kernel
theorem dX12_vote_48 : decode cX12_vote 48 = .ok (.iload 4, 2) := by decide +kernel
theorem dX12_vote_50 : decode cX12_vote 50 = .ok (.iload 5, 2) := by decide +kernel
theorem dX12_vote_52 : decode cX12_vote 52 = .ok (.if_icmp .ne 8, 3) := by decide +kernel
theorem dX12_vote_55 : decode cX12_vote 55 = .ok (.bipush (-2), 2) := by decide +kernel
theorem dX12_vote_57 : decode cX12_vote 57 = .ok (.goto 15, 3) := by decide +kernel
theorem dX12_vote_60 : decode cX12_vote 60 = .ok (.iload 4, 2) := by decide +kernel
theorem dX12_vote_62 : decode cX12_vote 62 = .ok (.iload 5, 2) := by decide +kernel
theorem dX12_vote_64 : decode cX12_vote 64 = .ok (.if_icmp .le 7, 3) := by decide +kernel
theorem dX12_vote_67 : decode cX12_vote 67 = .ok (.iconst 1, 1) := by decide +kernel
theorem dX12_vote_68 : decode cX12_vote 68 = .ok (.goto 4, 3) := by decide +kernel
theorem dX12_vote_71 : decode cX12_vote 71 = .ok (.iconst 0, 1) := by decide +kernel
theorem dX12_vote_72 : decode cX12_vote 72 = .ok (.ireturn, 1) := by decide +kernel
theorem dX12_vote_73 : decode cX12_vote 73 = .ok (.iload_n 3, 1) := by decide +kernel
theorem dX12_vote_74 : decode cX12_vote 74 = .ok (.ifCond .ne 8, 3) := by decide +kernel
theorem dX12_vote_77 : decode cX12_vote 77 = .ok (.iload 4, 2) := by decide +kernel
theorem dX12_vote_79 : decode cX12_vote 79 = .ok (.goto 5, 3) := by decide +kernel
theorem dX12_vote_82 : decode cX12_vote 82 = .ok (.iload 5, 2) := by decide +kernel
theorem dX12_vote_84 : decode cX12_vote 84 = .ok (.ireturn, 1) := by decide +kernel
theorem rX12_vote : (∀ (d : Nat) (a0 a2 a3 a4 a5 : Value) (x : Int32) (st : List Value) (h : fk_H), fk_ev d qX12_vote 0 [a0, .int x, a2, a3, a4, a5] st h = fk_ev d qX12_vote 1 [a0, .int x, a2, a3, a4, a5] (.int x :: st) h) ∧
  (∀ (d : Nat) (L : List Value) (x0 : Int32)  (h : fk_H), fk_ev (d + 1) qX12_vote 1 L (.int x0 :: []) h = (fk_ev d qX12_isOne 0 [.int x0] [] h).bind fun o => fk_ev (d + 1) qX12_vote 4 L (o.1.toList ++ []) o.2) ∧
  (∀ (d : Nat) (L : List Value) (x : Int32) (st : List Value) (h : fk_H), fk_ev d qX12_vote 4 L (.int x :: st) h = if x = nI 0 then fk_ev d qX12_vote 23 L st h else fk_ev d qX12_vote 7 L st h) ∧
  (∀ (d : Nat) (a0 a1 a3 a4 a5 : Value) (x : Int32) (st : List Value) (h : fk_H), fk_ev d qX12_vote 7 [a0, a1, .int x, a3, a4, a5] st h = fk_ev d qX12_vote 8 [a0, a1, .int x, a3, a4, a5] (.int x :: st) h) ∧
  (∀ (d : Nat) (L : List Value) (x0 : Int32)  (h : fk_H), fk_ev (d + 1) qX12_vote 8 L (.int x0 :: []) h = (fk_ev d qX12_isFact 0 [.int x0] [] h).bind fun o => fk_ev (d + 1) qX12_vote 11 L (o.1.toList ++ []) o.2) ∧
  (∀ (d : Nat) (L : List Value) (x : Int32) (st : List Value) (h : fk_H), fk_ev d qX12_vote 11 L (.int x :: st) h = if x = nI 0 then fk_ev d qX12_vote 23 L st h else fk_ev d qX12_vote 14 L st h) ∧
  (∀ (d : Nat) (a0 a1 a2 a4 a5 : Value) (x : Int32) (st : List Value) (h : fk_H), fk_ev d qX12_vote 14 [a0, a1, a2, .int x, a4, a5] st h = fk_ev d qX12_vote 15 [a0, a1, a2, .int x, a4, a5] (.int x :: st) h) ∧
  (∀ (d : Nat) (L st : List Value) (h : fk_H), fk_ev d qX12_vote 15 L st h = fk_ev d qX12_vote 16 L (.int (nI 0) :: st) h) ∧
  (∀ (d : Nat) (L st : List Value) (h : fk_H), fk_ev d qX12_vote 16 L st h = fk_ev d qX12_vote 17 L (.int (nI 2) :: st) h) ∧
  (∀ (d : Nat) (L : List Value) (x0 : Int32) (x1 : Int32) (x2 : Int32)  (h : fk_H), fk_ev (d + 1) qX12_vote 17 L (.int x2 :: .int x1 :: .int x0 :: []) h = (fk_ev d qX12_in 0 [.int x0, .int x1, .int x2] [] h).bind fun o => fk_ev (d + 1) qX12_vote 20 L (o.1.toList ++ []) o.2) ∧
  (∀ (d : Nat) (L : List Value) (x : Int32) (st : List Value) (h : fk_H), fk_ev d qX12_vote 20 L (.int x :: st) h = if ¬ x = nI 0 then fk_ev d qX12_vote 25 L st h else fk_ev d qX12_vote 23 L st h) ∧
  (∀ (d : Nat) (L st : List Value) (h : fk_H), fk_ev d qX12_vote 23 L st h = fk_ev d qX12_vote 24 L (.int ((-1 : Int32)) :: st) h) ∧
  (∀ (d : Nat) (L : List Value) (x : Int32) (h : fk_H), fk_ev d qX12_vote 24 L [.int x] h = some (some (.int x), h)) ∧
  (∀ (d : Nat) (a1 a2 a3 a4 a5 : Value) (x : Nat) (st : List Value) (h : fk_H), fk_ev d qX12_vote 25 [.ref x, a1, a2, a3, a4, a5] st h = fk_ev d qX12_vote 26 [.ref x, a1, a2, a3, a4, a5] (.ref x :: st) h) ∧
  (∀ (d : Nat) (a0 a2 a3 a4 a5 : Value) (x : Int32) (st : List Value) (h : fk_H), fk_ev d qX12_vote 26 [a0, .int x, a2, a3, a4, a5] st h = fk_ev d qX12_vote 27 [a0, .int x, a2, a3, a4, a5] (.int x :: st) h) ∧
  (∀ (d : Nat) (a0 a1 a3 a4 a5 : Value) (x : Int32) (st : List Value) (h : fk_H), fk_ev d qX12_vote 27 [a0, a1, .int x, a3, a4, a5] st h = fk_ev d qX12_vote 28 [a0, a1, .int x, a3, a4, a5] (.int x :: st) h) ∧
  (∀ (d : Nat) (L st : List Value) (h : fk_H), fk_ev d qX12_vote 28 L st h = fk_ev d qX12_vote 29 L (.int (nI 1) :: st) h) ∧
  (∀ (d : Nat) (L : List Value) (x0 : Int32) (x1 : Int32) (x2 : Int32)  (N : Nat) (y : Nat → Nat → Int32) (l : Nat → Nat → Int64), fk_ev (d + 1) qX12_vote 29 L (.int x2 :: .int x1 :: .int x0 :: .ref 246 :: []) (fk_E N y l) = (fk_ev d qX12_weightFor 0 [.ref 246, .int x0, .int x1, .int x2, .null, .null] [] (fk_E N y l)).bind fun o => fk_ev (d + 1) qX12_vote 32 L (o.1.toList ++ []) o.2) ∧
  (∀ (d : Nat) (a0 a1 a2 a3 a4 a5 : Value) (x : Int32) (st : List Value) (h : fk_H), fk_ev d qX12_vote 32 [a0, a1, a2, a3, a4, a5] (.int x :: st) h = fk_ev d qX12_vote 34 [a0, a1, a2, a3, .int x, a5] st h) ∧
  (∀ (d : Nat) (a1 a2 a3 a4 a5 : Value) (x : Nat) (st : List Value) (h : fk_H), fk_ev d qX12_vote 34 [.ref x, a1, a2, a3, a4, a5] st h = fk_ev d qX12_vote 35 [.ref x, a1, a2, a3, a4, a5] (.ref x :: st) h) ∧
  (∀ (d : Nat) (a0 a2 a3 a4 a5 : Value) (x : Int32) (st : List Value) (h : fk_H), fk_ev d qX12_vote 35 [a0, .int x, a2, a3, a4, a5] st h = fk_ev d qX12_vote 36 [a0, .int x, a2, a3, a4, a5] (.int x :: st) h) ∧
  (∀ (d : Nat) (a0 a1 a3 a4 a5 : Value) (x : Int32) (st : List Value) (h : fk_H), fk_ev d qX12_vote 36 [a0, a1, .int x, a3, a4, a5] st h = fk_ev d qX12_vote 37 [a0, a1, .int x, a3, a4, a5] (.int x :: st) h) ∧
  (∀ (d : Nat) (L st : List Value) (h : fk_H), fk_ev d qX12_vote 37 L st h = fk_ev d qX12_vote 38 L (.int (nI 0) :: st) h) ∧
  (∀ (d : Nat) (L : List Value) (x0 : Int32) (x1 : Int32) (x2 : Int32)  (N : Nat) (y : Nat → Nat → Int32) (l : Nat → Nat → Int64), fk_ev (d + 1) qX12_vote 38 L (.int x2 :: .int x1 :: .int x0 :: .ref 246 :: []) (fk_E N y l) = (fk_ev d qX12_weightFor 0 [.ref 246, .int x0, .int x1, .int x2, .null, .null] [] (fk_E N y l)).bind fun o => fk_ev (d + 1) qX12_vote 41 L (o.1.toList ++ []) o.2) ∧
  (∀ (d : Nat) (a0 a1 a2 a3 a4 a5 : Value) (x : Int32) (st : List Value) (h : fk_H), fk_ev d qX12_vote 41 [a0, a1, a2, a3, a4, a5] (.int x :: st) h = fk_ev d qX12_vote 43 [a0, a1, a2, a3, a4, .int x] st h) ∧
  (∀ (d : Nat) (a0 a1 a2 a4 a5 : Value) (x : Int32) (st : List Value) (h : fk_H), fk_ev d qX12_vote 43 [a0, a1, a2, .int x, a4, a5] st h = fk_ev d qX12_vote 44 [a0, a1, a2, .int x, a4, a5] (.int x :: st) h) ∧
  (∀ (d : Nat) (L st : List Value) (h : fk_H), fk_ev d qX12_vote 44 L st h = fk_ev d qX12_vote 45 L (.int (nI 2) :: st) h) ∧
  (∀ (d : Nat) (L : List Value) (x y : Int32) (st : List Value) (h : fk_H), fk_ev d qX12_vote 45 L (.int y :: .int x :: st) h = if ¬ x = y then fk_ev d qX12_vote 73 L st h else fk_ev d qX12_vote 48 L st h) ∧
  (∀ (d : Nat) (a0 a1 a2 a3 a5 : Value) (x : Int32) (st : List Value) (h : fk_H), fk_ev d qX12_vote 48 [a0, a1, a2, a3, .int x, a5] st h = fk_ev d qX12_vote 50 [a0, a1, a2, a3, .int x, a5] (.int x :: st) h) ∧
  (∀ (d : Nat) (a0 a1 a2 a3 a4 : Value) (x : Int32) (st : List Value) (h : fk_H), fk_ev d qX12_vote 50 [a0, a1, a2, a3, a4, .int x] st h = fk_ev d qX12_vote 52 [a0, a1, a2, a3, a4, .int x] (.int x :: st) h) ∧
  (∀ (d : Nat) (L : List Value) (x y : Int32) (st : List Value) (h : fk_H), fk_ev d qX12_vote 52 L (.int y :: .int x :: st) h = if ¬ x = y then fk_ev d qX12_vote 60 L st h else fk_ev d qX12_vote 55 L st h) ∧
  (∀ (d : Nat) (L st : List Value) (h : fk_H), fk_ev d qX12_vote 55 L st h = fk_ev d qX12_vote 57 L (.int ((-2 : Int32)) :: st) h) ∧
  (∀ (d : Nat) (L st : List Value) (h : fk_H), fk_ev d qX12_vote 57 L st h = fk_ev d qX12_vote 72 L st h) ∧
  (∀ (d : Nat) (a0 a1 a2 a3 a5 : Value) (x : Int32) (st : List Value) (h : fk_H), fk_ev d qX12_vote 60 [a0, a1, a2, a3, .int x, a5] st h = fk_ev d qX12_vote 62 [a0, a1, a2, a3, .int x, a5] (.int x :: st) h) ∧
  (∀ (d : Nat) (a0 a1 a2 a3 a4 : Value) (x : Int32) (st : List Value) (h : fk_H), fk_ev d qX12_vote 62 [a0, a1, a2, a3, a4, .int x] st h = fk_ev d qX12_vote 64 [a0, a1, a2, a3, a4, .int x] (.int x :: st) h) ∧
  (∀ (d : Nat) (L : List Value) (x y : Int32) (st : List Value) (h : fk_H), fk_ev d qX12_vote 64 L (.int y :: .int x :: st) h = if x ≤ y then fk_ev d qX12_vote 71 L st h else fk_ev d qX12_vote 67 L st h) ∧
  (∀ (d : Nat) (L st : List Value) (h : fk_H), fk_ev d qX12_vote 67 L st h = fk_ev d qX12_vote 68 L (.int (nI 1) :: st) h) ∧
  (∀ (d : Nat) (L st : List Value) (h : fk_H), fk_ev d qX12_vote 68 L st h = fk_ev d qX12_vote 72 L st h) ∧
  (∀ (d : Nat) (L st : List Value) (h : fk_H), fk_ev d qX12_vote 71 L st h = fk_ev d qX12_vote 72 L (.int (nI 0) :: st) h) ∧
  (∀ (d : Nat) (L : List Value) (x : Int32) (h : fk_H), fk_ev d qX12_vote 72 L [.int x] h = some (some (.int x), h)) ∧
  (∀ (d : Nat) (a0 a1 a2 a4 a5 : Value) (x : Int32) (st : List Value) (h : fk_H), fk_ev d qX12_vote 73 [a0, a1, a2, .int x, a4, a5] st h = fk_ev d qX12_vote 74 [a0, a1, a2, .int x, a4, a5] (.int x :: st) h) ∧
  (∀ (d : Nat) (L : List Value) (x : Int32) (st : List Value) (h : fk_H), fk_ev d qX12_vote 74 L (.int x :: st) h = if ¬ x = nI 0 then fk_ev d qX12_vote 82 L st h else fk_ev d qX12_vote 77 L st h) ∧
  (∀ (d : Nat) (a0 a1 a2 a3 a5 : Value) (x : Int32) (st : List Value) (h : fk_H), fk_ev d qX12_vote 77 [a0, a1, a2, a3, .int x, a5] st h = fk_ev d qX12_vote 79 [a0, a1, a2, a3, .int x, a5] (.int x :: st) h) ∧
  (∀ (d : Nat) (L st : List Value) (h : fk_H), fk_ev d qX12_vote 79 L st h = fk_ev d qX12_vote 84 L st h) ∧
  (∀ (d : Nat) (a0 a1 a2 a3 a4 : Value) (x : Int32) (st : List Value) (h : fk_H), fk_ev d qX12_vote 82 [a0, a1, a2, a3, a4, .int x] st h = fk_ev d qX12_vote 84 [a0, a1, a2, a3, a4, .int x] (.int x :: st) h) ∧
  (∀ (d : Nat) (L : List Value) (x : Int32) (h : fk_H), fk_ev d qX12_vote 84 L [.int x] h = some (some (.int x), h)) := ⟨fun d a0 a2 a3 a4 a5 x st h => fk_w_iloadn 1 [a0, .int x, a2, a3, a4, a5] dX12_vote_0 rfl,
  fun d L x0 h => fk_g_calls [.int x0] [] rfl lm_12_132 dX12_vote_1 rfl ⟨rfl, by decide⟩ (by simp),
  fun d L x st h => fk_r_if_eq dX12_vote_4 (by decide),
  fun d a0 a1 a3 a4 a5 x st h => fk_w_iloadn 2 [a0, a1, .int x, a3, a4, a5] dX12_vote_7 rfl,
  fun d L x0 h => fk_g_calls [.int x0] [] rfl lm_12_120 dX12_vote_8 rfl ⟨rfl, by decide⟩ (by simp),
  fun d L x st h => fk_r_if_eq dX12_vote_11 (by decide),
  fun d a0 a1 a2 a4 a5 x st h => fk_w_iloadn 3 [a0, a1, a2, .int x, a4, a5] dX12_vote_14 rfl,
  fun d L st h => fk_w_iconst dX12_vote_15 (by decide),
  fun d L st h => fk_w_iconst dX12_vote_16 (by decide),
  fun d L x0 x1 x2 h => fk_g_calls [.int x0, .int x1, .int x2] [] rfl lm_12_112 dX12_vote_17 rfl ⟨rfl, by decide⟩ (by simp),
  fun d L x st h => fk_r_if_ne dX12_vote_20 (by decide),
  fun d L st h => fk_w_iconst dX12_vote_23 (by decide),
  fun d L x h => fk_r_ret dX12_vote_24 (Or.inl rfl),
  fun d a1 a2 a3 a4 a5 x st h => fk_w_aloadn 0 [.ref x, a1, a2, a3, a4, a5] dX12_vote_25 rfl,
  fun d a0 a2 a3 a4 a5 x st h => fk_w_iloadn 1 [a0, .int x, a2, a3, a4, a5] dX12_vote_26 rfl,
  fun d a0 a1 a3 a4 a5 x st h => fk_w_iloadn 2 [a0, a1, .int x, a3, a4, a5] dX12_vote_27 rfl,
  fun d L st h => fk_w_iconst dX12_vote_28 (by decide),
  fun d L x0 x1 x2 N y l  => fk_g_call [.int x0, .int x1, .int x2] [] rfl lm_12_418 dX12_vote_29 rfl ⟨rfl, by decide⟩ (by simp) fk_at_246,
  fun d a0 a1 a2 a3 a4 a5 x st h => fk_w_istore 4 6 [] [a0, a1, a2, a3, a4, a5] [a0, a1, a2, a3, .int x, a5] dX12_vote_32 rfl rfl (by decide) rfl,
  fun d a1 a2 a3 a4 a5 x st h => fk_w_aloadn 0 [.ref x, a1, a2, a3, a4, a5] dX12_vote_34 rfl,
  fun d a0 a2 a3 a4 a5 x st h => fk_w_iloadn 1 [a0, .int x, a2, a3, a4, a5] dX12_vote_35 rfl,
  fun d a0 a1 a3 a4 a5 x st h => fk_w_iloadn 2 [a0, a1, .int x, a3, a4, a5] dX12_vote_36 rfl,
  fun d L st h => fk_w_iconst dX12_vote_37 (by decide),
  fun d L x0 x1 x2 N y l  => fk_g_call [.int x0, .int x1, .int x2] [] rfl lm_12_418 dX12_vote_38 rfl ⟨rfl, by decide⟩ (by simp) fk_at_246,
  fun d a0 a1 a2 a3 a4 a5 x st h => fk_w_istore 5 6 [] [a0, a1, a2, a3, a4, a5] [a0, a1, a2, a3, a4, .int x] dX12_vote_41 rfl rfl (by decide) rfl,
  fun d a0 a1 a2 a4 a5 x st h => fk_w_iloadn 3 [a0, a1, a2, .int x, a4, a5] dX12_vote_43 rfl,
  fun d L st h => fk_w_iconst dX12_vote_44 (by decide),
  fun d L x y st h => fk_r_icmp_ne dX12_vote_45 (by decide),
  fun d a0 a1 a2 a3 a5 x st h => fk_w_iload 4 [a0, a1, a2, a3, .int x, a5] dX12_vote_48 rfl,
  fun d a0 a1 a2 a3 a4 x st h => fk_w_iload 5 [a0, a1, a2, a3, a4, .int x] dX12_vote_50 rfl,
  fun d L x y st h => fk_r_icmp_ne dX12_vote_52 (by decide),
  fun d L st h => fk_w_bipush dX12_vote_55 (by decide),
  fun d L st h => fk_r_goto dX12_vote_57 (by decide),
  fun d a0 a1 a2 a3 a5 x st h => fk_w_iload 4 [a0, a1, a2, a3, .int x, a5] dX12_vote_60 rfl,
  fun d a0 a1 a2 a3 a4 x st h => fk_w_iload 5 [a0, a1, a2, a3, a4, .int x] dX12_vote_62 rfl,
  fun d L x y st h => fk_r_icmp_le dX12_vote_64 (by decide),
  fun d L st h => fk_w_iconst dX12_vote_67 (by decide),
  fun d L st h => fk_r_goto dX12_vote_68 (by decide),
  fun d L st h => fk_w_iconst dX12_vote_71 (by decide),
  fun d L x h => fk_r_ret dX12_vote_72 (Or.inl rfl),
  fun d a0 a1 a2 a4 a5 x st h => fk_w_iloadn 3 [a0, a1, a2, .int x, a4, a5] dX12_vote_73 rfl,
  fun d L x st h => fk_r_if_ne dX12_vote_74 (by decide),
  fun d a0 a1 a2 a3 a5 x st h => fk_w_iload 4 [a0, a1, a2, a3, .int x, a5] dX12_vote_77 rfl,
  fun d L st h => fk_r_goto dX12_vote_79 (by decide),
  fun d a0 a1 a2 a3 a4 x st h => fk_w_iload 5 [a0, a1, a2, a3, a4, .int x] dX12_vote_82 rfl,
  fun d L x h => fk_r_ret dX12_vote_84 (Or.inl rfl)⟩
theorem dX12_seed_0 : decode cX12_seed 0 = .ok (.iload_n 1, 1) := by decide +kernel
theorem dX12_seed_1 : decode cX12_seed 1 = .ok (.iconst 0, 1) := by decide +kernel
theorem dX12_seed_2 : decode cX12_seed 2 = .ok (.ldc_w 360, 3) := by decide +kernel
theorem dX12_seed_5 : decode cX12_seed 5 = .ok (.invokestatic 112, 3) := by decide +kernel
theorem dX12_seed_8 : decode cX12_seed 8 = .ok (.ifCond .ne 5, 3) := by decide +kernel
theorem dX12_seed_11 : decode cX12_seed 11 = .ok (.iconst 0, 1) := by decide +kernel
theorem dX12_seed_12 : decode cX12_seed 12 = .ok (.ireturn, 1) := by decide +kernel
theorem dX12_seed_13 : decode cX12_seed 13 = .ok (.aload_n 0, 1) := by decide +kernel
theorem dX12_seed_14 : decode cX12_seed 14 = .ok (.getfield 7, 3) := by decide +kernel
theorem dX12_seed_17 : decode cX12_seed 17 = .ok (.sipush 834, 3) := by decide +kernel
theorem dX12_seed_20 : decode cX12_seed 20 = .ok (.iload_n 1, 1) := by decide +kernel
theorem dX12_seed_21 : decode cX12_seed 21 = .ok (.iastore, 1) := by decide +kernel
theorem dX12_seed_22 : decode cX12_seed 22 = .ok (.iconst 1, 1) := by decide +kernel
theorem dX12_seed_23 : decode cX12_seed 23 = .ok (.ireturn, 1) := by decide +kernel
theorem rX12_seed : (∀ (d : Nat) (a0 : Value) (x : Int32) (st : List Value) (h : fk_H), fk_ev d qX12_seed 0 [a0, .int x] st h = fk_ev d qX12_seed 1 [a0, .int x] (.int x :: st) h) ∧
  (∀ (d : Nat) (L st : List Value) (h : fk_H), fk_ev d qX12_seed 1 L st h = fk_ev d qX12_seed 2 L (.int (nI 0) :: st) h) ∧
  (∀ (d : Nat) (L st : List Value) (h : fk_H), fk_ev d qX12_seed 2 L st h = fk_ev d qX12_seed 5 L (.int (nI 65535) :: st) h) ∧
  (∀ (d : Nat) (L : List Value) (x0 : Int32) (x1 : Int32) (x2 : Int32)  (h : fk_H), fk_ev (d + 1) qX12_seed 5 L (.int x2 :: .int x1 :: .int x0 :: []) h = (fk_ev d qX12_in 0 [.int x0, .int x1, .int x2] [] h).bind fun o => fk_ev (d + 1) qX12_seed 8 L (o.1.toList ++ []) o.2) ∧
  (∀ (d : Nat) (L : List Value) (x : Int32) (st : List Value) (h : fk_H), fk_ev d qX12_seed 8 L (.int x :: st) h = if ¬ x = nI 0 then fk_ev d qX12_seed 13 L st h else fk_ev d qX12_seed 11 L st h) ∧
  (∀ (d : Nat) (L st : List Value) (h : fk_H), fk_ev d qX12_seed 11 L st h = fk_ev d qX12_seed 12 L (.int (nI 0) :: st) h) ∧
  (∀ (d : Nat) (L : List Value) (h : fk_H), fk_ev d qX12_seed 12 L [.int (nI 0)] h = some (some (.int (nI 0)), h)) ∧
  (∀ (d : Nat) (L : List Value) (h : fk_H), fk_ev d qX12_seed 12 L [.int (nI 1)] h = some (some (.int (nI 1)), h)) ∧
  (∀ (d : Nat) (L : List Value) (p : Prop) [Decidable p] (h : fk_H), fk_ev d qX12_seed 12 L [.int (fk_b p)] h = some (some (.int (fk_b p)), h)) ∧
  (∀ (d : Nat) (L : List Value) (x : Int32) (h : fk_H), (x = nI 0 ∨ x = nI 1) → fk_ev d qX12_seed 12 L [.int x] h = some (some (.int x), h)) ∧
  (∀ (d : Nat) (a1 : Value) (x : Nat) (st : List Value) (h : fk_H), fk_ev d qX12_seed 13 [.ref x, a1] st h = fk_ev d qX12_seed 14 [.ref x, a1] (.ref x :: st) h) ∧
  (∀ (d : Nat) (L st : List Value) (N : Nat) (y : Nat → Nat → Int32) (l : Nat → Nat → Int64), fk_ev d qX12_seed 14 L (.ref 246 :: st) (fk_E N y l) = fk_ev d qX12_seed 17 L (.ref 247 :: st) (fk_E N y l)) ∧
  (∀ (d : Nat) (L st : List Value) (h : fk_H), fk_ev d qX12_seed 17 L st h = fk_ev d qX12_seed 20 L (.int (nI 834) :: st) h) ∧
  (∀ (d : Nat) (a0 : Value) (x : Int32) (st : List Value) (h : fk_H), fk_ev d qX12_seed 20 [a0, .int x] st h = fk_ev d qX12_seed 21 [a0, .int x] (.int x :: st) h) ∧
  (∀ (d : Nat) (L st : List Value) (N : Nat) (y : Nat → Nat → Int32) (l : Nat → Nat → Int64) (i : Nat) (v : Int32), i < 3912 → fk_ev d qX12_seed 21 L (.int v :: .int (nI i) :: .ref 247 :: st) (fk_E N y l) = fk_ev d qX12_seed 22 L st (fk_E N (fk_u y 247 i v) l)) ∧
  (∀ (d : Nat) (L st : List Value) (h : fk_H), fk_ev d qX12_seed 22 L st h = fk_ev d qX12_seed 23 L (.int (nI 1) :: st) h) ∧
  (∀ (d : Nat) (L : List Value) (h : fk_H), fk_ev d qX12_seed 23 L [.int (nI 0)] h = some (some (.int (nI 0)), h)) ∧
  (∀ (d : Nat) (L : List Value) (h : fk_H), fk_ev d qX12_seed 23 L [.int (nI 1)] h = some (some (.int (nI 1)), h)) ∧
  (∀ (d : Nat) (L : List Value) (p : Prop) [Decidable p] (h : fk_H), fk_ev d qX12_seed 23 L [.int (fk_b p)] h = some (some (.int (fk_b p)), h)) ∧
  (∀ (d : Nat) (L : List Value) (x : Int32) (h : fk_H), (x = nI 0 ∨ x = nI 1) → fk_ev d qX12_seed 23 L [.int x] h = some (some (.int x), h)) := ⟨fun d a0 x st h => fk_w_iloadn 1 [a0, .int x] dX12_seed_0 rfl,
  fun d L st h => fk_w_iconst dX12_seed_1 (by decide),
  fun d L st h => fk_g_ldcw rfl lc_12_360 (by decide) dX12_seed_2,
  fun d L x0 x1 x2 h => fk_g_calls [.int x0, .int x1, .int x2] [] rfl lm_12_112 dX12_seed_5 rfl ⟨rfl, by decide⟩ (by simp),
  fun d L x st h => fk_r_if_ne dX12_seed_8 (by decide),
  fun d L st h => fk_w_iconst dX12_seed_11 (by decide),
  fun d L h => fk_r_ret dX12_seed_12 (Or.inr (Or.inl ⟨rfl, by decide⟩)),
  fun d L h => fk_r_ret dX12_seed_12 (Or.inr (Or.inl ⟨rfl, by decide⟩)),
  fun d L p _ h => fk_r_ret dX12_seed_12 (Or.inr (Or.inl ⟨rfl, fk_b_01⟩)),
  fun d L x h hx => fk_r_ret dX12_seed_12 (Or.inr (Or.inl ⟨rfl, hx⟩)),
  fun d a1 x st h => fk_w_aloadn 0 [.ref x, a1] dX12_seed_13 rfl,
  fun d L st N y l => fk_g_getC rfl lf_12_7 (by decide) rfl dX12_seed_14 fk_at_246,
  fun d L st h => fk_w_sipush dX12_seed_17 (by decide),
  fun d a0 x st h => fk_w_iloadn 1 [a0, .int x] dX12_seed_20 rfl,
  fun d L st N y l i v hi => fk_g_iast fk_at_247 fk_ln_247 (by decide) dX12_seed_21 hi,
  fun d L st h => fk_w_iconst dX12_seed_22 (by decide),
  fun d L h => fk_r_ret dX12_seed_23 (Or.inr (Or.inl ⟨rfl, by decide⟩)),
  fun d L h => fk_r_ret dX12_seed_23 (Or.inr (Or.inl ⟨rfl, by decide⟩)),
  fun d L p _ h => fk_r_ret dX12_seed_23 (Or.inr (Or.inl ⟨rfl, fk_b_01⟩)),
  fun d L x h hx => fk_r_ret dX12_seed_23 (Or.inr (Or.inl ⟨rfl, hx⟩))⟩
theorem dX12_keep_0 : decode cX12_keep 0 = .ok (.aload_n 0, 1) := by decide +kernel
theorem dX12_keep_1 : decode cX12_keep 1 = .ok (.iconst 1, 1) := by decide +kernel
theorem dX12_keep_2 : decode cX12_keep 2 = .ok (.putfield 422, 3) := by decide +kernel
theorem dX12_keep_5 : decode cX12_keep 5 = .ok (.aload_n 0, 1) := by decide +kernel
theorem dX12_keep_6 : decode cX12_keep 6 = .ok (.getfield 7, 3) := by decide +kernel
theorem dX12_keep_9 : decode cX12_keep 9 = .ok (.aload_n 0, 1) := by decide +kernel
theorem dX12_keep_10 : decode cX12_keep 10 = .ok (.getfield 16, 3) := by decide +kernel
theorem dX12_keep_13 : decode cX12_keep 13 = .ok (.invokestatic 101, 3) := by decide +kernel
theorem dX12_keep_16 : decode cX12_keep 16 = .ok (.aload_n 0, 1) := by decide +kernel
theorem dX12_keep_17 : decode cX12_keep 17 = .ok (.invokevirtual 325, 3) := by decide +kernel
theorem dX12_keep_20 : decode cX12_keep 20 = .ok (.ireturn, 1) := by decide +kernel
theorem rX12_keep : (∀ (d : Nat) (x : Nat) (st : List Value) (h : fk_H), fk_ev d qX12_keep 0 [.ref x] st h = fk_ev d qX12_keep 1 [.ref x] (.ref x :: st) h) ∧
  (∀ (d : Nat) (L st : List Value) (h : fk_H), fk_ev d qX12_keep 1 L st h = fk_ev d qX12_keep 2 L (.int (nI 1) :: st) h) ∧
  (∀ (d : Nat) (L st : List Value) (N : Nat) (y : Nat → Nat → Int32) (l : Nat → Nat → Int64), fk_ev d qX12_keep 2 L (.int (nI 0) :: .ref 246 :: st) (fk_E N y l) = fk_ev d qX12_keep 5 L st (fk_E N (fk_u y 246 49 (nI 0)) l)) ∧
  (∀ (d : Nat) (L st : List Value) (N : Nat) (y : Nat → Nat → Int32) (l : Nat → Nat → Int64), fk_ev d qX12_keep 2 L (.int (nI 1) :: .ref 246 :: st) (fk_E N y l) = fk_ev d qX12_keep 5 L st (fk_E N (fk_u y 246 49 (nI 1)) l)) ∧
  (∀ (d : Nat) (L st : List Value) (N : Nat) (y : Nat → Nat → Int32) (l : Nat → Nat → Int64) (v : Int32), (v = nI 0 ∨ v = nI 1) → fk_ev d qX12_keep 2 L (.int v :: .ref 246 :: st) (fk_E N y l) = fk_ev d qX12_keep 5 L st (fk_E N (fk_u y 246 49 v) l)) ∧
  (∀ (d : Nat) (x : Nat) (st : List Value) (h : fk_H), fk_ev d qX12_keep 5 [.ref x] st h = fk_ev d qX12_keep 6 [.ref x] (.ref x :: st) h) ∧
  (∀ (d : Nat) (L st : List Value) (N : Nat) (y : Nat → Nat → Int32) (l : Nat → Nat → Int64), fk_ev d qX12_keep 6 L (.ref 246 :: st) (fk_E N y l) = fk_ev d qX12_keep 9 L (.ref 247 :: st) (fk_E N y l)) ∧
  (∀ (d : Nat) (x : Nat) (st : List Value) (h : fk_H), fk_ev d qX12_keep 9 [.ref x] st h = fk_ev d qX12_keep 10 [.ref x] (.ref x :: st) h) ∧
  (∀ (d : Nat) (L st : List Value) (N : Nat) (y : Nat → Nat → Int32) (l : Nat → Nat → Int64), fk_ev d qX12_keep 10 L (.ref 246 :: st) (fk_E N y l) = fk_ev d qX12_keep 13 L (.ref 249 :: st) (fk_E N y l)) ∧
  (∀ (d : Nat) (L : List Value) (x0 : Nat) (x1 : Nat)  (h : fk_H), fk_ev (d + 1) qX12_keep 13 L (.ref x1 :: .ref x0 :: []) h = (fk_ev d qX12_copies 0 [.ref x0, .ref x1, .null] [] h).bind fun o => fk_ev (d + 1) qX12_keep 16 L (o.1.toList ++ []) o.2) ∧
  (∀ (d : Nat) (x : Nat) (st : List Value) (h : fk_H), fk_ev d qX12_keep 16 [.ref x] st h = fk_ev d qX12_keep 17 [.ref x] (.ref x :: st) h) ∧
  (∀ (d : Nat) (L : List Value)   (N : Nat) (y : Nat → Nat → Int32) (l : Nat → Nat → Int64), fk_ev (d + 1) qX12_keep 17 L (.ref 246 :: []) (fk_E N y l) = (fk_ev d qX12_living 0 [.ref 246, .null, .null] [] (fk_E N y l)).bind fun o => fk_ev (d + 1) qX12_keep 20 L (o.1.toList ++ []) o.2) ∧
  (∀ (d : Nat) (L : List Value) (x : Int32) (h : fk_H), fk_ev d qX12_keep 20 L [.int x] h = some (some (.int x), h)) := ⟨fun d  x st h => fk_w_aloadn 0 [.ref x] dX12_keep_0 rfl,
  fun d L st h => fk_w_iconst dX12_keep_1 (by decide),
  fun d L st N y l => fk_g_putI rfl lf_12_422 (by decide) dX12_keep_2 rfl fk_at_246,
  fun d L st N y l => fk_g_putI rfl lf_12_422 (by decide) dX12_keep_2 rfl fk_at_246,
  fun d L st N y l v hv => fk_g_putI rfl lf_12_422 (by decide) dX12_keep_2 (by rcases hv with rfl | rfl <;> rfl) fk_at_246,
  fun d  x st h => fk_w_aloadn 0 [.ref x] dX12_keep_5 rfl,
  fun d L st N y l => fk_g_getC rfl lf_12_7 (by decide) rfl dX12_keep_6 fk_at_246,
  fun d  x st h => fk_w_aloadn 0 [.ref x] dX12_keep_9 rfl,
  fun d L st N y l => fk_g_getC rfl lf_12_16 (by decide) rfl dX12_keep_10 fk_at_246,
  fun d L x0 x1 h => fk_g_calls [.ref x0, .ref x1] [] rfl lm_12_101 dX12_keep_13 rfl ⟨rfl, by decide⟩ (by simp),
  fun d  x st h => fk_w_aloadn 0 [.ref x] dX12_keep_16 rfl,
  fun d L  N y l  => fk_g_call [] [] rfl lm_12_325 dX12_keep_17 rfl ⟨rfl, by decide⟩ (by simp) fk_at_246,
  fun d L x h => fk_r_ret dX12_keep_20 (Or.inl rfl)⟩
theorem dX12_undo_0 : decode cX12_undo 0 = .ok (.aload_n 0, 1) := by decide +kernel
theorem dX12_undo_1 : decode cX12_undo 1 = .ok (.getfield 422, 3) := by decide +kernel
theorem dX12_undo_4 : decode cX12_undo 4 = .ok (.ifCond .ne 5, 3) := by decide +kernel
theorem dX12_undo_7 : decode cX12_undo 7 = .ok (.iconst 0, 1) := by decide +kernel
theorem dX12_undo_8 : decode cX12_undo 8 = .ok (.ireturn, 1) := by decide +kernel
theorem dX12_undo_9 : decode cX12_undo 9 = .ok (.aload_n 0, 1) := by decide +kernel
theorem dX12_undo_10 : decode cX12_undo 10 = .ok (.getfield 16, 3) := by decide +kernel
theorem dX12_undo_13 : decode cX12_undo 13 = .ok (.aload_n 0, 1) := by decide +kernel
theorem dX12_undo_14 : decode cX12_undo 14 = .ok (.getfield 7, 3) := by decide +kernel
theorem dX12_undo_17 : decode cX12_undo 17 = .ok (.invokestatic 101, 3) := by decide +kernel
theorem dX12_undo_20 : decode cX12_undo 20 = .ok (.iconst 1, 1) := by decide +kernel
theorem dX12_undo_21 : decode cX12_undo 21 = .ok (.ireturn, 1) := by decide +kernel
theorem rX12_undo : (∀ (d : Nat) (x : Nat) (st : List Value) (h : fk_H), fk_ev d qX12_undo 0 [.ref x] st h = fk_ev d qX12_undo 1 [.ref x] (.ref x :: st) h) ∧
  (∀ (d : Nat) (L st : List Value) (N : Nat) (y : Nat → Nat → Int32) (l : Nat → Nat → Int64), fk_ev d qX12_undo 1 L (.ref 246 :: st) (fk_E N y l) = fk_ev d qX12_undo 4 L (.int (y 246 49) :: st) (fk_E N y l)) ∧
  (∀ (d : Nat) (L : List Value) (x : Int32) (st : List Value) (h : fk_H), fk_ev d qX12_undo 4 L (.int x :: st) h = if ¬ x = nI 0 then fk_ev d qX12_undo 9 L st h else fk_ev d qX12_undo 7 L st h) ∧
  (∀ (d : Nat) (L st : List Value) (h : fk_H), fk_ev d qX12_undo 7 L st h = fk_ev d qX12_undo 8 L (.int (nI 0) :: st) h) ∧
  (∀ (d : Nat) (L : List Value) (h : fk_H), fk_ev d qX12_undo 8 L [.int (nI 0)] h = some (some (.int (nI 0)), h)) ∧
  (∀ (d : Nat) (L : List Value) (h : fk_H), fk_ev d qX12_undo 8 L [.int (nI 1)] h = some (some (.int (nI 1)), h)) ∧
  (∀ (d : Nat) (L : List Value) (p : Prop) [Decidable p] (h : fk_H), fk_ev d qX12_undo 8 L [.int (fk_b p)] h = some (some (.int (fk_b p)), h)) ∧
  (∀ (d : Nat) (L : List Value) (x : Int32) (h : fk_H), (x = nI 0 ∨ x = nI 1) → fk_ev d qX12_undo 8 L [.int x] h = some (some (.int x), h)) ∧
  (∀ (d : Nat) (x : Nat) (st : List Value) (h : fk_H), fk_ev d qX12_undo 9 [.ref x] st h = fk_ev d qX12_undo 10 [.ref x] (.ref x :: st) h) ∧
  (∀ (d : Nat) (L st : List Value) (N : Nat) (y : Nat → Nat → Int32) (l : Nat → Nat → Int64), fk_ev d qX12_undo 10 L (.ref 246 :: st) (fk_E N y l) = fk_ev d qX12_undo 13 L (.ref 249 :: st) (fk_E N y l)) ∧
  (∀ (d : Nat) (x : Nat) (st : List Value) (h : fk_H), fk_ev d qX12_undo 13 [.ref x] st h = fk_ev d qX12_undo 14 [.ref x] (.ref x :: st) h) ∧
  (∀ (d : Nat) (L st : List Value) (N : Nat) (y : Nat → Nat → Int32) (l : Nat → Nat → Int64), fk_ev d qX12_undo 14 L (.ref 246 :: st) (fk_E N y l) = fk_ev d qX12_undo 17 L (.ref 247 :: st) (fk_E N y l)) ∧
  (∀ (d : Nat) (L : List Value) (x0 : Nat) (x1 : Nat)  (h : fk_H), fk_ev (d + 1) qX12_undo 17 L (.ref x1 :: .ref x0 :: []) h = (fk_ev d qX12_copies 0 [.ref x0, .ref x1, .null] [] h).bind fun o => fk_ev (d + 1) qX12_undo 20 L (o.1.toList ++ []) o.2) ∧
  (∀ (d : Nat) (L st : List Value) (h : fk_H), fk_ev d qX12_undo 20 L st h = fk_ev d qX12_undo 21 L (.int (nI 1) :: st) h) ∧
  (∀ (d : Nat) (L : List Value) (h : fk_H), fk_ev d qX12_undo 21 L [.int (nI 0)] h = some (some (.int (nI 0)), h)) ∧
  (∀ (d : Nat) (L : List Value) (h : fk_H), fk_ev d qX12_undo 21 L [.int (nI 1)] h = some (some (.int (nI 1)), h)) ∧
  (∀ (d : Nat) (L : List Value) (p : Prop) [Decidable p] (h : fk_H), fk_ev d qX12_undo 21 L [.int (fk_b p)] h = some (some (.int (fk_b p)), h)) ∧
  (∀ (d : Nat) (L : List Value) (x : Int32) (h : fk_H), (x = nI 0 ∨ x = nI 1) → fk_ev d qX12_undo 21 L [.int x] h = some (some (.int x), h)) := ⟨fun d  x st h => fk_w_aloadn 0 [.ref x] dX12_undo_0 rfl,
  fun d L st N y l => fk_g_getI rfl lf_12_422 (by decide) dX12_undo_1 fk_at_246,
  fun d L x st h => fk_r_if_ne dX12_undo_4 (by decide),
  fun d L st h => fk_w_iconst dX12_undo_7 (by decide),
  fun d L h => fk_r_ret dX12_undo_8 (Or.inr (Or.inl ⟨rfl, by decide⟩)),
  fun d L h => fk_r_ret dX12_undo_8 (Or.inr (Or.inl ⟨rfl, by decide⟩)),
  fun d L p _ h => fk_r_ret dX12_undo_8 (Or.inr (Or.inl ⟨rfl, fk_b_01⟩)),
  fun d L x h hx => fk_r_ret dX12_undo_8 (Or.inr (Or.inl ⟨rfl, hx⟩)),
  fun d  x st h => fk_w_aloadn 0 [.ref x] dX12_undo_9 rfl,
  fun d L st N y l => fk_g_getC rfl lf_12_16 (by decide) rfl dX12_undo_10 fk_at_246,
  fun d  x st h => fk_w_aloadn 0 [.ref x] dX12_undo_13 rfl,
  fun d L st N y l => fk_g_getC rfl lf_12_7 (by decide) rfl dX12_undo_14 fk_at_246,
  fun d L x0 x1 h => fk_g_calls [.ref x0, .ref x1] [] rfl lm_12_101 dX12_undo_17 rfl ⟨rfl, by decide⟩ (by simp),
  fun d L st h => fk_w_iconst dX12_undo_20 (by decide),
  fun d L h => fk_r_ret dX12_undo_21 (Or.inr (Or.inl ⟨rfl, by decide⟩)),
  fun d L h => fk_r_ret dX12_undo_21 (Or.inr (Or.inl ⟨rfl, by decide⟩)),
  fun d L p _ h => fk_r_ret dX12_undo_21 (Or.inr (Or.inl ⟨rfl, fk_b_01⟩)),
  fun d L x h hx => fk_r_ret dX12_undo_21 (Or.inr (Or.inl ⟨rfl, hx⟩))⟩
theorem dX12_tapeNumber_0 : decode cX12_tapeNumber 0 = .ok (.iconst 0, 1) := by decide +kernel
theorem dX12_tapeNumber_1 : decode cX12_tapeNumber 1 = .ok (.istore_n 2, 1) := by decide +kernel
theorem dX12_tapeNumber_2 : decode cX12_tapeNumber 2 = .ok (.iconst 4, 1) := by decide +kernel
theorem dX12_tapeNumber_3 : decode cX12_tapeNumber 3 = .ok (.iload_n 1, 1) := by decide +kernel
theorem dX12_tapeNumber_4 : decode cX12_tapeNumber 4 = .ok (.imul, 1) := by decide +kernel
theorem dX12_tapeNumber_5 : decode cX12_tapeNumber 5 = .ok (.istore_n 3, 1) := by decide +kernel
theorem dX12_tapeNumber_6 : decode cX12_tapeNumber 6 = .ok (.iload_n 3, 1) := by decide +kernel
theorem dX12_tapeNumber_7 : decode cX12_tapeNumber 7 = .ok (.iconst 4, 1) := by decide +kernel
theorem dX12_tapeNumber_8 : decode cX12_tapeNumber 8 = .ok (.iload_n 1, 1) := by decide +kernel
theorem dX12_tapeNumber_9 : decode cX12_tapeNumber 9 = .ok (.imul, 1) := by decide +kernel
theorem dX12_tapeNumber_10 : decode cX12_tapeNumber 10 = .ok (.iconst 4, 1) := by decide +kernel
theorem dX12_tapeNumber_11 : decode cX12_tapeNumber 11 = .ok (.iadd, 1) := by decide +kernel
theorem dX12_tapeNumber_12 : decode cX12_tapeNumber 12 = .ok (.if_icmp .ge 25, 3) := by decide +kernel
theorem dX12_tapeNumber_15 : decode cX12_tapeNumber 15 = .ok (.iload_n 2, 1) := by decide +kernel
theorem dX12_tapeNumber_16 : decode cX12_tapeNumber 16 = .ok (.bipush 8, 2) := by decide +kernel
theorem dX12_tapeNumber_18 : decode cX12_tapeNumber 18 = .ok (.ishl, 1) := by decide +kernel
theorem dX12_tapeNumber_19 : decode cX12_tapeNumber 19 = .ok (.aload_n 0, 1) := by decide +kernel
theorem dX12_tapeNumber_20 : decode cX12_tapeNumber 20 = .ok (.getfield 35, 3) := by decide +kernel
theorem dX12_tapeNumber_23 : decode cX12_tapeNumber 23 = .ok (.iload_n 3, 1) := by decide +kernel
theorem dX12_tapeNumber_24 : decode cX12_tapeNumber 24 = .ok (.baload, 1) := by decide +kernel
theorem dX12_tapeNumber_25 : decode cX12_tapeNumber 25 = .ok (.sipush 255, 3) := by decide +kernel
theorem dX12_tapeNumber_28 : decode cX12_tapeNumber 28 = .ok (.iand, 1) := by decide +kernel
theorem dX12_tapeNumber_29 : decode cX12_tapeNumber 29 = .ok (.ior, 1) := by decide +kernel
theorem dX12_tapeNumber_30 : decode cX12_tapeNumber 30 = .ok (.istore_n 2, 1) := by decide +kernel
theorem dX12_tapeNumber_31 : decode cX12_tapeNumber 31 = .ok (.iinc 3 1, 3) := by decide +kernel
theorem dX12_tapeNumber_34 : decode cX12_tapeNumber 34 = .ok (.goto (-28), 3) := by decide +kernel
theorem dX12_tapeNumber_37 : decode cX12_tapeNumber 37 = .ok (.iload_n 2, 1) := by decide +kernel
theorem dX12_tapeNumber_38 : decode cX12_tapeNumber 38 = .ok (.ireturn, 1) := by decide +kernel
theorem rX12_tapeNumber : (∀ (d : Nat) (L st : List Value) (h : fk_H), fk_ev d qX12_tapeNumber 0 L st h = fk_ev d qX12_tapeNumber 1 L (.int (nI 0) :: st) h) ∧
  (∀ (d : Nat) (a0 a1 a2 a3 : Value) (x : Int32) (st : List Value) (h : fk_H), fk_ev d qX12_tapeNumber 1 [a0, a1, a2, a3] (.int x :: st) h = fk_ev d qX12_tapeNumber 2 [a0, a1, .int x, a3] st h) ∧
  (∀ (d : Nat) (L st : List Value) (h : fk_H), fk_ev d qX12_tapeNumber 2 L st h = fk_ev d qX12_tapeNumber 3 L (.int (nI 4) :: st) h) ∧
  (∀ (d : Nat) (a0 a2 a3 : Value) (x : Int32) (st : List Value) (h : fk_H), fk_ev d qX12_tapeNumber 3 [a0, .int x, a2, a3] st h = fk_ev d qX12_tapeNumber 4 [a0, .int x, a2, a3] (.int x :: st) h) ∧
  (∀ (d : Nat) (L : List Value) (x y : Int32) (st : List Value) (h : fk_H), fk_ev d qX12_tapeNumber 4 L (.int y :: .int x :: st) h = fk_ev d qX12_tapeNumber 5 L (.int (x * y) :: st) h) ∧
  (∀ (d : Nat) (a0 a1 a2 a3 : Value) (x : Int32) (st : List Value) (h : fk_H), fk_ev d qX12_tapeNumber 5 [a0, a1, a2, a3] (.int x :: st) h = fk_ev d qX12_tapeNumber 6 [a0, a1, a2, .int x] st h) ∧
  (∀ (d : Nat) (L st : List Value) (h : fk_H), fk_ev d qX12_tapeNumber 7 L st h = fk_ev d qX12_tapeNumber 8 L (.int (nI 4) :: st) h) ∧
  (∀ (d : Nat) (a0 a2 a3 : Value) (x : Int32) (st : List Value) (h : fk_H), fk_ev d qX12_tapeNumber 8 [a0, .int x, a2, a3] st h = fk_ev d qX12_tapeNumber 9 [a0, .int x, a2, a3] (.int x :: st) h) ∧
  (∀ (d : Nat) (L : List Value) (x y : Int32) (st : List Value) (h : fk_H), fk_ev d qX12_tapeNumber 9 L (.int y :: .int x :: st) h = fk_ev d qX12_tapeNumber 10 L (.int (x * y) :: st) h) ∧
  (∀ (d : Nat) (L st : List Value) (h : fk_H), fk_ev d qX12_tapeNumber 10 L st h = fk_ev d qX12_tapeNumber 11 L (.int (nI 4) :: st) h) ∧
  (∀ (d : Nat) (L : List Value) (x y : Int32) (st : List Value) (h : fk_H), fk_ev d qX12_tapeNumber 11 L (.int y :: .int x :: st) h = fk_ev d qX12_tapeNumber 12 L (.int (x + y) :: st) h) ∧
  (∀ (d : Nat) (L : List Value) (x y : Int32) (st : List Value) (h : fk_H), fk_ev d qX12_tapeNumber 12 L (.int y :: .int x :: st) h = if y ≤ x then fk_ev d qX12_tapeNumber 37 L st h else fk_ev d qX12_tapeNumber 15 L st h) ∧
  (∀ (d : Nat) (a0 a1 a3 : Value) (x : Int32) (st : List Value) (h : fk_H), fk_ev d qX12_tapeNumber 15 [a0, a1, .int x, a3] st h = fk_ev d qX12_tapeNumber 16 [a0, a1, .int x, a3] (.int x :: st) h) ∧
  (∀ (d : Nat) (L st : List Value) (h : fk_H), fk_ev d qX12_tapeNumber 16 L st h = fk_ev d qX12_tapeNumber 18 L (.int (nI 8) :: st) h) ∧
  (∀ (d : Nat) (L : List Value) (x y : Int32) (st : List Value) (h : fk_H), fk_ev d qX12_tapeNumber 18 L (.int y :: .int x :: st) h = fk_ev d qX12_tapeNumber 19 L (.int (x <<< (y &&& 31)) :: st) h) ∧
  (∀ (d : Nat) (a1 a2 a3 : Value) (x : Nat) (st : List Value) (h : fk_H), fk_ev d qX12_tapeNumber 19 [.ref x, a1, a2, a3] st h = fk_ev d qX12_tapeNumber 20 [.ref x, a1, a2, a3] (.ref x :: st) h) ∧
  (∀ (d : Nat) (L st : List Value) (N : Nat) (y : Nat → Nat → Int32) (l : Nat → Nat → Int64), fk_ev d qX12_tapeNumber 20 L (.ref 246 :: st) (fk_E N y l) = fk_ev d qX12_tapeNumber 23 L (.ref 255 :: st) (fk_E N y l)) ∧
  (∀ (d : Nat) (a0 a1 a2 : Value) (x : Int32) (st : List Value) (h : fk_H), fk_ev d qX12_tapeNumber 23 [a0, a1, a2, .int x] st h = fk_ev d qX12_tapeNumber 24 [a0, a1, a2, .int x] (.int x :: st) h) ∧
  (∀ (d : Nat) (L st : List Value) (N : Nat) (y : Nat → Nat → Int32) (l : Nat → Nat → Int64) (i : Nat), i < 260 → fk_ev d qX12_tapeNumber 24 L (.int (nI i) :: .ref 255 :: st) (fk_E N y l) = fk_ev d qX12_tapeNumber 25 L (.int (y 255 i) :: st) (fk_E N y l)) ∧
  (∀ (d : Nat) (L st : List Value) (h : fk_H), fk_ev d qX12_tapeNumber 25 L st h = fk_ev d qX12_tapeNumber 28 L (.int (nI 255) :: st) h) ∧
  (∀ (d : Nat) (L : List Value) (x y : Int32) (st : List Value) (h : fk_H), fk_ev d qX12_tapeNumber 28 L (.int y :: .int x :: st) h = fk_ev d qX12_tapeNumber 29 L (.int (x &&& y) :: st) h) ∧
  (∀ (d : Nat) (L : List Value) (x y : Int32) (st : List Value) (h : fk_H), fk_ev d qX12_tapeNumber 29 L (.int y :: .int x :: st) h = fk_ev d qX12_tapeNumber 30 L (.int (x ||| y) :: st) h) ∧
  (∀ (d : Nat) (a0 a1 a2 a3 : Value) (x : Int32) (st : List Value) (h : fk_H), fk_ev d qX12_tapeNumber 30 [a0, a1, a2, a3] (.int x :: st) h = fk_ev d qX12_tapeNumber 31 [a0, a1, .int x, a3] st h) ∧
  (∀ (d : Nat) (a0 a1 a2 : Value) (x : Int32) (st : List Value) (h : fk_H), fk_ev d qX12_tapeNumber 31 [a0, a1, a2, .int x] st h = fk_ev d qX12_tapeNumber 34 [a0, a1, a2, .int (x + nI 1)] st h) ∧
  (∀ (d : Nat) (L st : List Value) (h : fk_H), fk_ev d qX12_tapeNumber 34 L st h = fk_ev d qX12_tapeNumber 6 L st h) ∧
  (∀ (d : Nat) (a0 a1 a3 : Value) (x : Int32) (st : List Value) (h : fk_H), fk_ev d qX12_tapeNumber 37 [a0, a1, .int x, a3] st h = fk_ev d qX12_tapeNumber 38 [a0, a1, .int x, a3] (.int x :: st) h) ∧
  (∀ (d : Nat) (L : List Value) (x : Int32) (h : fk_H), fk_ev d qX12_tapeNumber 38 L [.int x] h = some (some (.int x), h)) := ⟨fun d L st h => fk_w_iconst dX12_tapeNumber_0 (by decide),
  fun d a0 a1 a2 a3 x st h => fk_w_istoren 2 4 [] [a0, a1, a2, a3] [a0, a1, .int x, a3] dX12_tapeNumber_1 rfl rfl (by decide) rfl,
  fun d L st h => fk_w_iconst dX12_tapeNumber_2 (by decide),
  fun d a0 a2 a3 x st h => fk_w_iloadn 1 [a0, .int x, a2, a3] dX12_tapeNumber_3 rfl,
  fun d L x y st h => fk_r_imul dX12_tapeNumber_4,
  fun d a0 a1 a2 a3 x st h => fk_w_istoren 3 4 [] [a0, a1, a2, a3] [a0, a1, a2, .int x] dX12_tapeNumber_5 rfl rfl (by decide) rfl,
  fun d L st h => fk_w_iconst dX12_tapeNumber_7 (by decide),
  fun d a0 a2 a3 x st h => fk_w_iloadn 1 [a0, .int x, a2, a3] dX12_tapeNumber_8 rfl,
  fun d L x y st h => fk_r_imul dX12_tapeNumber_9,
  fun d L st h => fk_w_iconst dX12_tapeNumber_10 (by decide),
  fun d L x y st h => fk_r_iadd dX12_tapeNumber_11,
  fun d L x y st h => fk_r_icmp_ge dX12_tapeNumber_12 (by decide),
  fun d a0 a1 a3 x st h => fk_w_iloadn 2 [a0, a1, .int x, a3] dX12_tapeNumber_15 rfl,
  fun d L st h => fk_w_bipush dX12_tapeNumber_16 (by decide),
  fun d L x y st h => fk_r_ishl dX12_tapeNumber_18,
  fun d a1 a2 a3 x st h => fk_w_aloadn 0 [.ref x, a1, a2, a3] dX12_tapeNumber_19 rfl,
  fun d L st N y l => fk_g_getC rfl lf_12_35 (by decide) rfl dX12_tapeNumber_20 fk_at_246,
  fun d a0 a1 a2 x st h => fk_w_iloadn 3 [a0, a1, a2, .int x] dX12_tapeNumber_23 rfl,
  fun d L st N y l i hi => fk_g_bald (Or.inl rfl) fk_at_255 fk_ln_255 (by decide) dX12_tapeNumber_24 hi,
  fun d L st h => fk_w_sipush dX12_tapeNumber_25 (by decide),
  fun d L x y st h => fk_r_iand dX12_tapeNumber_28,
  fun d L x y st h => fk_r_ior dX12_tapeNumber_29,
  fun d a0 a1 a2 a3 x st h => fk_w_istoren 2 4 [] [a0, a1, a2, a3] [a0, a1, .int x, a3] dX12_tapeNumber_30 rfl rfl (by decide) rfl,
  fun d a0 a1 a2 x st h => fk_w_iinc 3 4 (1) [] [a0, a1, a2, .int x] [a0, a1, a2, .int (x + nI 1)] dX12_tapeNumber_31 rfl rfl rfl (by decide) rfl,
  fun d L st h => fk_r_goto dX12_tapeNumber_34 (by decide),
  fun d a0 a1 a3 x st h => fk_w_iloadn 2 [a0, a1, .int x, a3] dX12_tapeNumber_37 rfl,
  fun d L x h => fk_r_ret dX12_tapeNumber_38 (Or.inl rfl)⟩
theorem hX12_tapeNumber_6 : ∀ (d : Nat) (a0 a1 a2 : Value) (x : Int32) (st : List Value) (h : fk_H), fk_ev d qX12_tapeNumber 6 [a0, a1, a2, .int x] st h = fk_ev d qX12_tapeNumber 7 [a0, a1, a2, .int x] (.int x :: st) h := fun d a0 a1 a2 x st h => fk_w_iloadn 3 [a0, a1, a2, .int x] dX12_tapeNumber_6 rfl
theorem dX12_check_0 : decode cX12_check 0 = .ok (.iload_n 1, 1) := by decide +kernel
theorem dX12_check_1 : decode cX12_check 1 = .ok (.iconst 0, 1) := by decide +kernel
theorem dX12_check_2 : decode cX12_check 2 = .ok (.bipush 20, 2) := by decide +kernel
theorem dX12_check_4 : decode cX12_check 4 = .ok (.invokestatic 112, 3) := by decide +kernel
theorem dX12_check_7 : decode cX12_check 7 = .ok (.ifCond .eq 13, 3) := by decide +kernel
theorem dX12_check_10 : decode cX12_check 10 = .ok (.iload_n 1, 1) := by decide +kernel
theorem dX12_check_11 : decode cX12_check 11 = .ok (.aload_n 0, 1) := by decide +kernel
theorem dX12_check_12 : decode cX12_check 12 = .ok (.getfield 148, 3) := by decide +kernel
theorem dX12_check_15 : decode cX12_check 15 = .ok (.iconst 4, 1) := by decide +kernel
theorem dX12_check_16 : decode cX12_check 16 = .ok (.idiv, 1) := by decide +kernel
theorem dX12_check_17 : decode cX12_check 17 = .ok (.if_icmp .le 6, 3) := by decide +kernel
theorem dX12_check_20 : decode cX12_check 20 = .ok (.bipush (-2), 2) := by decide +kernel
theorem dX12_check_22 : decode cX12_check 22 = .ok (.ireturn, 1) := by decide +kernel
theorem dX12_check_23 : decode cX12_check 23 = .ok (.aload_n 0, 1) := by decide +kernel
theorem dX12_check_24 : decode cX12_check 24 = .ok (.iconst 0, 1) := by decide +kernel
theorem dX12_check_25 : decode cX12_check 25 = .ok (.putfield 148, 3) := by decide +kernel
theorem dX12_check_28 : decode cX12_check 28 = .ok (.iconst 0, 1) := by decide +kernel
theorem dX12_check_29 : decode cX12_check 29 = .ok (.istore_n 2, 1) := by decide +kernel
theorem dX12_check_30 : decode cX12_check 30 = .ok (.iload_n 2, 1) := by decide +kernel
theorem dX12_check_31 : decode cX12_check 31 = .ok (.iload_n 1, 1) := by decide +kernel
theorem dX12_check_32 : decode cX12_check 32 = .ok (.if_icmp .ge 41, 3) := by decide +kernel
theorem dX12_check_35 : decode cX12_check 35 = .ok (.aload_n 0, 1) := by decide +kernel
theorem dX12_check_36 : decode cX12_check 36 = .ok (.iload_n 2, 1) := by decide +kernel
theorem dX12_check_37 : decode cX12_check 37 = .ok (.invokevirtual 425, 3) := by decide +kernel
theorem dX12_check_40 : decode cX12_check 40 = .ok (.aload_n 0, 1) := by decide +kernel
theorem dX12_check_41 : decode cX12_check 41 = .ok (.iload_n 2, 1) := by decide +kernel
theorem dX12_check_42 : decode cX12_check 42 = .ok (.invokevirtual 129, 3) := by decide +kernel
theorem dX12_check_45 : decode cX12_check 45 = .ok (.ifCond .eq 16, 3) := by decide +kernel
theorem dX12_check_48 : decode cX12_check 48 = .ok (.aload_n 0, 1) := by decide +kernel
theorem dX12_check_49 : decode cX12_check 49 = .ok (.getfield 7, 3) := by decide +kernel
theorem dX12_check_52 : decode cX12_check 52 = .ok (.sipush 256, 3) := by decide +kernel
theorem dX12_check_55 : decode cX12_check 55 = .ok (.iload_n 2, 1) := by decide +kernel
theorem dX12_check_56 : decode cX12_check 56 = .ok (.iadd, 1) := by decide +kernel
theorem dX12_check_57 : decode cX12_check 57 = .ok (.iaload, 1) := by decide +kernel
theorem dX12_check_58 : decode cX12_check 58 = .ok (.goto 4, 3) := by decide +kernel
theorem dX12_check_61 : decode cX12_check 61 = .ok (.iconst 0, 1) := by decide +kernel
theorem dX12_check_62 : decode cX12_check 62 = .ok (.if_icmp .eq 5, 3) := by decide +kernel
theorem dX12_check_65 : decode cX12_check 65 = .ok (.iload_n 2, 1) := by decide +kernel
theorem dX12_check_66 : decode cX12_check 66 = .ok (.ireturn, 1) := by decide +kernel
theorem dX12_check_67 : decode cX12_check 67 = .ok (.iinc 2 1, 3) := by decide +kernel
theorem dX12_check_70 : decode cX12_check 70 = .ok (.goto (-40), 3) := by decide +kernel
theorem dX12_check_73 : decode cX12_check 73 = .ok (.iconst (-1), 1) := by decide +kernel
theorem dX12_check_74 : decode cX12_check 74 = .ok (.ireturn, 1) := by decide +kernel
theorem rX12_check : (∀ (d : Nat) (a0 a2 : Value) (x : Int32) (st : List Value) (h : fk_H), fk_ev d qX12_check 0 [a0, .int x, a2] st h = fk_ev d qX12_check 1 [a0, .int x, a2] (.int x :: st) h) ∧
  (∀ (d : Nat) (L st : List Value) (h : fk_H), fk_ev d qX12_check 1 L st h = fk_ev d qX12_check 2 L (.int (nI 0) :: st) h) ∧
  (∀ (d : Nat) (L st : List Value) (h : fk_H), fk_ev d qX12_check 2 L st h = fk_ev d qX12_check 4 L (.int (nI 20) :: st) h) ∧
  (∀ (d : Nat) (L : List Value) (x0 : Int32) (x1 : Int32) (x2 : Int32)  (h : fk_H), fk_ev (d + 1) qX12_check 4 L (.int x2 :: .int x1 :: .int x0 :: []) h = (fk_ev d qX12_in 0 [.int x0, .int x1, .int x2] [] h).bind fun o => fk_ev (d + 1) qX12_check 7 L (o.1.toList ++ []) o.2) ∧
  (∀ (d : Nat) (L : List Value) (x : Int32) (st : List Value) (h : fk_H), fk_ev d qX12_check 7 L (.int x :: st) h = if x = nI 0 then fk_ev d qX12_check 20 L st h else fk_ev d qX12_check 10 L st h) ∧
  (∀ (d : Nat) (a0 a2 : Value) (x : Int32) (st : List Value) (h : fk_H), fk_ev d qX12_check 10 [a0, .int x, a2] st h = fk_ev d qX12_check 11 [a0, .int x, a2] (.int x :: st) h) ∧
  (∀ (d : Nat) (a1 a2 : Value) (x : Nat) (st : List Value) (h : fk_H), fk_ev d qX12_check 11 [.ref x, a1, a2] st h = fk_ev d qX12_check 12 [.ref x, a1, a2] (.ref x :: st) h) ∧
  (∀ (d : Nat) (L st : List Value) (N : Nat) (y : Nat → Nat → Int32) (l : Nat → Nat → Int64), fk_ev d qX12_check 12 L (.ref 246 :: st) (fk_E N y l) = fk_ev d qX12_check 15 L (.int (y 246 10) :: st) (fk_E N y l)) ∧
  (∀ (d : Nat) (L st : List Value) (h : fk_H), fk_ev d qX12_check 15 L st h = fk_ev d qX12_check 16 L (.int (nI 4) :: st) h) ∧
  (∀ (d : Nat) (L : List Value) (x y : Int32) (st : List Value) (h : fk_H), fk_ev d qX12_check 16 L (.int y :: .int x :: st) h = if y = 0 then none else fk_ev d qX12_check 17 L (.int (x / y) :: st) h) ∧
  (∀ (d : Nat) (L : List Value) (x y : Int32) (st : List Value) (h : fk_H), fk_ev d qX12_check 17 L (.int y :: .int x :: st) h = if x ≤ y then fk_ev d qX12_check 23 L st h else fk_ev d qX12_check 20 L st h) ∧
  (∀ (d : Nat) (L st : List Value) (h : fk_H), fk_ev d qX12_check 20 L st h = fk_ev d qX12_check 22 L (.int ((-2 : Int32)) :: st) h) ∧
  (∀ (d : Nat) (L : List Value) (x : Int32) (h : fk_H), fk_ev d qX12_check 22 L [.int x] h = some (some (.int x), h)) ∧
  (∀ (d : Nat) (a1 a2 : Value) (x : Nat) (st : List Value) (h : fk_H), fk_ev d qX12_check 23 [.ref x, a1, a2] st h = fk_ev d qX12_check 24 [.ref x, a1, a2] (.ref x :: st) h) ∧
  (∀ (d : Nat) (L st : List Value) (h : fk_H), fk_ev d qX12_check 24 L st h = fk_ev d qX12_check 25 L (.int (nI 0) :: st) h) ∧
  (∀ (d : Nat) (L st : List Value) (N : Nat) (y : Nat → Nat → Int32) (l : Nat → Nat → Int64) (v : Int32), fk_ev d qX12_check 25 L (.int v :: .ref 246 :: st) (fk_E N y l) = fk_ev d qX12_check 28 L st (fk_E N (fk_u y 246 10 v) l)) ∧
  (∀ (d : Nat) (L st : List Value) (h : fk_H), fk_ev d qX12_check 28 L st h = fk_ev d qX12_check 29 L (.int (nI 0) :: st) h) ∧
  (∀ (d : Nat) (a0 a1 a2 : Value) (x : Int32) (st : List Value) (h : fk_H), fk_ev d qX12_check 29 [a0, a1, a2] (.int x :: st) h = fk_ev d qX12_check 30 [a0, a1, .int x] st h) ∧
  (∀ (d : Nat) (a0 a2 : Value) (x : Int32) (st : List Value) (h : fk_H), fk_ev d qX12_check 31 [a0, .int x, a2] st h = fk_ev d qX12_check 32 [a0, .int x, a2] (.int x :: st) h) ∧
  (∀ (d : Nat) (L : List Value) (x y : Int32) (st : List Value) (h : fk_H), fk_ev d qX12_check 32 L (.int y :: .int x :: st) h = if y ≤ x then fk_ev d qX12_check 73 L st h else fk_ev d qX12_check 35 L st h) ∧
  (∀ (d : Nat) (a1 a2 : Value) (x : Nat) (st : List Value) (h : fk_H), fk_ev d qX12_check 35 [.ref x, a1, a2] st h = fk_ev d qX12_check 36 [.ref x, a1, a2] (.ref x :: st) h) ∧
  (∀ (d : Nat) (a0 a1 : Value) (x : Int32) (st : List Value) (h : fk_H), fk_ev d qX12_check 36 [a0, a1, .int x] st h = fk_ev d qX12_check 37 [a0, a1, .int x] (.int x :: st) h) ∧
  (∀ (d : Nat) (L : List Value) (x0 : Int32)  (N : Nat) (y : Nat → Nat → Int32) (l : Nat → Nat → Int64), fk_ev (d + 1) qX12_check 37 L (.int x0 :: .ref 246 :: []) (fk_E N y l) = (fk_ev d qX12_tapeNumber 0 [.ref 246, .int x0, .null, .null] [] (fk_E N y l)).bind fun o => fk_ev (d + 1) qX12_check 40 L (o.1.toList ++ []) o.2) ∧
  (∀ (d : Nat) (a1 a2 : Value) (x : Nat) (st : List Value) (h : fk_H), fk_ev d qX12_check 40 [.ref x, a1, a2] st h = fk_ev d qX12_check 41 [.ref x, a1, a2] (.ref x :: st) h) ∧
  (∀ (d : Nat) (a0 a1 : Value) (x : Int32) (st : List Value) (h : fk_H), fk_ev d qX12_check 41 [a0, a1, .int x] st h = fk_ev d qX12_check 42 [a0, a1, .int x] (.int x :: st) h) ∧
  (∀ (d : Nat) (L : List Value) (x0 : Int32) (w0 : Value) (N : Nat) (y : Nat → Nat → Int32) (l : Nat → Nat → Int64), fk_ev (d + 1) qX12_check 42 L (.int x0 :: .ref 246 :: [w0]) (fk_E N y l) = (fk_ev d qX12_isLiving 0 [.ref 246, .int x0] [] (fk_E N y l)).bind fun o => fk_ev (d + 1) qX12_check 45 L (o.1.toList ++ [w0]) o.2) ∧
  (∀ (d : Nat) (L : List Value) (x : Int32) (st : List Value) (h : fk_H), fk_ev d qX12_check 45 L (.int x :: st) h = if x = nI 0 then fk_ev d qX12_check 61 L st h else fk_ev d qX12_check 48 L st h) ∧
  (∀ (d : Nat) (a1 a2 : Value) (x : Nat) (st : List Value) (h : fk_H), fk_ev d qX12_check 48 [.ref x, a1, a2] st h = fk_ev d qX12_check 49 [.ref x, a1, a2] (.ref x :: st) h) ∧
  (∀ (d : Nat) (L st : List Value) (N : Nat) (y : Nat → Nat → Int32) (l : Nat → Nat → Int64), fk_ev d qX12_check 49 L (.ref 246 :: st) (fk_E N y l) = fk_ev d qX12_check 52 L (.ref 247 :: st) (fk_E N y l)) ∧
  (∀ (d : Nat) (L st : List Value) (h : fk_H), fk_ev d qX12_check 52 L st h = fk_ev d qX12_check 55 L (.int (nI 256) :: st) h) ∧
  (∀ (d : Nat) (a0 a1 : Value) (x : Int32) (st : List Value) (h : fk_H), fk_ev d qX12_check 55 [a0, a1, .int x] st h = fk_ev d qX12_check 56 [a0, a1, .int x] (.int x :: st) h) ∧
  (∀ (d : Nat) (L : List Value) (x y : Int32) (st : List Value) (h : fk_H), fk_ev d qX12_check 56 L (.int y :: .int x :: st) h = fk_ev d qX12_check 57 L (.int (x + y) :: st) h) ∧
  (∀ (d : Nat) (L st : List Value) (N : Nat) (y : Nat → Nat → Int32) (l : Nat → Nat → Int64) (i : Nat), i < 3912 → fk_ev d qX12_check 57 L (.int (nI i) :: .ref 247 :: st) (fk_E N y l) = fk_ev d qX12_check 58 L (.int (y 247 i) :: st) (fk_E N y l)) ∧
  (∀ (d : Nat) (L st : List Value) (h : fk_H), fk_ev d qX12_check 58 L st h = fk_ev d qX12_check 62 L st h) ∧
  (∀ (d : Nat) (L st : List Value) (h : fk_H), fk_ev d qX12_check 61 L st h = fk_ev d qX12_check 62 L (.int (nI 0) :: st) h) ∧
  (∀ (d : Nat) (L : List Value) (x y : Int32) (st : List Value) (h : fk_H), fk_ev d qX12_check 62 L (.int y :: .int x :: st) h = if x = y then fk_ev d qX12_check 67 L st h else fk_ev d qX12_check 65 L st h) ∧
  (∀ (d : Nat) (a0 a1 : Value) (x : Int32) (st : List Value) (h : fk_H), fk_ev d qX12_check 65 [a0, a1, .int x] st h = fk_ev d qX12_check 66 [a0, a1, .int x] (.int x :: st) h) ∧
  (∀ (d : Nat) (L : List Value) (x : Int32) (h : fk_H), fk_ev d qX12_check 66 L [.int x] h = some (some (.int x), h)) ∧
  (∀ (d : Nat) (a0 a1 : Value) (x : Int32) (st : List Value) (h : fk_H), fk_ev d qX12_check 67 [a0, a1, .int x] st h = fk_ev d qX12_check 70 [a0, a1, .int (x + nI 1)] st h) ∧
  (∀ (d : Nat) (L st : List Value) (h : fk_H), fk_ev d qX12_check 70 L st h = fk_ev d qX12_check 30 L st h) ∧
  (∀ (d : Nat) (L st : List Value) (h : fk_H), fk_ev d qX12_check 73 L st h = fk_ev d qX12_check 74 L (.int ((-1 : Int32)) :: st) h) ∧
  (∀ (d : Nat) (L : List Value) (x : Int32) (h : fk_H), fk_ev d qX12_check 74 L [.int x] h = some (some (.int x), h)) := ⟨fun d a0 a2 x st h => fk_w_iloadn 1 [a0, .int x, a2] dX12_check_0 rfl,
  fun d L st h => fk_w_iconst dX12_check_1 (by decide),
  fun d L st h => fk_w_bipush dX12_check_2 (by decide),
  fun d L x0 x1 x2 h => fk_g_calls [.int x0, .int x1, .int x2] [] rfl lm_12_112 dX12_check_4 rfl ⟨rfl, by decide⟩ (by simp),
  fun d L x st h => fk_r_if_eq dX12_check_7 (by decide),
  fun d a0 a2 x st h => fk_w_iloadn 1 [a0, .int x, a2] dX12_check_10 rfl,
  fun d a1 a2 x st h => fk_w_aloadn 0 [.ref x, a1, a2] dX12_check_11 rfl,
  fun d L st N y l => fk_g_getI rfl lf_12_148 (by decide) dX12_check_12 fk_at_246,
  fun d L st h => fk_w_iconst dX12_check_15 (by decide),
  fun d L x y st h => fk_r_idiv dX12_check_16,
  fun d L x y st h => fk_r_icmp_le dX12_check_17 (by decide),
  fun d L st h => fk_w_bipush dX12_check_20 (by decide),
  fun d L x h => fk_r_ret dX12_check_22 (Or.inl rfl),
  fun d a1 a2 x st h => fk_w_aloadn 0 [.ref x, a1, a2] dX12_check_23 rfl,
  fun d L st h => fk_w_iconst dX12_check_24 (by decide),
  fun d L st N y l v => fk_g_putI rfl lf_12_148 (by decide) dX12_check_25 rfl fk_at_246,
  fun d L st h => fk_w_iconst dX12_check_28 (by decide),
  fun d a0 a1 a2 x st h => fk_w_istoren 2 3 [] [a0, a1, a2] [a0, a1, .int x] dX12_check_29 rfl rfl (by decide) rfl,
  fun d a0 a2 x st h => fk_w_iloadn 1 [a0, .int x, a2] dX12_check_31 rfl,
  fun d L x y st h => fk_r_icmp_ge dX12_check_32 (by decide),
  fun d a1 a2 x st h => fk_w_aloadn 0 [.ref x, a1, a2] dX12_check_35 rfl,
  fun d a0 a1 x st h => fk_w_iloadn 2 [a0, a1, .int x] dX12_check_36 rfl,
  fun d L x0 N y l  => fk_g_call [.int x0] [] rfl lm_12_425 dX12_check_37 rfl ⟨rfl, by decide⟩ (by simp) fk_at_246,
  fun d a1 a2 x st h => fk_w_aloadn 0 [.ref x, a1, a2] dX12_check_40 rfl,
  fun d a0 a1 x st h => fk_w_iloadn 2 [a0, a1, .int x] dX12_check_41 rfl,
  fun d L x0 w0 N y l  => fk_g_call [.int x0] [w0] rfl lm_12_129 dX12_check_42 rfl ⟨rfl, by decide⟩ (by simp) fk_at_246,
  fun d L x st h => fk_r_if_eq dX12_check_45 (by decide),
  fun d a1 a2 x st h => fk_w_aloadn 0 [.ref x, a1, a2] dX12_check_48 rfl,
  fun d L st N y l => fk_g_getC rfl lf_12_7 (by decide) rfl dX12_check_49 fk_at_246,
  fun d L st h => fk_w_sipush dX12_check_52 (by decide),
  fun d a0 a1 x st h => fk_w_iloadn 2 [a0, a1, .int x] dX12_check_55 rfl,
  fun d L x y st h => fk_r_iadd dX12_check_56,
  fun d L st N y l i hi => fk_g_iald fk_at_247 fk_ln_247 (by decide) dX12_check_57 hi,
  fun d L st h => fk_r_goto dX12_check_58 (by decide),
  fun d L st h => fk_w_iconst dX12_check_61 (by decide),
  fun d L x y st h => fk_r_icmp_eq dX12_check_62 (by decide),
  fun d a0 a1 x st h => fk_w_iloadn 2 [a0, a1, .int x] dX12_check_65 rfl,
  fun d L x h => fk_r_ret dX12_check_66 (Or.inl rfl),
  fun d a0 a1 x st h => fk_w_iinc 2 3 (1) [] [a0, a1, .int x] [a0, a1, .int (x + nI 1)] dX12_check_67 rfl rfl rfl (by decide) rfl,
  fun d L st h => fk_r_goto dX12_check_70 (by decide),
  fun d L st h => fk_w_iconst dX12_check_73 (by decide),
  fun d L x h => fk_r_ret dX12_check_74 (Or.inl rfl)⟩
theorem hX12_check_30 : ∀ (d : Nat) (a0 a1 : Value) (x : Int32) (st : List Value) (h : fk_H), fk_ev d qX12_check 30 [a0, a1, .int x] st h = fk_ev d qX12_check 31 [a0, a1, .int x] (.int x :: st) h := fun d a0 a1 x st h => fk_w_iloadn 2 [a0, a1, .int x] dX12_check_30 rfl
theorem dX12_roadMany_0 : decode cX12_roadMany 0 = .ok (.iconst 0, 1) := by decide +kernel
theorem dX12_roadMany_1 : decode cX12_roadMany 1 = .ok (.istore_n 1, 1) := by decide +kernel
theorem dX12_roadMany_2 : decode cX12_roadMany 2 = .ok (.iconst 0, 1) := by decide +kernel
theorem dX12_roadMany_3 : decode cX12_roadMany 3 = .ok (.istore_n 2, 1) := by decide +kernel
theorem dX12_roadMany_4 : decode cX12_roadMany 4 = .ok (.iload_n 2, 1) := by decide +kernel
theorem dX12_roadMany_5 : decode cX12_roadMany 5 = .ok (.bipush 32, 2) := by decide +kernel
theorem dX12_roadMany_7 : decode cX12_roadMany 7 = .ok (.if_icmp .ge 25, 3) := by decide +kernel
theorem dX12_roadMany_10 : decode cX12_roadMany 10 = .ok (.iload_n 1, 1) := by decide +kernel
theorem dX12_roadMany_11 : decode cX12_roadMany 11 = .ok (.aload_n 0, 1) := by decide +kernel
theorem dX12_roadMany_12 : decode cX12_roadMany 12 = .ok (.iload_n 2, 1) := by decide +kernel
theorem dX12_roadMany_13 : decode cX12_roadMany 13 = .ok (.invokevirtual 289, 3) := by decide +kernel
theorem dX12_roadMany_16 : decode cX12_roadMany 16 = .ok (.ifCond .eq 7, 3) := by decide +kernel
theorem dX12_roadMany_19 : decode cX12_roadMany 19 = .ok (.iconst 1, 1) := by decide +kernel
theorem dX12_roadMany_20 : decode cX12_roadMany 20 = .ok (.goto 4, 3) := by decide +kernel
theorem dX12_roadMany_23 : decode cX12_roadMany 23 = .ok (.iconst 0, 1) := by decide +kernel
theorem dX12_roadMany_24 : decode cX12_roadMany 24 = .ok (.iadd, 1) := by decide +kernel
theorem dX12_roadMany_25 : decode cX12_roadMany 25 = .ok (.istore_n 1, 1) := by decide +kernel
theorem dX12_roadMany_26 : decode cX12_roadMany 26 = .ok (.iinc 2 1, 3) := by decide +kernel
theorem dX12_roadMany_29 : decode cX12_roadMany 29 = .ok (.goto (-25), 3) := by decide +kernel
theorem dX12_roadMany_32 : decode cX12_roadMany 32 = .ok (.iload_n 1, 1) := by decide +kernel
theorem dX12_roadMany_33 : decode cX12_roadMany 33 = .ok (.ireturn, 1) := by decide +kernel
theorem rX12_roadMany : (∀ (d : Nat) (L st : List Value) (h : fk_H), fk_ev d qX12_roadMany 0 L st h = fk_ev d qX12_roadMany 1 L (.int (nI 0) :: st) h) ∧
  (∀ (d : Nat) (a0 a1 a2 : Value) (x : Int32) (st : List Value) (h : fk_H), fk_ev d qX12_roadMany 1 [a0, a1, a2] (.int x :: st) h = fk_ev d qX12_roadMany 2 [a0, .int x, a2] st h) ∧
  (∀ (d : Nat) (L st : List Value) (h : fk_H), fk_ev d qX12_roadMany 2 L st h = fk_ev d qX12_roadMany 3 L (.int (nI 0) :: st) h) ∧
  (∀ (d : Nat) (a0 a1 a2 : Value) (x : Int32) (st : List Value) (h : fk_H), fk_ev d qX12_roadMany 3 [a0, a1, a2] (.int x :: st) h = fk_ev d qX12_roadMany 4 [a0, a1, .int x] st h) ∧
  (∀ (d : Nat) (L st : List Value) (h : fk_H), fk_ev d qX12_roadMany 5 L st h = fk_ev d qX12_roadMany 7 L (.int (nI 32) :: st) h) ∧
  (∀ (d : Nat) (L : List Value) (x y : Int32) (st : List Value) (h : fk_H), fk_ev d qX12_roadMany 7 L (.int y :: .int x :: st) h = if y ≤ x then fk_ev d qX12_roadMany 32 L st h else fk_ev d qX12_roadMany 10 L st h) ∧
  (∀ (d : Nat) (a0 a2 : Value) (x : Int32) (st : List Value) (h : fk_H), fk_ev d qX12_roadMany 10 [a0, .int x, a2] st h = fk_ev d qX12_roadMany 11 [a0, .int x, a2] (.int x :: st) h) ∧
  (∀ (d : Nat) (a1 a2 : Value) (x : Nat) (st : List Value) (h : fk_H), fk_ev d qX12_roadMany 11 [.ref x, a1, a2] st h = fk_ev d qX12_roadMany 12 [.ref x, a1, a2] (.ref x :: st) h) ∧
  (∀ (d : Nat) (a0 a1 : Value) (x : Int32) (st : List Value) (h : fk_H), fk_ev d qX12_roadMany 12 [a0, a1, .int x] st h = fk_ev d qX12_roadMany 13 [a0, a1, .int x] (.int x :: st) h) ∧
  (∀ (d : Nat) (L : List Value) (x0 : Int32) (w0 : Value) (N : Nat) (y : Nat → Nat → Int32) (l : Nat → Nat → Int64), fk_ev (d + 1) qX12_roadMany 13 L (.int x0 :: .ref 246 :: [w0]) (fk_E N y l) = (fk_ev d qX12_isRoad 0 [.ref 246, .int x0] [] (fk_E N y l)).bind fun o => fk_ev (d + 1) qX12_roadMany 16 L (o.1.toList ++ [w0]) o.2) ∧
  (∀ (d : Nat) (L : List Value) (x : Int32) (st : List Value) (h : fk_H), fk_ev d qX12_roadMany 16 L (.int x :: st) h = if x = nI 0 then fk_ev d qX12_roadMany 23 L st h else fk_ev d qX12_roadMany 19 L st h) ∧
  (∀ (d : Nat) (L st : List Value) (h : fk_H), fk_ev d qX12_roadMany 19 L st h = fk_ev d qX12_roadMany 20 L (.int (nI 1) :: st) h) ∧
  (∀ (d : Nat) (L st : List Value) (h : fk_H), fk_ev d qX12_roadMany 20 L st h = fk_ev d qX12_roadMany 24 L st h) ∧
  (∀ (d : Nat) (L st : List Value) (h : fk_H), fk_ev d qX12_roadMany 23 L st h = fk_ev d qX12_roadMany 24 L (.int (nI 0) :: st) h) ∧
  (∀ (d : Nat) (L : List Value) (x y : Int32) (st : List Value) (h : fk_H), fk_ev d qX12_roadMany 24 L (.int y :: .int x :: st) h = fk_ev d qX12_roadMany 25 L (.int (x + y) :: st) h) ∧
  (∀ (d : Nat) (a0 a1 a2 : Value) (x : Int32) (st : List Value) (h : fk_H), fk_ev d qX12_roadMany 25 [a0, a1, a2] (.int x :: st) h = fk_ev d qX12_roadMany 26 [a0, .int x, a2] st h) ∧
  (∀ (d : Nat) (a0 a1 : Value) (x : Int32) (st : List Value) (h : fk_H), fk_ev d qX12_roadMany 26 [a0, a1, .int x] st h = fk_ev d qX12_roadMany 29 [a0, a1, .int (x + nI 1)] st h) ∧
  (∀ (d : Nat) (L st : List Value) (h : fk_H), fk_ev d qX12_roadMany 29 L st h = fk_ev d qX12_roadMany 4 L st h) ∧
  (∀ (d : Nat) (a0 a2 : Value) (x : Int32) (st : List Value) (h : fk_H), fk_ev d qX12_roadMany 32 [a0, .int x, a2] st h = fk_ev d qX12_roadMany 33 [a0, .int x, a2] (.int x :: st) h) ∧
  (∀ (d : Nat) (L : List Value) (x : Int32) (h : fk_H), fk_ev d qX12_roadMany 33 L [.int x] h = some (some (.int x), h)) := ⟨fun d L st h => fk_w_iconst dX12_roadMany_0 (by decide),
  fun d a0 a1 a2 x st h => fk_w_istoren 1 3 [] [a0, a1, a2] [a0, .int x, a2] dX12_roadMany_1 rfl rfl (by decide) rfl,
  fun d L st h => fk_w_iconst dX12_roadMany_2 (by decide),
  fun d a0 a1 a2 x st h => fk_w_istoren 2 3 [] [a0, a1, a2] [a0, a1, .int x] dX12_roadMany_3 rfl rfl (by decide) rfl,
  fun d L st h => fk_w_bipush dX12_roadMany_5 (by decide),
  fun d L x y st h => fk_r_icmp_ge dX12_roadMany_7 (by decide),
  fun d a0 a2 x st h => fk_w_iloadn 1 [a0, .int x, a2] dX12_roadMany_10 rfl,
  fun d a1 a2 x st h => fk_w_aloadn 0 [.ref x, a1, a2] dX12_roadMany_11 rfl,
  fun d a0 a1 x st h => fk_w_iloadn 2 [a0, a1, .int x] dX12_roadMany_12 rfl,
  fun d L x0 w0 N y l  => fk_g_call [.int x0] [w0] rfl lm_12_289 dX12_roadMany_13 rfl ⟨rfl, by decide⟩ (by simp) fk_at_246,
  fun d L x st h => fk_r_if_eq dX12_roadMany_16 (by decide),
  fun d L st h => fk_w_iconst dX12_roadMany_19 (by decide),
  fun d L st h => fk_r_goto dX12_roadMany_20 (by decide),
  fun d L st h => fk_w_iconst dX12_roadMany_23 (by decide),
  fun d L x y st h => fk_r_iadd dX12_roadMany_24,
  fun d a0 a1 a2 x st h => fk_w_istoren 1 3 [] [a0, a1, a2] [a0, .int x, a2] dX12_roadMany_25 rfl rfl (by decide) rfl,
  fun d a0 a1 x st h => fk_w_iinc 2 3 (1) [] [a0, a1, .int x] [a0, a1, .int (x + nI 1)] dX12_roadMany_26 rfl rfl rfl (by decide) rfl,
  fun d L st h => fk_r_goto dX12_roadMany_29 (by decide),
  fun d a0 a2 x st h => fk_w_iloadn 1 [a0, .int x, a2] dX12_roadMany_32 rfl,
  fun d L x h => fk_r_ret dX12_roadMany_33 (Or.inl rfl)⟩
theorem hX12_roadMany_4 : ∀ (d : Nat) (a0 a1 : Value) (x : Int32) (st : List Value) (h : fk_H), fk_ev d qX12_roadMany 4 [a0, a1, .int x] st h = fk_ev d qX12_roadMany 5 [a0, a1, .int x] (.int x :: st) h := fun d a0 a1 x st h => fk_w_iloadn 2 [a0, a1, .int x] dX12_roadMany_4 rfl
theorem dX12_count_0 : decode cX12_count 0 = .ok (.iload_n 1, 1) := by decide +kernel
theorem dX12_count_1 : decode cX12_count 1 = .ok (.tableswitch 129 0 9 #[55, 64, 73, 78, 83, 88, 97, 102, 111, 120], 55) := by decide +kernel
theorem dX12_count_56 : decode cX12_count 56 = .ok (.aload_n 0, 1) := by decide +kernel
theorem dX12_count_57 : decode cX12_count 57 = .ok (.getfield 7, 3) := by decide +kernel
theorem dX12_count_60 : decode cX12_count 60 = .ok (.sipush 832, 3) := by decide +kernel
theorem dX12_count_63 : decode cX12_count 63 = .ok (.iaload, 1) := by decide +kernel
theorem dX12_count_64 : decode cX12_count 64 = .ok (.ireturn, 1) := by decide +kernel
theorem dX12_count_65 : decode cX12_count 65 = .ok (.aload_n 0, 1) := by decide +kernel
theorem dX12_count_66 : decode cX12_count 66 = .ok (.getfield 7, 3) := by decide +kernel
theorem dX12_count_69 : decode cX12_count 69 = .ok (.sipush 833, 3) := by decide +kernel
theorem dX12_count_72 : decode cX12_count 72 = .ok (.iaload, 1) := by decide +kernel
theorem dX12_count_73 : decode cX12_count 73 = .ok (.ireturn, 1) := by decide +kernel
theorem dX12_count_74 : decode cX12_count 74 = .ok (.aload_n 0, 1) := by decide +kernel
theorem dX12_count_75 : decode cX12_count 75 = .ok (.invokevirtual 325, 3) := by decide +kernel
theorem dX12_count_78 : decode cX12_count 78 = .ok (.ireturn, 1) := by decide +kernel
theorem dX12_count_79 : decode cX12_count 79 = .ok (.aload_n 0, 1) := by decide +kernel
theorem dX12_count_80 : decode cX12_count 80 = .ok (.getfield 247, 3) := by decide +kernel
theorem dX12_count_83 : decode cX12_count 83 = .ok (.ireturn, 1) := by decide +kernel
theorem dX12_count_84 : decode cX12_count 84 = .ok (.aload_n 0, 1) := by decide +kernel
theorem dX12_count_85 : decode cX12_count 85 = .ok (.getfield 148, 3) := by decide +kernel
theorem dX12_count_88 : decode cX12_count 88 = .ok (.ireturn, 1) := by decide +kernel
theorem dX12_count_89 : decode cX12_count 89 = .ok (.aload_n 0, 1) := by decide +kernel
theorem dX12_count_90 : decode cX12_count 90 = .ok (.getfield 7, 3) := by decide +kernel
theorem dX12_count_93 : decode cX12_count 93 = .ok (.sipush 834, 3) := by decide +kernel
theorem dX12_count_96 : decode cX12_count 96 = .ok (.iaload, 1) := by decide +kernel
theorem dX12_count_97 : decode cX12_count 97 = .ok (.ireturn, 1) := by decide +kernel
theorem dX12_count_98 : decode cX12_count 98 = .ok (.aload_n 0, 1) := by decide +kernel
theorem dX12_count_99 : decode cX12_count 99 = .ok (.invokevirtual 428, 3) := by decide +kernel
theorem dX12_count_102 : decode cX12_count 102 = .ok (.ireturn, 1) := by decide +kernel
theorem dX12_count_103 : decode cX12_count 103 = .ok (.aload_n 0, 1) := by decide +kernel
theorem dX12_count_104 : decode cX12_count 104 = .ok (.getfield 7, 3) := by decide +kernel
theorem dX12_count_107 : decode cX12_count 107 = .ok (.sipush 835, 3) := by decide +kernel
theorem dX12_count_110 : decode cX12_count 110 = .ok (.iaload, 1) := by decide +kernel
theorem dX12_count_111 : decode cX12_count 111 = .ok (.ireturn, 1) := by decide +kernel
theorem dX12_count_112 : decode cX12_count 112 = .ok (.aload_n 0, 1) := by decide +kernel
theorem dX12_count_113 : decode cX12_count 113 = .ok (.getfield 7, 3) := by decide +kernel
theorem dX12_count_116 : decode cX12_count 116 = .ok (.sipush 836, 3) := by decide +kernel
theorem dX12_count_119 : decode cX12_count 119 = .ok (.iaload, 1) := by decide +kernel
theorem dX12_count_120 : decode cX12_count 120 = .ok (.ireturn, 1) := by decide +kernel
theorem dX12_count_121 : decode cX12_count 121 = .ok (.aload_n 0, 1) := by decide +kernel
theorem dX12_count_122 : decode cX12_count 122 = .ok (.getfield 7, 3) := by decide +kernel
theorem dX12_count_125 : decode cX12_count 125 = .ok (.sipush 837, 3) := by decide +kernel
theorem dX12_count_128 : decode cX12_count 128 = .ok (.iaload, 1) := by decide +kernel
theorem dX12_count_129 : decode cX12_count 129 = .ok (.ireturn, 1) := by decide +kernel
theorem dX12_count_130 : decode cX12_count 130 = .ok (.iload_n 1, 1) := by decide +kernel
theorem dX12_count_131 : decode cX12_count 131 = .ok (.bipush 20, 2) := by decide +kernel
theorem dX12_count_133 : decode cX12_count 133 = .ok (.bipush 51, 2) := by decide +kernel
theorem dX12_count_135 : decode cX12_count 135 = .ok (.invokestatic 112, 3) := by decide +kernel
theorem dX12_count_138 : decode cX12_count 138 = .ok (.ifCond .eq 24, 3) := by decide +kernel
theorem dX12_count_141 : decode cX12_count 141 = .ok (.aload_n 0, 1) := by decide +kernel
theorem dX12_count_142 : decode cX12_count 142 = .ok (.iload_n 1, 1) := by decide +kernel
theorem dX12_count_143 : decode cX12_count 143 = .ok (.bipush 20, 2) := by decide +kernel
theorem dX12_count_145 : decode cX12_count 145 = .ok (.isub, 1) := by decide +kernel
theorem dX12_count_146 : decode cX12_count 146 = .ok (.invokevirtual 289, 3) := by decide +kernel
theorem dX12_count_149 : decode cX12_count 149 = .ok (.ifCond .eq 13, 3) := by decide +kernel
theorem dX12_count_152 : decode cX12_count 152 = .ok (.aload_n 0, 1) := by decide +kernel
theorem dX12_count_153 : decode cX12_count 153 = .ok (.getfield 19, 3) := by decide +kernel
theorem dX12_count_156 : decode cX12_count 156 = .ok (.iload_n 1, 1) := by decide +kernel
theorem dX12_count_157 : decode cX12_count 157 = .ok (.bipush 20, 2) := by decide +kernel
theorem dX12_count_159 : decode cX12_count 159 = .ok (.isub, 1) := by decide +kernel
theorem dX12_count_160 : decode cX12_count 160 = .ok (.iaload, 1) := by decide +kernel
theorem dX12_count_161 : decode cX12_count 161 = .ok (.ireturn, 1) := by decide +kernel
theorem dX12_count_162 : decode cX12_count 162 = .ok (.iload_n 1, 1) := by decide +kernel
theorem dX12_count_163 : decode cX12_count 163 = .ok (.bipush 60, 2) := by decide +kernel
theorem dX12_count_165 : decode cX12_count 165 = .ok (.bipush 91, 2) := by decide +kernel
theorem dX12_count_167 : decode cX12_count 167 = .ok (.invokestatic 112, 3) := by decide +kernel
theorem dX12_count_170 : decode cX12_count 170 = .ok (.ifCond .eq 24, 3) := by decide +kernel
theorem dX12_count_173 : decode cX12_count 173 = .ok (.aload_n 0, 1) := by decide +kernel
theorem dX12_count_174 : decode cX12_count 174 = .ok (.iload_n 1, 1) := by decide +kernel
theorem dX12_count_175 : decode cX12_count 175 = .ok (.bipush 60, 2) := by decide +kernel
theorem dX12_count_177 : decode cX12_count 177 = .ok (.isub, 1) := by decide +kernel
theorem dX12_count_178 : decode cX12_count 178 = .ok (.invokevirtual 289, 3) := by decide +kernel
theorem dX12_count_181 : decode cX12_count 181 = .ok (.ifCond .eq 13, 3) := by decide +kernel
theorem dX12_count_184 : decode cX12_count 184 = .ok (.aload_n 0, 1) := by decide +kernel
theorem dX12_count_185 : decode cX12_count 185 = .ok (.getfield 22, 3) := by decide +kernel
theorem dX12_count_188 : decode cX12_count 188 = .ok (.iload_n 1, 1) := by decide +kernel
theorem dX12_count_189 : decode cX12_count 189 = .ok (.bipush 60, 2) := by decide +kernel
theorem dX12_count_191 : decode cX12_count 191 = .ok (.isub, 1) := by decide +kernel
theorem dX12_count_192 : decode cX12_count 192 = .ok (.iaload, 1) := by decide +kernel
theorem dX12_count_193 : decode cX12_count 193 = .ok (.ireturn, 1) := by decide +kernel
theorem dX12_count_194 : decode cX12_count 194 = .ok (.iload_n 1, 1) := by decide +kernel
theorem dX12_count_195 : decode cX12_count 195 = .ok (.bipush 100, 2) := by decide +kernel
theorem dX12_count_197 : decode cX12_count 197 = .ok (.sipush 131, 3) := by decide +kernel
theorem dX12_count_200 : decode cX12_count 200 = .ok (.invokestatic 112, 3) := by decide +kernel
theorem dX12_count_203 : decode cX12_count 203 = .ok (.ifCond .eq 24, 3) := by decide +kernel
theorem dX12_count_206 : decode cX12_count 206 = .ok (.aload_n 0, 1) := by decide +kernel
theorem dX12_count_207 : decode cX12_count 207 = .ok (.iload_n 1, 1) := by decide +kernel
theorem dX12_count_208 : decode cX12_count 208 = .ok (.bipush 100, 2) := by decide +kernel
theorem dX12_count_210 : decode cX12_count 210 = .ok (.isub, 1) := by decide +kernel
theorem dX12_count_211 : decode cX12_count 211 = .ok (.invokevirtual 289, 3) := by decide +kernel
theorem dX12_count_214 : decode cX12_count 214 = .ok (.ifCond .eq 13, 3) := by decide +kernel
theorem dX12_count_217 : decode cX12_count 217 = .ok (.aload_n 0, 1) := by decide +kernel
theorem dX12_count_218 : decode cX12_count 218 = .ok (.getfield 25, 3) := by decide +kernel
theorem dX12_count_221 : decode cX12_count 221 = .ok (.iload_n 1, 1) := by decide +kernel
theorem dX12_count_222 : decode cX12_count 222 = .ok (.bipush 100, 2) := by decide +kernel
theorem dX12_count_224 : decode cX12_count 224 = .ok (.isub, 1) := by decide +kernel
theorem dX12_count_225 : decode cX12_count 225 = .ok (.iaload, 1) := by decide +kernel
theorem dX12_count_226 : decode cX12_count 226 = .ok (.ireturn, 1) := by decide +kernel
theorem dX12_count_227 : decode cX12_count 227 = .ok (.iload_n 1, 1) := by decide +kernel
theorem dX12_count_228 : decode cX12_count 228 = .ok (.sipush 140, 3) := by decide +kernel
theorem dX12_count_231 : decode cX12_count 231 = .ok (.sipush 155, 3) := by decide +kernel
theorem dX12_count_234 : decode cX12_count 234 = .ok (.invokestatic 112, 3) := by decide +kernel
theorem dX12_count_237 : decode cX12_count 237 = .ok (.ifCond .ne 5, 3) := by decide +kernel
theorem dX12_count_240 : decode cX12_count 240 = .ok (.iconst (-1), 1) := by decide +kernel
theorem dX12_count_241 : decode cX12_count 241 = .ok (.ireturn, 1) := by decide +kernel
theorem dX12_count_242 : decode cX12_count 242 = .ok (.aload_n 0, 1) := by decide +kernel
theorem dX12_count_243 : decode cX12_count 243 = .ok (.getfield 28, 3) := by decide +kernel
theorem dX12_count_246 : decode cX12_count 246 = .ok (.iload_n 1, 1) := by decide +kernel
theorem dX12_count_247 : decode cX12_count 247 = .ok (.sipush 140, 3) := by decide +kernel
theorem dX12_count_250 : decode cX12_count 250 = .ok (.isub, 1) := by decide +kernel
theorem dX12_count_251 : decode cX12_count 251 = .ok (.iaload, 1) := by decide +kernel
theorem dX12_count_252 : decode cX12_count 252 = .ok (.iconst (-1), 1) := by decide +kernel
theorem dX12_count_253 : decode cX12_count 253 = .ok (.if_icmp .ne 8, 3) := by decide +kernel
theorem dX12_count_256 : decode cX12_count 256 = .ok (.bipush (-2), 2) := by decide +kernel
theorem dX12_count_258 : decode cX12_count 258 = .ok (.goto 33, 3) := by decide +kernel
theorem dX12_count_261 : decode cX12_count 261 = .ok (.aload_n 0, 1) := by decide +kernel
theorem dX12_count_262 : decode cX12_count 262 = .ok (.getfield 28, 3) := by decide +kernel
theorem dX12_count_265 : decode cX12_count 265 = .ok (.iload_n 1, 1) := by decide +kernel
theorem dX12_count_266 : decode cX12_count 266 = .ok (.sipush 140, 3) := by decide +kernel
theorem dX12_count_269 : decode cX12_count 269 = .ok (.isub, 1) := by decide +kernel
theorem dX12_count_270 : decode cX12_count 270 = .ok (.iaload, 1) := by decide +kernel
theorem dX12_count_271 : decode cX12_count 271 = .ok (.aload_n 0, 1) := by decide +kernel
theorem dX12_count_272 : decode cX12_count 272 = .ok (.getfield 31, 3) := by decide +kernel
theorem dX12_count_275 : decode cX12_count 275 = .ok (.iload_n 1, 1) := by decide +kernel
theorem dX12_count_276 : decode cX12_count 276 = .ok (.sipush 140, 3) := by decide +kernel
theorem dX12_count_279 : decode cX12_count 279 = .ok (.isub, 1) := by decide +kernel
theorem dX12_count_280 : decode cX12_count 280 = .ok (.baload, 1) := by decide +kernel
theorem dX12_count_281 : decode cX12_count 281 = .ok (.ifCond .eq 8, 3) := by decide +kernel
theorem dX12_count_284 : decode cX12_count 284 = .ok (.bipush 100, 2) := by decide +kernel
theorem dX12_count_286 : decode cX12_count 286 = .ok (.goto 4, 3) := by decide +kernel
theorem dX12_count_289 : decode cX12_count 289 = .ok (.iconst 0, 1) := by decide +kernel
theorem dX12_count_290 : decode cX12_count 290 = .ok (.iadd, 1) := by decide +kernel
theorem dX12_count_291 : decode cX12_count 291 = .ok (.ireturn, 1) := by decide +kernel
theorem rX12_count : (∀ (d : Nat) (a0 : Value) (x : Int32) (st : List Value) (h : fk_H), fk_ev d qX12_count 0 [a0, .int x] st h = fk_ev d qX12_count 1 [a0, .int x] (.int x :: st) h) ∧
  (∀ (d : Nat) (L st : List Value) (h : fk_H), fk_ev d qX12_count 1 L (.int (nI 0) :: st) h = fk_ev d qX12_count 56 L st h) ∧
  (∀ (d : Nat) (L st : List Value) (h : fk_H), fk_ev d qX12_count 1 L (.int (nI 1) :: st) h = fk_ev d qX12_count 65 L st h) ∧
  (∀ (d : Nat) (L st : List Value) (h : fk_H), fk_ev d qX12_count 1 L (.int (nI 2) :: st) h = fk_ev d qX12_count 74 L st h) ∧
  (∀ (d : Nat) (L st : List Value) (h : fk_H), fk_ev d qX12_count 1 L (.int (nI 3) :: st) h = fk_ev d qX12_count 79 L st h) ∧
  (∀ (d : Nat) (L st : List Value) (h : fk_H), fk_ev d qX12_count 1 L (.int (nI 4) :: st) h = fk_ev d qX12_count 84 L st h) ∧
  (∀ (d : Nat) (L st : List Value) (h : fk_H), fk_ev d qX12_count 1 L (.int (nI 5) :: st) h = fk_ev d qX12_count 89 L st h) ∧
  (∀ (d : Nat) (L st : List Value) (h : fk_H), fk_ev d qX12_count 1 L (.int (nI 6) :: st) h = fk_ev d qX12_count 98 L st h) ∧
  (∀ (d : Nat) (L st : List Value) (h : fk_H), fk_ev d qX12_count 1 L (.int (nI 7) :: st) h = fk_ev d qX12_count 103 L st h) ∧
  (∀ (d : Nat) (L st : List Value) (h : fk_H), fk_ev d qX12_count 1 L (.int (nI 8) :: st) h = fk_ev d qX12_count 112 L st h) ∧
  (∀ (d : Nat) (L st : List Value) (h : fk_H), fk_ev d qX12_count 1 L (.int (nI 9) :: st) h = fk_ev d qX12_count 121 L st h) ∧
  (∀ (d : Nat) (L : List Value) (x : Int32) (st : List Value) (h : fk_H), (x.toInt < 0 ∨ 9 < x.toInt) → fk_ev d qX12_count 1 L (.int x :: st) h = fk_ev d qX12_count 130 L st h) ∧
  (∀ (d : Nat) (a1 : Value) (x : Nat) (st : List Value) (h : fk_H), fk_ev d qX12_count 56 [.ref x, a1] st h = fk_ev d qX12_count 57 [.ref x, a1] (.ref x :: st) h) ∧
  (∀ (d : Nat) (L st : List Value) (N : Nat) (y : Nat → Nat → Int32) (l : Nat → Nat → Int64), fk_ev d qX12_count 57 L (.ref 246 :: st) (fk_E N y l) = fk_ev d qX12_count 60 L (.ref 247 :: st) (fk_E N y l)) ∧
  (∀ (d : Nat) (L st : List Value) (h : fk_H), fk_ev d qX12_count 60 L st h = fk_ev d qX12_count 63 L (.int (nI 832) :: st) h) ∧
  (∀ (d : Nat) (L st : List Value) (N : Nat) (y : Nat → Nat → Int32) (l : Nat → Nat → Int64) (i : Nat), i < 3912 → fk_ev d qX12_count 63 L (.int (nI i) :: .ref 247 :: st) (fk_E N y l) = fk_ev d qX12_count 64 L (.int (y 247 i) :: st) (fk_E N y l)) ∧
  (∀ (d : Nat) (L : List Value) (x : Int32) (h : fk_H), fk_ev d qX12_count 64 L [.int x] h = some (some (.int x), h)) ∧
  (∀ (d : Nat) (a1 : Value) (x : Nat) (st : List Value) (h : fk_H), fk_ev d qX12_count 65 [.ref x, a1] st h = fk_ev d qX12_count 66 [.ref x, a1] (.ref x :: st) h) ∧
  (∀ (d : Nat) (L st : List Value) (N : Nat) (y : Nat → Nat → Int32) (l : Nat → Nat → Int64), fk_ev d qX12_count 66 L (.ref 246 :: st) (fk_E N y l) = fk_ev d qX12_count 69 L (.ref 247 :: st) (fk_E N y l)) ∧
  (∀ (d : Nat) (L st : List Value) (h : fk_H), fk_ev d qX12_count 69 L st h = fk_ev d qX12_count 72 L (.int (nI 833) :: st) h) ∧
  (∀ (d : Nat) (L st : List Value) (N : Nat) (y : Nat → Nat → Int32) (l : Nat → Nat → Int64) (i : Nat), i < 3912 → fk_ev d qX12_count 72 L (.int (nI i) :: .ref 247 :: st) (fk_E N y l) = fk_ev d qX12_count 73 L (.int (y 247 i) :: st) (fk_E N y l)) ∧
  (∀ (d : Nat) (L : List Value) (x : Int32) (h : fk_H), fk_ev d qX12_count 73 L [.int x] h = some (some (.int x), h)) ∧
  (∀ (d : Nat) (a1 : Value) (x : Nat) (st : List Value) (h : fk_H), fk_ev d qX12_count 74 [.ref x, a1] st h = fk_ev d qX12_count 75 [.ref x, a1] (.ref x :: st) h) ∧
  (∀ (d : Nat) (L : List Value)   (N : Nat) (y : Nat → Nat → Int32) (l : Nat → Nat → Int64), fk_ev (d + 1) qX12_count 75 L (.ref 246 :: []) (fk_E N y l) = (fk_ev d qX12_living 0 [.ref 246, .null, .null] [] (fk_E N y l)).bind fun o => fk_ev (d + 1) qX12_count 78 L (o.1.toList ++ []) o.2) ∧
  (∀ (d : Nat) (L : List Value) (x : Int32) (h : fk_H), fk_ev d qX12_count 78 L [.int x] h = some (some (.int x), h)) ∧
  (∀ (d : Nat) (a1 : Value) (x : Nat) (st : List Value) (h : fk_H), fk_ev d qX12_count 79 [.ref x, a1] st h = fk_ev d qX12_count 80 [.ref x, a1] (.ref x :: st) h) ∧
  (∀ (d : Nat) (L st : List Value) (N : Nat) (y : Nat → Nat → Int32) (l : Nat → Nat → Int64), fk_ev d qX12_count 80 L (.ref 246 :: st) (fk_E N y l) = fk_ev d qX12_count 83 L (.int (y 246 19) :: st) (fk_E N y l)) ∧
  (∀ (d : Nat) (L : List Value) (x : Int32) (h : fk_H), fk_ev d qX12_count 83 L [.int x] h = some (some (.int x), h)) ∧
  (∀ (d : Nat) (a1 : Value) (x : Nat) (st : List Value) (h : fk_H), fk_ev d qX12_count 84 [.ref x, a1] st h = fk_ev d qX12_count 85 [.ref x, a1] (.ref x :: st) h) ∧
  (∀ (d : Nat) (L st : List Value) (N : Nat) (y : Nat → Nat → Int32) (l : Nat → Nat → Int64), fk_ev d qX12_count 85 L (.ref 246 :: st) (fk_E N y l) = fk_ev d qX12_count 88 L (.int (y 246 10) :: st) (fk_E N y l)) ∧
  (∀ (d : Nat) (L : List Value) (x : Int32) (h : fk_H), fk_ev d qX12_count 88 L [.int x] h = some (some (.int x), h)) ∧
  (∀ (d : Nat) (a1 : Value) (x : Nat) (st : List Value) (h : fk_H), fk_ev d qX12_count 89 [.ref x, a1] st h = fk_ev d qX12_count 90 [.ref x, a1] (.ref x :: st) h) ∧
  (∀ (d : Nat) (L st : List Value) (N : Nat) (y : Nat → Nat → Int32) (l : Nat → Nat → Int64), fk_ev d qX12_count 90 L (.ref 246 :: st) (fk_E N y l) = fk_ev d qX12_count 93 L (.ref 247 :: st) (fk_E N y l)) ∧
  (∀ (d : Nat) (L st : List Value) (h : fk_H), fk_ev d qX12_count 93 L st h = fk_ev d qX12_count 96 L (.int (nI 834) :: st) h) ∧
  (∀ (d : Nat) (L st : List Value) (N : Nat) (y : Nat → Nat → Int32) (l : Nat → Nat → Int64) (i : Nat), i < 3912 → fk_ev d qX12_count 96 L (.int (nI i) :: .ref 247 :: st) (fk_E N y l) = fk_ev d qX12_count 97 L (.int (y 247 i) :: st) (fk_E N y l)) ∧
  (∀ (d : Nat) (L : List Value) (x : Int32) (h : fk_H), fk_ev d qX12_count 97 L [.int x] h = some (some (.int x), h)) ∧
  (∀ (d : Nat) (a1 : Value) (x : Nat) (st : List Value) (h : fk_H), fk_ev d qX12_count 98 [.ref x, a1] st h = fk_ev d qX12_count 99 [.ref x, a1] (.ref x :: st) h) ∧
  (∀ (d : Nat) (L : List Value)   (N : Nat) (y : Nat → Nat → Int32) (l : Nat → Nat → Int64), fk_ev (d + 1) qX12_count 99 L (.ref 246 :: []) (fk_E N y l) = (fk_ev d qX12_roadMany 0 [.ref 246, .null, .null] [] (fk_E N y l)).bind fun o => fk_ev (d + 1) qX12_count 102 L (o.1.toList ++ []) o.2) ∧
  (∀ (d : Nat) (L : List Value) (x : Int32) (h : fk_H), fk_ev d qX12_count 102 L [.int x] h = some (some (.int x), h)) ∧
  (∀ (d : Nat) (a1 : Value) (x : Nat) (st : List Value) (h : fk_H), fk_ev d qX12_count 103 [.ref x, a1] st h = fk_ev d qX12_count 104 [.ref x, a1] (.ref x :: st) h) ∧
  (∀ (d : Nat) (L st : List Value) (N : Nat) (y : Nat → Nat → Int32) (l : Nat → Nat → Int64), fk_ev d qX12_count 104 L (.ref 246 :: st) (fk_E N y l) = fk_ev d qX12_count 107 L (.ref 247 :: st) (fk_E N y l)) ∧
  (∀ (d : Nat) (L st : List Value) (h : fk_H), fk_ev d qX12_count 107 L st h = fk_ev d qX12_count 110 L (.int (nI 835) :: st) h) ∧
  (∀ (d : Nat) (L st : List Value) (N : Nat) (y : Nat → Nat → Int32) (l : Nat → Nat → Int64) (i : Nat), i < 3912 → fk_ev d qX12_count 110 L (.int (nI i) :: .ref 247 :: st) (fk_E N y l) = fk_ev d qX12_count 111 L (.int (y 247 i) :: st) (fk_E N y l)) ∧
  (∀ (d : Nat) (L : List Value) (x : Int32) (h : fk_H), fk_ev d qX12_count 111 L [.int x] h = some (some (.int x), h)) ∧
  (∀ (d : Nat) (a1 : Value) (x : Nat) (st : List Value) (h : fk_H), fk_ev d qX12_count 112 [.ref x, a1] st h = fk_ev d qX12_count 113 [.ref x, a1] (.ref x :: st) h) ∧
  (∀ (d : Nat) (L st : List Value) (N : Nat) (y : Nat → Nat → Int32) (l : Nat → Nat → Int64), fk_ev d qX12_count 113 L (.ref 246 :: st) (fk_E N y l) = fk_ev d qX12_count 116 L (.ref 247 :: st) (fk_E N y l)) ∧
  (∀ (d : Nat) (L st : List Value) (h : fk_H), fk_ev d qX12_count 116 L st h = fk_ev d qX12_count 119 L (.int (nI 836) :: st) h) ∧
  (∀ (d : Nat) (L st : List Value) (N : Nat) (y : Nat → Nat → Int32) (l : Nat → Nat → Int64) (i : Nat), i < 3912 → fk_ev d qX12_count 119 L (.int (nI i) :: .ref 247 :: st) (fk_E N y l) = fk_ev d qX12_count 120 L (.int (y 247 i) :: st) (fk_E N y l)) ∧
  (∀ (d : Nat) (L : List Value) (x : Int32) (h : fk_H), fk_ev d qX12_count 120 L [.int x] h = some (some (.int x), h)) ∧
  (∀ (d : Nat) (a1 : Value) (x : Nat) (st : List Value) (h : fk_H), fk_ev d qX12_count 121 [.ref x, a1] st h = fk_ev d qX12_count 122 [.ref x, a1] (.ref x :: st) h) ∧
  (∀ (d : Nat) (L st : List Value) (N : Nat) (y : Nat → Nat → Int32) (l : Nat → Nat → Int64), fk_ev d qX12_count 122 L (.ref 246 :: st) (fk_E N y l) = fk_ev d qX12_count 125 L (.ref 247 :: st) (fk_E N y l)) ∧
  (∀ (d : Nat) (L st : List Value) (h : fk_H), fk_ev d qX12_count 125 L st h = fk_ev d qX12_count 128 L (.int (nI 837) :: st) h) ∧
  (∀ (d : Nat) (L st : List Value) (N : Nat) (y : Nat → Nat → Int32) (l : Nat → Nat → Int64) (i : Nat), i < 3912 → fk_ev d qX12_count 128 L (.int (nI i) :: .ref 247 :: st) (fk_E N y l) = fk_ev d qX12_count 129 L (.int (y 247 i) :: st) (fk_E N y l)) ∧
  (∀ (d : Nat) (L : List Value) (x : Int32) (h : fk_H), fk_ev d qX12_count 129 L [.int x] h = some (some (.int x), h)) ∧
  (∀ (d : Nat) (a0 : Value) (x : Int32) (st : List Value) (h : fk_H), fk_ev d qX12_count 130 [a0, .int x] st h = fk_ev d qX12_count 131 [a0, .int x] (.int x :: st) h) ∧
  (∀ (d : Nat) (L st : List Value) (h : fk_H), fk_ev d qX12_count 131 L st h = fk_ev d qX12_count 133 L (.int (nI 20) :: st) h) ∧
  (∀ (d : Nat) (L st : List Value) (h : fk_H), fk_ev d qX12_count 133 L st h = fk_ev d qX12_count 135 L (.int (nI 51) :: st) h) ∧
  (∀ (d : Nat) (L : List Value) (x0 : Int32) (x1 : Int32) (x2 : Int32)  (h : fk_H), fk_ev (d + 1) qX12_count 135 L (.int x2 :: .int x1 :: .int x0 :: []) h = (fk_ev d qX12_in 0 [.int x0, .int x1, .int x2] [] h).bind fun o => fk_ev (d + 1) qX12_count 138 L (o.1.toList ++ []) o.2) ∧
  (∀ (d : Nat) (L : List Value) (x : Int32) (st : List Value) (h : fk_H), fk_ev d qX12_count 138 L (.int x :: st) h = if x = nI 0 then fk_ev d qX12_count 162 L st h else fk_ev d qX12_count 141 L st h) ∧
  (∀ (d : Nat) (a1 : Value) (x : Nat) (st : List Value) (h : fk_H), fk_ev d qX12_count 141 [.ref x, a1] st h = fk_ev d qX12_count 142 [.ref x, a1] (.ref x :: st) h) ∧
  (∀ (d : Nat) (a0 : Value) (x : Int32) (st : List Value) (h : fk_H), fk_ev d qX12_count 142 [a0, .int x] st h = fk_ev d qX12_count 143 [a0, .int x] (.int x :: st) h) ∧
  (∀ (d : Nat) (L st : List Value) (h : fk_H), fk_ev d qX12_count 143 L st h = fk_ev d qX12_count 145 L (.int (nI 20) :: st) h) ∧
  (∀ (d : Nat) (L : List Value) (x y : Int32) (st : List Value) (h : fk_H), fk_ev d qX12_count 145 L (.int y :: .int x :: st) h = fk_ev d qX12_count 146 L (.int (x - y) :: st) h) ∧
  (∀ (d : Nat) (L : List Value) (x0 : Int32)  (N : Nat) (y : Nat → Nat → Int32) (l : Nat → Nat → Int64), fk_ev (d + 1) qX12_count 146 L (.int x0 :: .ref 246 :: []) (fk_E N y l) = (fk_ev d qX12_isRoad 0 [.ref 246, .int x0] [] (fk_E N y l)).bind fun o => fk_ev (d + 1) qX12_count 149 L (o.1.toList ++ []) o.2) ∧
  (∀ (d : Nat) (L : List Value) (x : Int32) (st : List Value) (h : fk_H), fk_ev d qX12_count 149 L (.int x :: st) h = if x = nI 0 then fk_ev d qX12_count 162 L st h else fk_ev d qX12_count 152 L st h) ∧
  (∀ (d : Nat) (a1 : Value) (x : Nat) (st : List Value) (h : fk_H), fk_ev d qX12_count 152 [.ref x, a1] st h = fk_ev d qX12_count 153 [.ref x, a1] (.ref x :: st) h) ∧
  (∀ (d : Nat) (L st : List Value) (N : Nat) (y : Nat → Nat → Int32) (l : Nat → Nat → Int64), fk_ev d qX12_count 153 L (.ref 246 :: st) (fk_E N y l) = fk_ev d qX12_count 156 L (.ref 250 :: st) (fk_E N y l)) ∧
  (∀ (d : Nat) (a0 : Value) (x : Int32) (st : List Value) (h : fk_H), fk_ev d qX12_count 156 [a0, .int x] st h = fk_ev d qX12_count 157 [a0, .int x] (.int x :: st) h) ∧
  (∀ (d : Nat) (L st : List Value) (h : fk_H), fk_ev d qX12_count 157 L st h = fk_ev d qX12_count 159 L (.int (nI 20) :: st) h) ∧
  (∀ (d : Nat) (L : List Value) (x y : Int32) (st : List Value) (h : fk_H), fk_ev d qX12_count 159 L (.int y :: .int x :: st) h = fk_ev d qX12_count 160 L (.int (x - y) :: st) h) ∧
  (∀ (d : Nat) (L st : List Value) (N : Nat) (y : Nat → Nat → Int32) (l : Nat → Nat → Int64) (i : Nat), i < 32 → fk_ev d qX12_count 160 L (.int (nI i) :: .ref 250 :: st) (fk_E N y l) = fk_ev d qX12_count 161 L (.int (y 250 i) :: st) (fk_E N y l)) ∧
  (∀ (d : Nat) (L : List Value) (x : Int32) (h : fk_H), fk_ev d qX12_count 161 L [.int x] h = some (some (.int x), h)) ∧
  (∀ (d : Nat) (a0 : Value) (x : Int32) (st : List Value) (h : fk_H), fk_ev d qX12_count 162 [a0, .int x] st h = fk_ev d qX12_count 163 [a0, .int x] (.int x :: st) h) ∧
  (∀ (d : Nat) (L st : List Value) (h : fk_H), fk_ev d qX12_count 163 L st h = fk_ev d qX12_count 165 L (.int (nI 60) :: st) h) ∧
  (∀ (d : Nat) (L st : List Value) (h : fk_H), fk_ev d qX12_count 165 L st h = fk_ev d qX12_count 167 L (.int (nI 91) :: st) h) ∧
  (∀ (d : Nat) (L : List Value) (x0 : Int32) (x1 : Int32) (x2 : Int32)  (h : fk_H), fk_ev (d + 1) qX12_count 167 L (.int x2 :: .int x1 :: .int x0 :: []) h = (fk_ev d qX12_in 0 [.int x0, .int x1, .int x2] [] h).bind fun o => fk_ev (d + 1) qX12_count 170 L (o.1.toList ++ []) o.2) ∧
  (∀ (d : Nat) (L : List Value) (x : Int32) (st : List Value) (h : fk_H), fk_ev d qX12_count 170 L (.int x :: st) h = if x = nI 0 then fk_ev d qX12_count 194 L st h else fk_ev d qX12_count 173 L st h) ∧
  (∀ (d : Nat) (a1 : Value) (x : Nat) (st : List Value) (h : fk_H), fk_ev d qX12_count 173 [.ref x, a1] st h = fk_ev d qX12_count 174 [.ref x, a1] (.ref x :: st) h) ∧
  (∀ (d : Nat) (a0 : Value) (x : Int32) (st : List Value) (h : fk_H), fk_ev d qX12_count 174 [a0, .int x] st h = fk_ev d qX12_count 175 [a0, .int x] (.int x :: st) h) ∧
  (∀ (d : Nat) (L st : List Value) (h : fk_H), fk_ev d qX12_count 175 L st h = fk_ev d qX12_count 177 L (.int (nI 60) :: st) h) ∧
  (∀ (d : Nat) (L : List Value) (x y : Int32) (st : List Value) (h : fk_H), fk_ev d qX12_count 177 L (.int y :: .int x :: st) h = fk_ev d qX12_count 178 L (.int (x - y) :: st) h) ∧
  (∀ (d : Nat) (L : List Value) (x0 : Int32)  (N : Nat) (y : Nat → Nat → Int32) (l : Nat → Nat → Int64), fk_ev (d + 1) qX12_count 178 L (.int x0 :: .ref 246 :: []) (fk_E N y l) = (fk_ev d qX12_isRoad 0 [.ref 246, .int x0] [] (fk_E N y l)).bind fun o => fk_ev (d + 1) qX12_count 181 L (o.1.toList ++ []) o.2) ∧
  (∀ (d : Nat) (L : List Value) (x : Int32) (st : List Value) (h : fk_H), fk_ev d qX12_count 181 L (.int x :: st) h = if x = nI 0 then fk_ev d qX12_count 194 L st h else fk_ev d qX12_count 184 L st h) ∧
  (∀ (d : Nat) (a1 : Value) (x : Nat) (st : List Value) (h : fk_H), fk_ev d qX12_count 184 [.ref x, a1] st h = fk_ev d qX12_count 185 [.ref x, a1] (.ref x :: st) h) ∧
  (∀ (d : Nat) (L st : List Value) (N : Nat) (y : Nat → Nat → Int32) (l : Nat → Nat → Int64), fk_ev d qX12_count 185 L (.ref 246 :: st) (fk_E N y l) = fk_ev d qX12_count 188 L (.ref 251 :: st) (fk_E N y l)) ∧
  (∀ (d : Nat) (a0 : Value) (x : Int32) (st : List Value) (h : fk_H), fk_ev d qX12_count 188 [a0, .int x] st h = fk_ev d qX12_count 189 [a0, .int x] (.int x :: st) h) ∧
  (∀ (d : Nat) (L st : List Value) (h : fk_H), fk_ev d qX12_count 189 L st h = fk_ev d qX12_count 191 L (.int (nI 60) :: st) h) ∧
  (∀ (d : Nat) (L : List Value) (x y : Int32) (st : List Value) (h : fk_H), fk_ev d qX12_count 191 L (.int y :: .int x :: st) h = fk_ev d qX12_count 192 L (.int (x - y) :: st) h) ∧
  (∀ (d : Nat) (L st : List Value) (N : Nat) (y : Nat → Nat → Int32) (l : Nat → Nat → Int64) (i : Nat), i < 32 → fk_ev d qX12_count 192 L (.int (nI i) :: .ref 251 :: st) (fk_E N y l) = fk_ev d qX12_count 193 L (.int (y 251 i) :: st) (fk_E N y l)) ∧
  (∀ (d : Nat) (L : List Value) (x : Int32) (h : fk_H), fk_ev d qX12_count 193 L [.int x] h = some (some (.int x), h)) ∧
  (∀ (d : Nat) (a0 : Value) (x : Int32) (st : List Value) (h : fk_H), fk_ev d qX12_count 194 [a0, .int x] st h = fk_ev d qX12_count 195 [a0, .int x] (.int x :: st) h) ∧
  (∀ (d : Nat) (L st : List Value) (h : fk_H), fk_ev d qX12_count 195 L st h = fk_ev d qX12_count 197 L (.int (nI 100) :: st) h) ∧
  (∀ (d : Nat) (L st : List Value) (h : fk_H), fk_ev d qX12_count 197 L st h = fk_ev d qX12_count 200 L (.int (nI 131) :: st) h) ∧
  (∀ (d : Nat) (L : List Value) (x0 : Int32) (x1 : Int32) (x2 : Int32)  (h : fk_H), fk_ev (d + 1) qX12_count 200 L (.int x2 :: .int x1 :: .int x0 :: []) h = (fk_ev d qX12_in 0 [.int x0, .int x1, .int x2] [] h).bind fun o => fk_ev (d + 1) qX12_count 203 L (o.1.toList ++ []) o.2) ∧
  (∀ (d : Nat) (L : List Value) (x : Int32) (st : List Value) (h : fk_H), fk_ev d qX12_count 203 L (.int x :: st) h = if x = nI 0 then fk_ev d qX12_count 227 L st h else fk_ev d qX12_count 206 L st h) ∧
  (∀ (d : Nat) (a1 : Value) (x : Nat) (st : List Value) (h : fk_H), fk_ev d qX12_count 206 [.ref x, a1] st h = fk_ev d qX12_count 207 [.ref x, a1] (.ref x :: st) h) ∧
  (∀ (d : Nat) (a0 : Value) (x : Int32) (st : List Value) (h : fk_H), fk_ev d qX12_count 207 [a0, .int x] st h = fk_ev d qX12_count 208 [a0, .int x] (.int x :: st) h) ∧
  (∀ (d : Nat) (L st : List Value) (h : fk_H), fk_ev d qX12_count 208 L st h = fk_ev d qX12_count 210 L (.int (nI 100) :: st) h) ∧
  (∀ (d : Nat) (L : List Value) (x y : Int32) (st : List Value) (h : fk_H), fk_ev d qX12_count 210 L (.int y :: .int x :: st) h = fk_ev d qX12_count 211 L (.int (x - y) :: st) h) ∧
  (∀ (d : Nat) (L : List Value) (x0 : Int32)  (N : Nat) (y : Nat → Nat → Int32) (l : Nat → Nat → Int64), fk_ev (d + 1) qX12_count 211 L (.int x0 :: .ref 246 :: []) (fk_E N y l) = (fk_ev d qX12_isRoad 0 [.ref 246, .int x0] [] (fk_E N y l)).bind fun o => fk_ev (d + 1) qX12_count 214 L (o.1.toList ++ []) o.2) ∧
  (∀ (d : Nat) (L : List Value) (x : Int32) (st : List Value) (h : fk_H), fk_ev d qX12_count 214 L (.int x :: st) h = if x = nI 0 then fk_ev d qX12_count 227 L st h else fk_ev d qX12_count 217 L st h) ∧
  (∀ (d : Nat) (a1 : Value) (x : Nat) (st : List Value) (h : fk_H), fk_ev d qX12_count 217 [.ref x, a1] st h = fk_ev d qX12_count 218 [.ref x, a1] (.ref x :: st) h) ∧
  (∀ (d : Nat) (L st : List Value) (N : Nat) (y : Nat → Nat → Int32) (l : Nat → Nat → Int64), fk_ev d qX12_count 218 L (.ref 246 :: st) (fk_E N y l) = fk_ev d qX12_count 221 L (.ref 252 :: st) (fk_E N y l)) ∧
  (∀ (d : Nat) (a0 : Value) (x : Int32) (st : List Value) (h : fk_H), fk_ev d qX12_count 221 [a0, .int x] st h = fk_ev d qX12_count 222 [a0, .int x] (.int x :: st) h) ∧
  (∀ (d : Nat) (L st : List Value) (h : fk_H), fk_ev d qX12_count 222 L st h = fk_ev d qX12_count 224 L (.int (nI 100) :: st) h) ∧
  (∀ (d : Nat) (L : List Value) (x y : Int32) (st : List Value) (h : fk_H), fk_ev d qX12_count 224 L (.int y :: .int x :: st) h = fk_ev d qX12_count 225 L (.int (x - y) :: st) h) ∧
  (∀ (d : Nat) (L st : List Value) (N : Nat) (y : Nat → Nat → Int32) (l : Nat → Nat → Int64) (i : Nat), i < 32 → fk_ev d qX12_count 225 L (.int (nI i) :: .ref 252 :: st) (fk_E N y l) = fk_ev d qX12_count 226 L (.int (y 252 i) :: st) (fk_E N y l)) ∧
  (∀ (d : Nat) (L : List Value) (x : Int32) (h : fk_H), fk_ev d qX12_count 226 L [.int x] h = some (some (.int x), h)) ∧
  (∀ (d : Nat) (a0 : Value) (x : Int32) (st : List Value) (h : fk_H), fk_ev d qX12_count 227 [a0, .int x] st h = fk_ev d qX12_count 228 [a0, .int x] (.int x :: st) h) ∧
  (∀ (d : Nat) (L st : List Value) (h : fk_H), fk_ev d qX12_count 228 L st h = fk_ev d qX12_count 231 L (.int (nI 140) :: st) h) ∧
  (∀ (d : Nat) (L st : List Value) (h : fk_H), fk_ev d qX12_count 231 L st h = fk_ev d qX12_count 234 L (.int (nI 155) :: st) h) ∧
  (∀ (d : Nat) (L : List Value) (x0 : Int32) (x1 : Int32) (x2 : Int32)  (h : fk_H), fk_ev (d + 1) qX12_count 234 L (.int x2 :: .int x1 :: .int x0 :: []) h = (fk_ev d qX12_in 0 [.int x0, .int x1, .int x2] [] h).bind fun o => fk_ev (d + 1) qX12_count 237 L (o.1.toList ++ []) o.2) ∧
  (∀ (d : Nat) (L : List Value) (x : Int32) (st : List Value) (h : fk_H), fk_ev d qX12_count 237 L (.int x :: st) h = if ¬ x = nI 0 then fk_ev d qX12_count 242 L st h else fk_ev d qX12_count 240 L st h) ∧
  (∀ (d : Nat) (L st : List Value) (h : fk_H), fk_ev d qX12_count 240 L st h = fk_ev d qX12_count 241 L (.int ((-1 : Int32)) :: st) h) ∧
  (∀ (d : Nat) (L : List Value) (x : Int32) (h : fk_H), fk_ev d qX12_count 241 L [.int x] h = some (some (.int x), h)) ∧
  (∀ (d : Nat) (a1 : Value) (x : Nat) (st : List Value) (h : fk_H), fk_ev d qX12_count 242 [.ref x, a1] st h = fk_ev d qX12_count 243 [.ref x, a1] (.ref x :: st) h) ∧
  (∀ (d : Nat) (L st : List Value) (N : Nat) (y : Nat → Nat → Int32) (l : Nat → Nat → Int64), fk_ev d qX12_count 243 L (.ref 246 :: st) (fk_E N y l) = fk_ev d qX12_count 246 L (.ref 253 :: st) (fk_E N y l)) ∧
  (∀ (d : Nat) (a0 : Value) (x : Int32) (st : List Value) (h : fk_H), fk_ev d qX12_count 246 [a0, .int x] st h = fk_ev d qX12_count 247 [a0, .int x] (.int x :: st) h) ∧
  (∀ (d : Nat) (L st : List Value) (h : fk_H), fk_ev d qX12_count 247 L st h = fk_ev d qX12_count 250 L (.int (nI 140) :: st) h) ∧
  (∀ (d : Nat) (L : List Value) (x y : Int32) (st : List Value) (h : fk_H), fk_ev d qX12_count 250 L (.int y :: .int x :: st) h = fk_ev d qX12_count 251 L (.int (x - y) :: st) h) ∧
  (∀ (d : Nat) (L st : List Value) (N : Nat) (y : Nat → Nat → Int32) (l : Nat → Nat → Int64) (i : Nat), i < 16 → fk_ev d qX12_count 251 L (.int (nI i) :: .ref 253 :: st) (fk_E N y l) = fk_ev d qX12_count 252 L (.int (y 253 i) :: st) (fk_E N y l)) ∧
  (∀ (d : Nat) (L st : List Value) (h : fk_H), fk_ev d qX12_count 252 L st h = fk_ev d qX12_count 253 L (.int ((-1 : Int32)) :: st) h) ∧
  (∀ (d : Nat) (L : List Value) (x y : Int32) (st : List Value) (h : fk_H), fk_ev d qX12_count 253 L (.int y :: .int x :: st) h = if ¬ x = y then fk_ev d qX12_count 261 L st h else fk_ev d qX12_count 256 L st h) ∧
  (∀ (d : Nat) (L st : List Value) (h : fk_H), fk_ev d qX12_count 256 L st h = fk_ev d qX12_count 258 L (.int ((-2 : Int32)) :: st) h) ∧
  (∀ (d : Nat) (L st : List Value) (h : fk_H), fk_ev d qX12_count 258 L st h = fk_ev d qX12_count 291 L st h) ∧
  (∀ (d : Nat) (a1 : Value) (x : Nat) (st : List Value) (h : fk_H), fk_ev d qX12_count 261 [.ref x, a1] st h = fk_ev d qX12_count 262 [.ref x, a1] (.ref x :: st) h) ∧
  (∀ (d : Nat) (L st : List Value) (N : Nat) (y : Nat → Nat → Int32) (l : Nat → Nat → Int64), fk_ev d qX12_count 262 L (.ref 246 :: st) (fk_E N y l) = fk_ev d qX12_count 265 L (.ref 253 :: st) (fk_E N y l)) ∧
  (∀ (d : Nat) (a0 : Value) (x : Int32) (st : List Value) (h : fk_H), fk_ev d qX12_count 265 [a0, .int x] st h = fk_ev d qX12_count 266 [a0, .int x] (.int x :: st) h) ∧
  (∀ (d : Nat) (L st : List Value) (h : fk_H), fk_ev d qX12_count 266 L st h = fk_ev d qX12_count 269 L (.int (nI 140) :: st) h) ∧
  (∀ (d : Nat) (L : List Value) (x y : Int32) (st : List Value) (h : fk_H), fk_ev d qX12_count 269 L (.int y :: .int x :: st) h = fk_ev d qX12_count 270 L (.int (x - y) :: st) h) ∧
  (∀ (d : Nat) (L st : List Value) (N : Nat) (y : Nat → Nat → Int32) (l : Nat → Nat → Int64) (i : Nat), i < 16 → fk_ev d qX12_count 270 L (.int (nI i) :: .ref 253 :: st) (fk_E N y l) = fk_ev d qX12_count 271 L (.int (y 253 i) :: st) (fk_E N y l)) ∧
  (∀ (d : Nat) (a1 : Value) (x : Nat) (st : List Value) (h : fk_H), fk_ev d qX12_count 271 [.ref x, a1] st h = fk_ev d qX12_count 272 [.ref x, a1] (.ref x :: st) h) ∧
  (∀ (d : Nat) (L st : List Value) (N : Nat) (y : Nat → Nat → Int32) (l : Nat → Nat → Int64), fk_ev d qX12_count 272 L (.ref 246 :: st) (fk_E N y l) = fk_ev d qX12_count 275 L (.ref 254 :: st) (fk_E N y l)) ∧
  (∀ (d : Nat) (a0 : Value) (x : Int32) (st : List Value) (h : fk_H), fk_ev d qX12_count 275 [a0, .int x] st h = fk_ev d qX12_count 276 [a0, .int x] (.int x :: st) h) ∧
  (∀ (d : Nat) (L st : List Value) (h : fk_H), fk_ev d qX12_count 276 L st h = fk_ev d qX12_count 279 L (.int (nI 140) :: st) h) ∧
  (∀ (d : Nat) (L : List Value) (x y : Int32) (st : List Value) (h : fk_H), fk_ev d qX12_count 279 L (.int y :: .int x :: st) h = fk_ev d qX12_count 280 L (.int (x - y) :: st) h) ∧
  (∀ (d : Nat) (L st : List Value) (N : Nat) (y : Nat → Nat → Int32) (l : Nat → Nat → Int64) (i : Nat), i < 16 → fk_ev d qX12_count 280 L (.int (nI i) :: .ref 254 :: st) (fk_E N y l) = fk_ev d qX12_count 281 L (.int (y 254 i) :: st) (fk_E N y l)) ∧
  (∀ (d : Nat) (L : List Value) (x : Int32) (st : List Value) (h : fk_H), fk_ev d qX12_count 281 L (.int x :: st) h = if x = nI 0 then fk_ev d qX12_count 289 L st h else fk_ev d qX12_count 284 L st h) ∧
  (∀ (d : Nat) (L st : List Value) (h : fk_H), fk_ev d qX12_count 284 L st h = fk_ev d qX12_count 286 L (.int (nI 100) :: st) h) ∧
  (∀ (d : Nat) (L st : List Value) (h : fk_H), fk_ev d qX12_count 286 L st h = fk_ev d qX12_count 290 L st h) ∧
  (∀ (d : Nat) (L st : List Value) (h : fk_H), fk_ev d qX12_count 289 L st h = fk_ev d qX12_count 290 L (.int (nI 0) :: st) h) ∧
  (∀ (d : Nat) (L : List Value) (x y : Int32) (st : List Value) (h : fk_H), fk_ev d qX12_count 290 L (.int y :: .int x :: st) h = fk_ev d qX12_count 291 L (.int (x + y) :: st) h) ∧
  (∀ (d : Nat) (L : List Value) (x : Int32) (h : fk_H), fk_ev d qX12_count 291 L [.int x] h = some (some (.int x), h)) := ⟨fun d a0 x st h => fk_w_iloadn 1 [a0, .int x] dX12_count_0 rfl,
  fun d L st h => fk_w_tab (0) (off := 55) dX12_count_1 (by decide) (by decide) (by decide) (by decide),
  fun d L st h => fk_w_tab (1) (off := 64) dX12_count_1 (by decide) (by decide) (by decide) (by decide),
  fun d L st h => fk_w_tab (2) (off := 73) dX12_count_1 (by decide) (by decide) (by decide) (by decide),
  fun d L st h => fk_w_tab (3) (off := 78) dX12_count_1 (by decide) (by decide) (by decide) (by decide),
  fun d L st h => fk_w_tab (4) (off := 83) dX12_count_1 (by decide) (by decide) (by decide) (by decide),
  fun d L st h => fk_w_tab (5) (off := 88) dX12_count_1 (by decide) (by decide) (by decide) (by decide),
  fun d L st h => fk_w_tab (6) (off := 97) dX12_count_1 (by decide) (by decide) (by decide) (by decide),
  fun d L st h => fk_w_tab (7) (off := 102) dX12_count_1 (by decide) (by decide) (by decide) (by decide),
  fun d L st h => fk_w_tab (8) (off := 111) dX12_count_1 (by decide) (by decide) (by decide) (by decide),
  fun d L st h => fk_w_tab (9) (off := 120) dX12_count_1 (by decide) (by decide) (by decide) (by decide),
  fun d L x st h hx => fk_w_tabo dX12_count_1 hx (by decide),
  fun d a1 x st h => fk_w_aloadn 0 [.ref x, a1] dX12_count_56 rfl,
  fun d L st N y l => fk_g_getC rfl lf_12_7 (by decide) rfl dX12_count_57 fk_at_246,
  fun d L st h => fk_w_sipush dX12_count_60 (by decide),
  fun d L st N y l i hi => fk_g_iald fk_at_247 fk_ln_247 (by decide) dX12_count_63 hi,
  fun d L x h => fk_r_ret dX12_count_64 (Or.inl rfl),
  fun d a1 x st h => fk_w_aloadn 0 [.ref x, a1] dX12_count_65 rfl,
  fun d L st N y l => fk_g_getC rfl lf_12_7 (by decide) rfl dX12_count_66 fk_at_246,
  fun d L st h => fk_w_sipush dX12_count_69 (by decide),
  fun d L st N y l i hi => fk_g_iald fk_at_247 fk_ln_247 (by decide) dX12_count_72 hi,
  fun d L x h => fk_r_ret dX12_count_73 (Or.inl rfl),
  fun d a1 x st h => fk_w_aloadn 0 [.ref x, a1] dX12_count_74 rfl,
  fun d L  N y l  => fk_g_call [] [] rfl lm_12_325 dX12_count_75 rfl ⟨rfl, by decide⟩ (by simp) fk_at_246,
  fun d L x h => fk_r_ret dX12_count_78 (Or.inl rfl),
  fun d a1 x st h => fk_w_aloadn 0 [.ref x, a1] dX12_count_79 rfl,
  fun d L st N y l => fk_g_getI rfl lf_12_247 (by decide) dX12_count_80 fk_at_246,
  fun d L x h => fk_r_ret dX12_count_83 (Or.inl rfl),
  fun d a1 x st h => fk_w_aloadn 0 [.ref x, a1] dX12_count_84 rfl,
  fun d L st N y l => fk_g_getI rfl lf_12_148 (by decide) dX12_count_85 fk_at_246,
  fun d L x h => fk_r_ret dX12_count_88 (Or.inl rfl),
  fun d a1 x st h => fk_w_aloadn 0 [.ref x, a1] dX12_count_89 rfl,
  fun d L st N y l => fk_g_getC rfl lf_12_7 (by decide) rfl dX12_count_90 fk_at_246,
  fun d L st h => fk_w_sipush dX12_count_93 (by decide),
  fun d L st N y l i hi => fk_g_iald fk_at_247 fk_ln_247 (by decide) dX12_count_96 hi,
  fun d L x h => fk_r_ret dX12_count_97 (Or.inl rfl),
  fun d a1 x st h => fk_w_aloadn 0 [.ref x, a1] dX12_count_98 rfl,
  fun d L  N y l  => fk_g_call [] [] rfl lm_12_428 dX12_count_99 rfl ⟨rfl, by decide⟩ (by simp) fk_at_246,
  fun d L x h => fk_r_ret dX12_count_102 (Or.inl rfl),
  fun d a1 x st h => fk_w_aloadn 0 [.ref x, a1] dX12_count_103 rfl,
  fun d L st N y l => fk_g_getC rfl lf_12_7 (by decide) rfl dX12_count_104 fk_at_246,
  fun d L st h => fk_w_sipush dX12_count_107 (by decide),
  fun d L st N y l i hi => fk_g_iald fk_at_247 fk_ln_247 (by decide) dX12_count_110 hi,
  fun d L x h => fk_r_ret dX12_count_111 (Or.inl rfl),
  fun d a1 x st h => fk_w_aloadn 0 [.ref x, a1] dX12_count_112 rfl,
  fun d L st N y l => fk_g_getC rfl lf_12_7 (by decide) rfl dX12_count_113 fk_at_246,
  fun d L st h => fk_w_sipush dX12_count_116 (by decide),
  fun d L st N y l i hi => fk_g_iald fk_at_247 fk_ln_247 (by decide) dX12_count_119 hi,
  fun d L x h => fk_r_ret dX12_count_120 (Or.inl rfl),
  fun d a1 x st h => fk_w_aloadn 0 [.ref x, a1] dX12_count_121 rfl,
  fun d L st N y l => fk_g_getC rfl lf_12_7 (by decide) rfl dX12_count_122 fk_at_246,
  fun d L st h => fk_w_sipush dX12_count_125 (by decide),
  fun d L st N y l i hi => fk_g_iald fk_at_247 fk_ln_247 (by decide) dX12_count_128 hi,
  fun d L x h => fk_r_ret dX12_count_129 (Or.inl rfl),
  fun d a0 x st h => fk_w_iloadn 1 [a0, .int x] dX12_count_130 rfl,
  fun d L st h => fk_w_bipush dX12_count_131 (by decide),
  fun d L st h => fk_w_bipush dX12_count_133 (by decide),
  fun d L x0 x1 x2 h => fk_g_calls [.int x0, .int x1, .int x2] [] rfl lm_12_112 dX12_count_135 rfl ⟨rfl, by decide⟩ (by simp),
  fun d L x st h => fk_r_if_eq dX12_count_138 (by decide),
  fun d a1 x st h => fk_w_aloadn 0 [.ref x, a1] dX12_count_141 rfl,
  fun d a0 x st h => fk_w_iloadn 1 [a0, .int x] dX12_count_142 rfl,
  fun d L st h => fk_w_bipush dX12_count_143 (by decide),
  fun d L x y st h => fk_r_isub dX12_count_145,
  fun d L x0 N y l  => fk_g_call [.int x0] [] rfl lm_12_289 dX12_count_146 rfl ⟨rfl, by decide⟩ (by simp) fk_at_246,
  fun d L x st h => fk_r_if_eq dX12_count_149 (by decide),
  fun d a1 x st h => fk_w_aloadn 0 [.ref x, a1] dX12_count_152 rfl,
  fun d L st N y l => fk_g_getC rfl lf_12_19 (by decide) rfl dX12_count_153 fk_at_246,
  fun d a0 x st h => fk_w_iloadn 1 [a0, .int x] dX12_count_156 rfl,
  fun d L st h => fk_w_bipush dX12_count_157 (by decide),
  fun d L x y st h => fk_r_isub dX12_count_159,
  fun d L st N y l i hi => fk_g_iald fk_at_250 fk_ln_250 (by decide) dX12_count_160 hi,
  fun d L x h => fk_r_ret dX12_count_161 (Or.inl rfl),
  fun d a0 x st h => fk_w_iloadn 1 [a0, .int x] dX12_count_162 rfl,
  fun d L st h => fk_w_bipush dX12_count_163 (by decide),
  fun d L st h => fk_w_bipush dX12_count_165 (by decide),
  fun d L x0 x1 x2 h => fk_g_calls [.int x0, .int x1, .int x2] [] rfl lm_12_112 dX12_count_167 rfl ⟨rfl, by decide⟩ (by simp),
  fun d L x st h => fk_r_if_eq dX12_count_170 (by decide),
  fun d a1 x st h => fk_w_aloadn 0 [.ref x, a1] dX12_count_173 rfl,
  fun d a0 x st h => fk_w_iloadn 1 [a0, .int x] dX12_count_174 rfl,
  fun d L st h => fk_w_bipush dX12_count_175 (by decide),
  fun d L x y st h => fk_r_isub dX12_count_177,
  fun d L x0 N y l  => fk_g_call [.int x0] [] rfl lm_12_289 dX12_count_178 rfl ⟨rfl, by decide⟩ (by simp) fk_at_246,
  fun d L x st h => fk_r_if_eq dX12_count_181 (by decide),
  fun d a1 x st h => fk_w_aloadn 0 [.ref x, a1] dX12_count_184 rfl,
  fun d L st N y l => fk_g_getC rfl lf_12_22 (by decide) rfl dX12_count_185 fk_at_246,
  fun d a0 x st h => fk_w_iloadn 1 [a0, .int x] dX12_count_188 rfl,
  fun d L st h => fk_w_bipush dX12_count_189 (by decide),
  fun d L x y st h => fk_r_isub dX12_count_191,
  fun d L st N y l i hi => fk_g_iald fk_at_251 fk_ln_251 (by decide) dX12_count_192 hi,
  fun d L x h => fk_r_ret dX12_count_193 (Or.inl rfl),
  fun d a0 x st h => fk_w_iloadn 1 [a0, .int x] dX12_count_194 rfl,
  fun d L st h => fk_w_bipush dX12_count_195 (by decide),
  fun d L st h => fk_w_sipush dX12_count_197 (by decide),
  fun d L x0 x1 x2 h => fk_g_calls [.int x0, .int x1, .int x2] [] rfl lm_12_112 dX12_count_200 rfl ⟨rfl, by decide⟩ (by simp),
  fun d L x st h => fk_r_if_eq dX12_count_203 (by decide),
  fun d a1 x st h => fk_w_aloadn 0 [.ref x, a1] dX12_count_206 rfl,
  fun d a0 x st h => fk_w_iloadn 1 [a0, .int x] dX12_count_207 rfl,
  fun d L st h => fk_w_bipush dX12_count_208 (by decide),
  fun d L x y st h => fk_r_isub dX12_count_210,
  fun d L x0 N y l  => fk_g_call [.int x0] [] rfl lm_12_289 dX12_count_211 rfl ⟨rfl, by decide⟩ (by simp) fk_at_246,
  fun d L x st h => fk_r_if_eq dX12_count_214 (by decide),
  fun d a1 x st h => fk_w_aloadn 0 [.ref x, a1] dX12_count_217 rfl,
  fun d L st N y l => fk_g_getC rfl lf_12_25 (by decide) rfl dX12_count_218 fk_at_246,
  fun d a0 x st h => fk_w_iloadn 1 [a0, .int x] dX12_count_221 rfl,
  fun d L st h => fk_w_bipush dX12_count_222 (by decide),
  fun d L x y st h => fk_r_isub dX12_count_224,
  fun d L st N y l i hi => fk_g_iald fk_at_252 fk_ln_252 (by decide) dX12_count_225 hi,
  fun d L x h => fk_r_ret dX12_count_226 (Or.inl rfl),
  fun d a0 x st h => fk_w_iloadn 1 [a0, .int x] dX12_count_227 rfl,
  fun d L st h => fk_w_sipush dX12_count_228 (by decide),
  fun d L st h => fk_w_sipush dX12_count_231 (by decide),
  fun d L x0 x1 x2 h => fk_g_calls [.int x0, .int x1, .int x2] [] rfl lm_12_112 dX12_count_234 rfl ⟨rfl, by decide⟩ (by simp),
  fun d L x st h => fk_r_if_ne dX12_count_237 (by decide),
  fun d L st h => fk_w_iconst dX12_count_240 (by decide),
  fun d L x h => fk_r_ret dX12_count_241 (Or.inl rfl),
  fun d a1 x st h => fk_w_aloadn 0 [.ref x, a1] dX12_count_242 rfl,
  fun d L st N y l => fk_g_getC rfl lf_12_28 (by decide) rfl dX12_count_243 fk_at_246,
  fun d a0 x st h => fk_w_iloadn 1 [a0, .int x] dX12_count_246 rfl,
  fun d L st h => fk_w_sipush dX12_count_247 (by decide),
  fun d L x y st h => fk_r_isub dX12_count_250,
  fun d L st N y l i hi => fk_g_iald fk_at_253 fk_ln_253 (by decide) dX12_count_251 hi,
  fun d L st h => fk_w_iconst dX12_count_252 (by decide),
  fun d L x y st h => fk_r_icmp_ne dX12_count_253 (by decide),
  fun d L st h => fk_w_bipush dX12_count_256 (by decide),
  fun d L st h => fk_r_goto dX12_count_258 (by decide),
  fun d a1 x st h => fk_w_aloadn 0 [.ref x, a1] dX12_count_261 rfl,
  fun d L st N y l => fk_g_getC rfl lf_12_28 (by decide) rfl dX12_count_262 fk_at_246,
  fun d a0 x st h => fk_w_iloadn 1 [a0, .int x] dX12_count_265 rfl,
  fun d L st h => fk_w_sipush dX12_count_266 (by decide),
  fun d L x y st h => fk_r_isub dX12_count_269,
  fun d L st N y l i hi => fk_g_iald fk_at_253 fk_ln_253 (by decide) dX12_count_270 hi,
  fun d a1 x st h => fk_w_aloadn 0 [.ref x, a1] dX12_count_271 rfl,
  fun d L st N y l => fk_g_getC rfl lf_12_31 (by decide) rfl dX12_count_272 fk_at_246,
  fun d a0 x st h => fk_w_iloadn 1 [a0, .int x] dX12_count_275 rfl,
  fun d L st h => fk_w_sipush dX12_count_276 (by decide),
  fun d L x y st h => fk_r_isub dX12_count_279,
  fun d L st N y l i hi => fk_g_bald (Or.inr rfl) fk_at_254 fk_ln_254 (by decide) dX12_count_280 hi,
  fun d L x st h => fk_r_if_eq dX12_count_281 (by decide),
  fun d L st h => fk_w_bipush dX12_count_284 (by decide),
  fun d L st h => fk_r_goto dX12_count_286 (by decide),
  fun d L st h => fk_w_iconst dX12_count_289 (by decide),
  fun d L x y st h => fk_r_iadd dX12_count_290,
  fun d L x h => fk_r_ret dX12_count_291 (Or.inl rfl)⟩
