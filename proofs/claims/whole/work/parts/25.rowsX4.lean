theorem dX11_whoWas_0 : decode cX11_whoWas 0 = .ok (.iload_n 1, 1) := by decide +kernel
theorem dX11_whoWas_1 : decode cX11_whoWas 1 = .ok (.iconst 1, 1) := by decide +kernel
theorem dX11_whoWas_2 : decode cX11_whoWas 2 = .ok (.if_icmp .lt 30, 3) := by decide +kernel
theorem dX11_whoWas_5 : decode cX11_whoWas 5 = .ok (.iload_n 1, 1) := by decide +kernel
theorem dX11_whoWas_6 : decode cX11_whoWas 6 = .ok (.bipush 8, 2) := by decide +kernel
theorem dX11_whoWas_8 : decode cX11_whoWas 8 = .ok (.if_icmp .gt 24, 3) := by decide +kernel
theorem dX11_whoWas_11 : decode cX11_whoWas 11 = .ok (.iload_n 2, 1) := by decide +kernel
theorem dX11_whoWas_12 : decode cX11_whoWas 12 = .ok (.iconst 2, 1) := by decide +kernel
theorem dX11_whoWas_13 : decode cX11_whoWas 13 = .ok (.invokestatic 110, 3) := by decide +kernel
theorem dX11_whoWas_16 : decode cX11_whoWas 16 = .ok (.ifCond .eq 16, 3) := by decide +kernel
theorem dX11_whoWas_19 : decode cX11_whoWas 19 = .ok (.iconst 3, 1) := by decide +kernel
theorem dX11_whoWas_20 : decode cX11_whoWas 20 = .ok (.iload_n 1, 1) := by decide +kernel
theorem dX11_whoWas_21 : decode cX11_whoWas 21 = .ok (.imul, 1) := by decide +kernel
theorem dX11_whoWas_22 : decode cX11_whoWas 22 = .ok (.aload_n 0, 1) := by decide +kernel
theorem dX11_whoWas_23 : decode cX11_whoWas 23 = .ok (.getfield 33, 3) := by decide +kernel
theorem dX11_whoWas_26 : decode cX11_whoWas 26 = .ok (.getfield 160, 3) := by decide +kernel
theorem dX11_whoWas_29 : decode cX11_whoWas 29 = .ok (.if_icmp .le 5, 3) := by decide +kernel
theorem dX11_whoWas_32 : decode cX11_whoWas 32 = .ok (.iconst (-1), 1) := by decide +kernel
theorem dX11_whoWas_33 : decode cX11_whoWas 33 = .ok (.ireturn, 1) := by decide +kernel
theorem dX11_whoWas_34 : decode cX11_whoWas 34 = .ok (.iconst 1, 1) := by decide +kernel
theorem dX11_whoWas_35 : decode cX11_whoWas 35 = .ok (.istore_n 3, 1) := by decide +kernel
theorem dX11_whoWas_36 : decode cX11_whoWas 36 = .ok (.iconst 0, 1) := by decide +kernel
theorem dX11_whoWas_37 : decode cX11_whoWas 37 = .ok (.istore 4, 2) := by decide +kernel
theorem dX11_whoWas_39 : decode cX11_whoWas 39 = .ok (.iload 4, 2) := by decide +kernel
theorem dX11_whoWas_41 : decode cX11_whoWas 41 = .ok (.iload_n 1, 1) := by decide +kernel
theorem dX11_whoWas_42 : decode cX11_whoWas 42 = .ok (.if_icmp .ge 53, 3) := by decide +kernel
theorem dX11_whoWas_45 : decode cX11_whoWas 45 = .ok (.iload_n 3, 1) := by decide +kernel
theorem dX11_whoWas_46 : decode cX11_whoWas 46 = .ok (.ifCond .eq 41, 3) := by decide +kernel
theorem dX11_whoWas_49 : decode cX11_whoWas 49 = .ok (.aload_n 0, 1) := by decide +kernel
theorem dX11_whoWas_50 : decode cX11_whoWas 50 = .ok (.iload 4, 2) := by decide +kernel
theorem dX11_whoWas_52 : decode cX11_whoWas 52 = .ok (.invokevirtual 310, 3) := by decide +kernel
theorem dX11_whoWas_55 : decode cX11_whoWas 55 = .ok (.bipush 16, 2) := by decide +kernel
theorem dX11_whoWas_57 : decode cX11_whoWas 57 = .ok (.invokestatic 110, 3) := by decide +kernel
theorem dX11_whoWas_60 : decode cX11_whoWas 60 = .ok (.ifCond .eq 27, 3) := by decide +kernel
theorem dX11_whoWas_63 : decode cX11_whoWas 63 = .ok (.aload_n 0, 1) := by decide +kernel
theorem dX11_whoWas_64 : decode cX11_whoWas 64 = .ok (.getfield 71, 3) := by decide +kernel
theorem dX11_whoWas_67 : decode cX11_whoWas 67 = .ok (.aload_n 0, 1) := by decide +kernel
theorem dX11_whoWas_68 : decode cX11_whoWas 68 = .ok (.getfield 58, 3) := by decide +kernel
theorem dX11_whoWas_71 : decode cX11_whoWas 71 = .ok (.aload_n 0, 1) := by decide +kernel
theorem dX11_whoWas_72 : decode cX11_whoWas 72 = .ok (.iload 4, 2) := by decide +kernel
theorem dX11_whoWas_74 : decode cX11_whoWas 74 = .ok (.invokevirtual 313, 3) := by decide +kernel
theorem dX11_whoWas_77 : decode cX11_whoWas 77 = .ok (.invokevirtual 316, 3) := by decide +kernel
theorem dX11_whoWas_80 : decode cX11_whoWas 80 = .ok (.ifCond .eq 7, 3) := by decide +kernel
theorem dX11_whoWas_83 : decode cX11_whoWas 83 = .ok (.iconst 1, 1) := by decide +kernel
theorem dX11_whoWas_84 : decode cX11_whoWas 84 = .ok (.goto 4, 3) := by decide +kernel
theorem dX11_whoWas_87 : decode cX11_whoWas 87 = .ok (.iconst 0, 1) := by decide +kernel
theorem dX11_whoWas_88 : decode cX11_whoWas 88 = .ok (.istore_n 3, 1) := by decide +kernel
theorem dX11_whoWas_89 : decode cX11_whoWas 89 = .ok (.iinc 4 1, 3) := by decide +kernel
theorem dX11_whoWas_92 : decode cX11_whoWas 92 = .ok (.goto (-53), 3) := by decide +kernel
theorem dX11_whoWas_95 : decode cX11_whoWas 95 = .ok (.iconst 0, 1) := by decide +kernel
theorem dX11_whoWas_96 : decode cX11_whoWas 96 = .ok (.istore 4, 2) := by decide +kernel
theorem dX11_whoWas_98 : decode cX11_whoWas 98 = .ok (.bipush (-2), 2) := by decide +kernel
theorem dX11_whoWas_100 : decode cX11_whoWas 100 = .ok (.istore 5, 2) := by decide +kernel
theorem dX11_whoWas_102 : decode cX11_whoWas 102 = .ok (.iconst 0, 1) := by decide +kernel
theorem dX11_whoWas_103 : decode cX11_whoWas 103 = .ok (.istore 6, 2) := by decide +kernel
theorem dX11_whoWas_105 : decode cX11_whoWas 105 = .ok (.iload_n 3, 1) := by decide +kernel
theorem dX11_whoWas_106 : decode cX11_whoWas 106 = .ok (.ifCond .eq 48, 3) := by decide +kernel
theorem dX11_whoWas_109 : decode cX11_whoWas 109 = .ok (.iload 6, 2) := by decide +kernel
theorem dX11_whoWas_111 : decode cX11_whoWas 111 = .ok (.aload_n 0, 1) := by decide +kernel
theorem dX11_whoWas_112 : decode cX11_whoWas 112 = .ok (.getfield 58, 3) := by decide +kernel
theorem dX11_whoWas_115 : decode cX11_whoWas 115 = .ok (.getfield 127, 3) := by decide +kernel
theorem dX11_whoWas_118 : decode cX11_whoWas 118 = .ok (.if_icmp .ge 36, 3) := by decide +kernel
theorem dX11_whoWas_121 : decode cX11_whoWas 121 = .ok (.aload_n 0, 1) := by decide +kernel
theorem dX11_whoWas_122 : decode cX11_whoWas 122 = .ok (.iload 6, 2) := by decide +kernel
theorem dX11_whoWas_124 : decode cX11_whoWas 124 = .ok (.iload_n 1, 1) := by decide +kernel
theorem dX11_whoWas_125 : decode cX11_whoWas 125 = .ok (.invokevirtual 320, 3) := by decide +kernel
theorem dX11_whoWas_128 : decode cX11_whoWas 128 = .ok (.ifCond .eq 20, 3) := by decide +kernel
theorem dX11_whoWas_131 : decode cX11_whoWas 131 = .ok (.iload 4, 2) := by decide +kernel
theorem dX11_whoWas_133 : decode cX11_whoWas 133 = .ok (.ifCond .ne 8, 3) := by decide +kernel
theorem dX11_whoWas_136 : decode cX11_whoWas 136 = .ok (.iload 6, 2) := by decide +kernel
theorem dX11_whoWas_138 : decode cX11_whoWas 138 = .ok (.goto 5, 3) := by decide +kernel
theorem dX11_whoWas_141 : decode cX11_whoWas 141 = .ok (.iload 5, 2) := by decide +kernel
theorem dX11_whoWas_143 : decode cX11_whoWas 143 = .ok (.istore 5, 2) := by decide +kernel
theorem dX11_whoWas_145 : decode cX11_whoWas 145 = .ok (.iinc 4 1, 3) := by decide +kernel
theorem dX11_whoWas_148 : decode cX11_whoWas 148 = .ok (.iinc 6 1, 3) := by decide +kernel
theorem dX11_whoWas_151 : decode cX11_whoWas 151 = .ok (.goto (-46), 3) := by decide +kernel
theorem dX11_whoWas_154 : decode cX11_whoWas 154 = .ok (.aload_n 0, 1) := by decide +kernel
theorem dX11_whoWas_155 : decode cX11_whoWas 155 = .ok (.getfield 33, 3) := by decide +kernel
theorem dX11_whoWas_158 : decode cX11_whoWas 158 = .ok (.invokevirtual 167, 3) := by decide +kernel
theorem dX11_whoWas_161 : decode cX11_whoWas 161 = .ok (.iload_n 3, 1) := by decide +kernel
theorem dX11_whoWas_162 : decode cX11_whoWas 162 = .ok (.ifCond .ne 6, 3) := by decide +kernel
theorem dX11_whoWas_165 : decode cX11_whoWas 165 = .ok (.bipush (-2), 2) := by decide +kernel
theorem dX11_whoWas_167 : decode cX11_whoWas 167 = .ok (.ireturn, 1) := by decide +kernel
theorem dX11_whoWas_168 : decode cX11_whoWas 168 = .ok (.iload_n 2, 1) := by decide +kernel
theorem dX11_whoWas_169 : decode cX11_whoWas 169 = .ok (.ifCond .ne 8, 3) := by decide +kernel
theorem dX11_whoWas_172 : decode cX11_whoWas 172 = .ok (.iload 4, 2) := by decide +kernel
theorem dX11_whoWas_174 : decode cX11_whoWas 174 = .ok (.goto 5, 3) := by decide +kernel
theorem dX11_whoWas_177 : decode cX11_whoWas 177 = .ok (.iload 5, 2) := by decide +kernel
theorem dX11_whoWas_179 : decode cX11_whoWas 179 = .ok (.ireturn, 1) := by decide +kernel
theorem rX11_whoWas : (∀ (d : Nat) (a0 a2 a3 a4 a5 a6 : Value) (x : Int32) (st : List Value) (h : fk_H), fk_ev d qX11_whoWas 0 [a0, .int x, a2, a3, a4, a5, a6] st h = fk_ev d qX11_whoWas 1 [a0, .int x, a2, a3, a4, a5, a6] (.int x :: st) h) ∧
  (∀ (d : Nat) (L st : List Value) (h : fk_H), fk_ev d qX11_whoWas 1 L st h = fk_ev d qX11_whoWas 2 L (.int (nI 1) :: st) h) ∧
  (∀ (d : Nat) (L : List Value) (x y : Int32) (st : List Value) (h : fk_H), fk_ev d qX11_whoWas 2 L (.int y :: .int x :: st) h = if x < y then fk_ev d qX11_whoWas 32 L st h else fk_ev d qX11_whoWas 5 L st h) ∧
  (∀ (d : Nat) (a0 a2 a3 a4 a5 a6 : Value) (x : Int32) (st : List Value) (h : fk_H), fk_ev d qX11_whoWas 5 [a0, .int x, a2, a3, a4, a5, a6] st h = fk_ev d qX11_whoWas 6 [a0, .int x, a2, a3, a4, a5, a6] (.int x :: st) h) ∧
  (∀ (d : Nat) (L st : List Value) (h : fk_H), fk_ev d qX11_whoWas 6 L st h = fk_ev d qX11_whoWas 8 L (.int (nI 8) :: st) h) ∧
  (∀ (d : Nat) (L : List Value) (x y : Int32) (st : List Value) (h : fk_H), fk_ev d qX11_whoWas 8 L (.int y :: .int x :: st) h = if y < x then fk_ev d qX11_whoWas 32 L st h else fk_ev d qX11_whoWas 11 L st h) ∧
  (∀ (d : Nat) (a0 a1 a3 a4 a5 a6 : Value) (x : Int32) (st : List Value) (h : fk_H), fk_ev d qX11_whoWas 11 [a0, a1, .int x, a3, a4, a5, a6] st h = fk_ev d qX11_whoWas 12 [a0, a1, .int x, a3, a4, a5, a6] (.int x :: st) h) ∧
  (∀ (d : Nat) (L st : List Value) (h : fk_H), fk_ev d qX11_whoWas 12 L st h = fk_ev d qX11_whoWas 13 L (.int (nI 2) :: st) h) ∧
  (∀ (d : Nat) (L : List Value) (x0 : Int32) (x1 : Int32)  (h : fk_H), fk_ev (d + 1) qX11_whoWas 13 L (.int x1 :: .int x0 :: []) h = (fk_ev d qX11_within 0 [.int x0, .int x1] [] h).bind fun o => fk_ev (d + 1) qX11_whoWas 16 L (o.1.toList ++ []) o.2) ∧
  (∀ (d : Nat) (L : List Value) (x : Int32) (st : List Value) (h : fk_H), fk_ev d qX11_whoWas 16 L (.int x :: st) h = if x = nI 0 then fk_ev d qX11_whoWas 32 L st h else fk_ev d qX11_whoWas 19 L st h) ∧
  (∀ (d : Nat) (L st : List Value) (h : fk_H), fk_ev d qX11_whoWas 19 L st h = fk_ev d qX11_whoWas 20 L (.int (nI 3) :: st) h) ∧
  (∀ (d : Nat) (a0 a2 a3 a4 a5 a6 : Value) (x : Int32) (st : List Value) (h : fk_H), fk_ev d qX11_whoWas 20 [a0, .int x, a2, a3, a4, a5, a6] st h = fk_ev d qX11_whoWas 21 [a0, .int x, a2, a3, a4, a5, a6] (.int x :: st) h) ∧
  (∀ (d : Nat) (L : List Value) (x y : Int32) (st : List Value) (h : fk_H), fk_ev d qX11_whoWas 21 L (.int y :: .int x :: st) h = fk_ev d qX11_whoWas 22 L (.int (x * y) :: st) h) ∧
  (∀ (d : Nat) (a1 a2 a3 a4 a5 a6 : Value) (x : Nat) (st : List Value) (h : fk_H), fk_ev d qX11_whoWas 22 [.ref x, a1, a2, a3, a4, a5, a6] st h = fk_ev d qX11_whoWas 23 [.ref x, a1, a2, a3, a4, a5, a6] (.ref x :: st) h) ∧
  (∀ (d : Nat) (L st : List Value) (N : Nat) (y : Nat → Nat → Int32) (l : Nat → Nat → Int64), fk_ev d qX11_whoWas 23 L (.ref 1 :: st) (fk_E N y l) = fk_ev d qX11_whoWas 26 L (.ref 26 :: st) (fk_E N y l)) ∧
  (∀ (d : Nat) (L st : List Value) (N : Nat) (y : Nat → Nat → Int32) (l : Nat → Nat → Int64), fk_ev d qX11_whoWas 26 L (.ref 26 :: st) (fk_E N y l) = fk_ev d qX11_whoWas 29 L (.int (y 26 1) :: st) (fk_E N y l)) ∧
  (∀ (d : Nat) (L : List Value) (x y : Int32) (st : List Value) (h : fk_H), fk_ev d qX11_whoWas 29 L (.int y :: .int x :: st) h = if x ≤ y then fk_ev d qX11_whoWas 34 L st h else fk_ev d qX11_whoWas 32 L st h) ∧
  (∀ (d : Nat) (L st : List Value) (h : fk_H), fk_ev d qX11_whoWas 32 L st h = fk_ev d qX11_whoWas 33 L (.int ((-1 : Int32)) :: st) h) ∧
  (∀ (d : Nat) (L : List Value) (x : Int32) (h : fk_H), fk_ev d qX11_whoWas 33 L [.int x] h = some (some (.int x), h)) ∧
  (∀ (d : Nat) (L st : List Value) (h : fk_H), fk_ev d qX11_whoWas 34 L st h = fk_ev d qX11_whoWas 35 L (.int (nI 1) :: st) h) ∧
  (∀ (d : Nat) (a0 a1 a2 a3 a4 a5 a6 : Value) (x : Int32) (st : List Value) (h : fk_H), fk_ev d qX11_whoWas 35 [a0, a1, a2, a3, a4, a5, a6] (.int x :: st) h = fk_ev d qX11_whoWas 36 [a0, a1, a2, .int x, a4, a5, a6] st h) ∧
  (∀ (d : Nat) (L st : List Value) (h : fk_H), fk_ev d qX11_whoWas 36 L st h = fk_ev d qX11_whoWas 37 L (.int (nI 0) :: st) h) ∧
  (∀ (d : Nat) (a0 a1 a2 a3 a4 a5 a6 : Value) (x : Int32) (st : List Value) (h : fk_H), fk_ev d qX11_whoWas 37 [a0, a1, a2, a3, a4, a5, a6] (.int x :: st) h = fk_ev d qX11_whoWas 39 [a0, a1, a2, a3, .int x, a5, a6] st h) ∧
  (∀ (d : Nat) (a0 a2 a3 a4 a5 a6 : Value) (x : Int32) (st : List Value) (h : fk_H), fk_ev d qX11_whoWas 41 [a0, .int x, a2, a3, a4, a5, a6] st h = fk_ev d qX11_whoWas 42 [a0, .int x, a2, a3, a4, a5, a6] (.int x :: st) h) ∧
  (∀ (d : Nat) (L : List Value) (x y : Int32) (st : List Value) (h : fk_H), fk_ev d qX11_whoWas 42 L (.int y :: .int x :: st) h = if y ≤ x then fk_ev d qX11_whoWas 95 L st h else fk_ev d qX11_whoWas 45 L st h) ∧
  (∀ (d : Nat) (a0 a1 a2 a4 a5 a6 : Value) (x : Int32) (st : List Value) (h : fk_H), fk_ev d qX11_whoWas 45 [a0, a1, a2, .int x, a4, a5, a6] st h = fk_ev d qX11_whoWas 46 [a0, a1, a2, .int x, a4, a5, a6] (.int x :: st) h) ∧
  (∀ (d : Nat) (L : List Value) (x : Int32) (st : List Value) (h : fk_H), fk_ev d qX11_whoWas 46 L (.int x :: st) h = if x = nI 0 then fk_ev d qX11_whoWas 87 L st h else fk_ev d qX11_whoWas 49 L st h) ∧
  (∀ (d : Nat) (a1 a2 a3 a4 a5 a6 : Value) (x : Nat) (st : List Value) (h : fk_H), fk_ev d qX11_whoWas 49 [.ref x, a1, a2, a3, a4, a5, a6] st h = fk_ev d qX11_whoWas 50 [.ref x, a1, a2, a3, a4, a5, a6] (.ref x :: st) h) ∧
  (∀ (d : Nat) (a0 a1 a2 a3 a5 a6 : Value) (x : Int32) (st : List Value) (h : fk_H), fk_ev d qX11_whoWas 50 [a0, a1, a2, a3, .int x, a5, a6] st h = fk_ev d qX11_whoWas 52 [a0, a1, a2, a3, .int x, a5, a6] (.int x :: st) h) ∧
  (∀ (d : Nat) (L : List Value) (x0 : Int32)  (N : Nat) (y : Nat → Nat → Int32) (l : Nat → Nat → Int64), fk_ev (d + 1) qX11_whoWas 52 L (.int x0 :: .ref 1 :: []) (fk_E N y l) = (fk_ev d qX11_seenPlace 0 [.ref 1, .int x0] [] (fk_E N y l)).bind fun o => fk_ev (d + 1) qX11_whoWas 55 L (o.1.toList ++ []) o.2) ∧
  (∀ (d : Nat) (L st : List Value) (h : fk_H), fk_ev d qX11_whoWas 55 L st h = fk_ev d qX11_whoWas 57 L (.int (nI 16) :: st) h) ∧
  (∀ (d : Nat) (L : List Value) (x0 : Int32) (x1 : Int32)  (h : fk_H), fk_ev (d + 1) qX11_whoWas 57 L (.int x1 :: .int x0 :: []) h = (fk_ev d qX11_within 0 [.int x0, .int x1] [] h).bind fun o => fk_ev (d + 1) qX11_whoWas 60 L (o.1.toList ++ []) o.2) ∧
  (∀ (d : Nat) (L : List Value) (x : Int32) (st : List Value) (h : fk_H), fk_ev d qX11_whoWas 60 L (.int x :: st) h = if x = nI 0 then fk_ev d qX11_whoWas 87 L st h else fk_ev d qX11_whoWas 63 L st h) ∧
  (∀ (d : Nat) (a1 a2 a3 a4 a5 a6 : Value) (x : Nat) (st : List Value) (h : fk_H), fk_ev d qX11_whoWas 63 [.ref x, a1, a2, a3, a4, a5, a6] st h = fk_ev d qX11_whoWas 64 [.ref x, a1, a2, a3, a4, a5, a6] (.ref x :: st) h) ∧
  (∀ (d : Nat) (L st : List Value) (N : Nat) (y : Nat → Nat → Int32) (l : Nat → Nat → Int64), fk_ev d qX11_whoWas 64 L (.ref 1 :: st) (fk_E N y l) = fk_ev d qX11_whoWas 67 L (.ref 234 :: st) (fk_E N y l)) ∧
  (∀ (d : Nat) (a1 a2 a3 a4 a5 a6 : Value) (x : Nat) (st : List Value) (h : fk_H), fk_ev d qX11_whoWas 67 [.ref x, a1, a2, a3, a4, a5, a6] st h = fk_ev d qX11_whoWas 68 [.ref x, a1, a2, a3, a4, a5, a6] (.ref x :: st) h) ∧
  (∀ (d : Nat) (L st : List Value) (N : Nat) (y : Nat → Nat → Int32) (l : Nat → Nat → Int64), fk_ev d qX11_whoWas 68 L (.ref 1 :: st) (fk_E N y l) = fk_ev d qX11_whoWas 71 L (.ref 33 :: st) (fk_E N y l)) ∧
  (∀ (d : Nat) (a1 a2 a3 a4 a5 a6 : Value) (x : Nat) (st : List Value) (h : fk_H), fk_ev d qX11_whoWas 71 [.ref x, a1, a2, a3, a4, a5, a6] st h = fk_ev d qX11_whoWas 72 [.ref x, a1, a2, a3, a4, a5, a6] (.ref x :: st) h) ∧
  (∀ (d : Nat) (a0 a1 a2 a3 a5 a6 : Value) (x : Int32) (st : List Value) (h : fk_H), fk_ev d qX11_whoWas 72 [a0, a1, a2, a3, .int x, a5, a6] st h = fk_ev d qX11_whoWas 74 [a0, a1, a2, a3, .int x, a5, a6] (.int x :: st) h) ∧
  (∀ (d : Nat) (L : List Value) (x0 : Int32) (w0 w1 : Value) (N : Nat) (y : Nat → Nat → Int32) (l : Nat → Nat → Int64), fk_ev (d + 1) qX11_whoWas 74 L (.int x0 :: .ref 1 :: [w0, w1]) (fk_E N y l) = (fk_ev d qX11_seenHour 0 [.ref 1, .int x0] [] (fk_E N y l)).bind fun o => fk_ev (d + 1) qX11_whoWas 77 L (o.1.toList ++ [w0, w1]) o.2) ∧
  (∀ (d : Nat) (L : List Value) (x0 : Nat) (x1 : Int32)  (N : Nat) (y : Nat → Nat → Int32) (l : Nat → Nat → Int64) (c : Nat), fk_at c 7 → fk_ev (d + 1) qX11_whoWas 77 L (.int x1 :: .ref x0 :: .ref c :: []) (fk_E N y l) = (fk_ev d qX7_isRemembered 0 [.ref c, .ref x0, .int x1] [] (fk_E N y l)).bind fun o => fk_ev (d + 1) qX11_whoWas 80 L (o.1.toList ++ []) o.2) ∧
  (∀ (d : Nat) (L : List Value) (x : Int32) (st : List Value) (h : fk_H), fk_ev d qX11_whoWas 80 L (.int x :: st) h = if x = nI 0 then fk_ev d qX11_whoWas 87 L st h else fk_ev d qX11_whoWas 83 L st h) ∧
  (∀ (d : Nat) (L st : List Value) (h : fk_H), fk_ev d qX11_whoWas 83 L st h = fk_ev d qX11_whoWas 84 L (.int (nI 1) :: st) h) ∧
  (∀ (d : Nat) (L st : List Value) (h : fk_H), fk_ev d qX11_whoWas 84 L st h = fk_ev d qX11_whoWas 88 L st h) ∧
  (∀ (d : Nat) (L st : List Value) (h : fk_H), fk_ev d qX11_whoWas 87 L st h = fk_ev d qX11_whoWas 88 L (.int (nI 0) :: st) h) ∧
  (∀ (d : Nat) (a0 a1 a2 a3 a4 a5 a6 : Value) (x : Int32) (st : List Value) (h : fk_H), fk_ev d qX11_whoWas 88 [a0, a1, a2, a3, a4, a5, a6] (.int x :: st) h = fk_ev d qX11_whoWas 89 [a0, a1, a2, .int x, a4, a5, a6] st h) ∧
  (∀ (d : Nat) (a0 a1 a2 a3 a5 a6 : Value) (x : Int32) (st : List Value) (h : fk_H), fk_ev d qX11_whoWas 89 [a0, a1, a2, a3, .int x, a5, a6] st h = fk_ev d qX11_whoWas 92 [a0, a1, a2, a3, .int (x + nI 1), a5, a6] st h) ∧
  (∀ (d : Nat) (L st : List Value) (h : fk_H), fk_ev d qX11_whoWas 92 L st h = fk_ev d qX11_whoWas 39 L st h) ∧
  (∀ (d : Nat) (L st : List Value) (h : fk_H), fk_ev d qX11_whoWas 95 L st h = fk_ev d qX11_whoWas 96 L (.int (nI 0) :: st) h) ∧
  (∀ (d : Nat) (a0 a1 a2 a3 a4 a5 a6 : Value) (x : Int32) (st : List Value) (h : fk_H), fk_ev d qX11_whoWas 96 [a0, a1, a2, a3, a4, a5, a6] (.int x :: st) h = fk_ev d qX11_whoWas 98 [a0, a1, a2, a3, .int x, a5, a6] st h) ∧
  (∀ (d : Nat) (L st : List Value) (h : fk_H), fk_ev d qX11_whoWas 98 L st h = fk_ev d qX11_whoWas 100 L (.int ((-2 : Int32)) :: st) h) ∧
  (∀ (d : Nat) (a0 a1 a2 a3 a4 a5 a6 : Value) (x : Int32) (st : List Value) (h : fk_H), fk_ev d qX11_whoWas 100 [a0, a1, a2, a3, a4, a5, a6] (.int x :: st) h = fk_ev d qX11_whoWas 102 [a0, a1, a2, a3, a4, .int x, a6] st h) ∧
  (∀ (d : Nat) (L st : List Value) (h : fk_H), fk_ev d qX11_whoWas 102 L st h = fk_ev d qX11_whoWas 103 L (.int (nI 0) :: st) h) ∧
  (∀ (d : Nat) (a0 a1 a2 a3 a4 a5 a6 : Value) (x : Int32) (st : List Value) (h : fk_H), fk_ev d qX11_whoWas 103 [a0, a1, a2, a3, a4, a5, a6] (.int x :: st) h = fk_ev d qX11_whoWas 105 [a0, a1, a2, a3, a4, a5, .int x] st h) ∧
  (∀ (d : Nat) (L : List Value) (x : Int32) (st : List Value) (h : fk_H), fk_ev d qX11_whoWas 106 L (.int x :: st) h = if x = nI 0 then fk_ev d qX11_whoWas 154 L st h else fk_ev d qX11_whoWas 109 L st h) ∧
  (∀ (d : Nat) (a0 a1 a2 a3 a4 a5 : Value) (x : Int32) (st : List Value) (h : fk_H), fk_ev d qX11_whoWas 109 [a0, a1, a2, a3, a4, a5, .int x] st h = fk_ev d qX11_whoWas 111 [a0, a1, a2, a3, a4, a5, .int x] (.int x :: st) h) ∧
  (∀ (d : Nat) (a1 a2 a3 a4 a5 a6 : Value) (x : Nat) (st : List Value) (h : fk_H), fk_ev d qX11_whoWas 111 [.ref x, a1, a2, a3, a4, a5, a6] st h = fk_ev d qX11_whoWas 112 [.ref x, a1, a2, a3, a4, a5, a6] (.ref x :: st) h) ∧
  (∀ (d : Nat) (L st : List Value) (N : Nat) (y : Nat → Nat → Int32) (l : Nat → Nat → Int64), fk_ev d qX11_whoWas 112 L (.ref 1 :: st) (fk_E N y l) = fk_ev d qX11_whoWas 115 L (.ref 33 :: st) (fk_E N y l)) ∧
  (∀ (d : Nat) (L st : List Value) (N : Nat) (y : Nat → Nat → Int32) (l : Nat → Nat → Int64) (c : Nat), fk_at c 8 → fk_ev d qX11_whoWas 115 L (.ref c :: st) (fk_E N y l) = fk_ev d qX11_whoWas 118 L (.int (y c 2) :: st) (fk_E N y l)) ∧
  (∀ (d : Nat) (L : List Value) (x y : Int32) (st : List Value) (h : fk_H), fk_ev d qX11_whoWas 118 L (.int y :: .int x :: st) h = if y ≤ x then fk_ev d qX11_whoWas 154 L st h else fk_ev d qX11_whoWas 121 L st h) ∧
  (∀ (d : Nat) (a1 a2 a3 a4 a5 a6 : Value) (x : Nat) (st : List Value) (h : fk_H), fk_ev d qX11_whoWas 121 [.ref x, a1, a2, a3, a4, a5, a6] st h = fk_ev d qX11_whoWas 122 [.ref x, a1, a2, a3, a4, a5, a6] (.ref x :: st) h) ∧
  (∀ (d : Nat) (a0 a1 a2 a3 a4 a5 : Value) (x : Int32) (st : List Value) (h : fk_H), fk_ev d qX11_whoWas 122 [a0, a1, a2, a3, a4, a5, .int x] st h = fk_ev d qX11_whoWas 124 [a0, a1, a2, a3, a4, a5, .int x] (.int x :: st) h) ∧
  (∀ (d : Nat) (a0 a2 a3 a4 a5 a6 : Value) (x : Int32) (st : List Value) (h : fk_H), fk_ev d qX11_whoWas 124 [a0, .int x, a2, a3, a4, a5, a6] st h = fk_ev d qX11_whoWas 125 [a0, .int x, a2, a3, a4, a5, a6] (.int x :: st) h) ∧
  (∀ (d : Nat) (L : List Value) (x0 : Int32) (x1 : Int32)  (N : Nat) (y : Nat → Nat → Int32) (l : Nat → Nat → Int64), fk_ev (d + 1) qX11_whoWas 125 L (.int x1 :: .int x0 :: .ref 1 :: []) (fk_E N y l) = (fk_ev d qX11_wasSeen 0 [.ref 1, .int x0, .int x1, .null] [] (fk_E N y l)).bind fun o => fk_ev (d + 1) qX11_whoWas 128 L (o.1.toList ++ []) o.2) ∧
  (∀ (d : Nat) (L : List Value) (x : Int32) (st : List Value) (h : fk_H), fk_ev d qX11_whoWas 128 L (.int x :: st) h = if x = nI 0 then fk_ev d qX11_whoWas 148 L st h else fk_ev d qX11_whoWas 131 L st h) ∧
  (∀ (d : Nat) (a0 a1 a2 a3 a5 a6 : Value) (x : Int32) (st : List Value) (h : fk_H), fk_ev d qX11_whoWas 131 [a0, a1, a2, a3, .int x, a5, a6] st h = fk_ev d qX11_whoWas 133 [a0, a1, a2, a3, .int x, a5, a6] (.int x :: st) h) ∧
  (∀ (d : Nat) (L : List Value) (x : Int32) (st : List Value) (h : fk_H), fk_ev d qX11_whoWas 133 L (.int x :: st) h = if ¬ x = nI 0 then fk_ev d qX11_whoWas 141 L st h else fk_ev d qX11_whoWas 136 L st h) ∧
  (∀ (d : Nat) (a0 a1 a2 a3 a4 a5 : Value) (x : Int32) (st : List Value) (h : fk_H), fk_ev d qX11_whoWas 136 [a0, a1, a2, a3, a4, a5, .int x] st h = fk_ev d qX11_whoWas 138 [a0, a1, a2, a3, a4, a5, .int x] (.int x :: st) h) ∧
  (∀ (d : Nat) (L st : List Value) (h : fk_H), fk_ev d qX11_whoWas 138 L st h = fk_ev d qX11_whoWas 143 L st h) ∧
  (∀ (d : Nat) (a0 a1 a2 a3 a4 a6 : Value) (x : Int32) (st : List Value) (h : fk_H), fk_ev d qX11_whoWas 141 [a0, a1, a2, a3, a4, .int x, a6] st h = fk_ev d qX11_whoWas 143 [a0, a1, a2, a3, a4, .int x, a6] (.int x :: st) h) ∧
  (∀ (d : Nat) (a0 a1 a2 a3 a4 a5 a6 : Value) (x : Int32) (st : List Value) (h : fk_H), fk_ev d qX11_whoWas 143 [a0, a1, a2, a3, a4, a5, a6] (.int x :: st) h = fk_ev d qX11_whoWas 145 [a0, a1, a2, a3, a4, .int x, a6] st h) ∧
  (∀ (d : Nat) (a0 a1 a2 a3 a5 a6 : Value) (x : Int32) (st : List Value) (h : fk_H), fk_ev d qX11_whoWas 145 [a0, a1, a2, a3, .int x, a5, a6] st h = fk_ev d qX11_whoWas 148 [a0, a1, a2, a3, .int (x + nI 1), a5, a6] st h) ∧
  (∀ (d : Nat) (a0 a1 a2 a3 a4 a5 : Value) (x : Int32) (st : List Value) (h : fk_H), fk_ev d qX11_whoWas 148 [a0, a1, a2, a3, a4, a5, .int x] st h = fk_ev d qX11_whoWas 151 [a0, a1, a2, a3, a4, a5, .int (x + nI 1)] st h) ∧
  (∀ (d : Nat) (L st : List Value) (h : fk_H), fk_ev d qX11_whoWas 151 L st h = fk_ev d qX11_whoWas 105 L st h) ∧
  (∀ (d : Nat) (a1 a2 a3 a4 a5 a6 : Value) (x : Nat) (st : List Value) (h : fk_H), fk_ev d qX11_whoWas 154 [.ref x, a1, a2, a3, a4, a5, a6] st h = fk_ev d qX11_whoWas 155 [.ref x, a1, a2, a3, a4, a5, a6] (.ref x :: st) h) ∧
  (∀ (d : Nat) (L st : List Value) (N : Nat) (y : Nat → Nat → Int32) (l : Nat → Nat → Int64), fk_ev d qX11_whoWas 155 L (.ref 1 :: st) (fk_E N y l) = fk_ev d qX11_whoWas 158 L (.ref 26 :: st) (fk_E N y l)) ∧
  (∀ (d : Nat) (L : List Value)   (N : Nat) (y : Nat → Nat → Int32) (l : Nat → Nat → Int64), fk_ev (d + 1) qX11_whoWas 158 L (.ref 26 :: []) (fk_E N y l) = (fk_ev d qX10_clear 0 [.ref 26] [] (fk_E N y l)).bind fun o => fk_ev (d + 1) qX11_whoWas 161 L (o.1.toList ++ []) o.2) ∧
  (∀ (d : Nat) (a0 a1 a2 a4 a5 a6 : Value) (x : Int32) (st : List Value) (h : fk_H), fk_ev d qX11_whoWas 161 [a0, a1, a2, .int x, a4, a5, a6] st h = fk_ev d qX11_whoWas 162 [a0, a1, a2, .int x, a4, a5, a6] (.int x :: st) h) ∧
  (∀ (d : Nat) (L : List Value) (x : Int32) (st : List Value) (h : fk_H), fk_ev d qX11_whoWas 162 L (.int x :: st) h = if ¬ x = nI 0 then fk_ev d qX11_whoWas 168 L st h else fk_ev d qX11_whoWas 165 L st h) ∧
  (∀ (d : Nat) (L st : List Value) (h : fk_H), fk_ev d qX11_whoWas 165 L st h = fk_ev d qX11_whoWas 167 L (.int ((-2 : Int32)) :: st) h) ∧
  (∀ (d : Nat) (L : List Value) (x : Int32) (h : fk_H), fk_ev d qX11_whoWas 167 L [.int x] h = some (some (.int x), h)) ∧
  (∀ (d : Nat) (a0 a1 a3 a4 a5 a6 : Value) (x : Int32) (st : List Value) (h : fk_H), fk_ev d qX11_whoWas 168 [a0, a1, .int x, a3, a4, a5, a6] st h = fk_ev d qX11_whoWas 169 [a0, a1, .int x, a3, a4, a5, a6] (.int x :: st) h) ∧
  (∀ (d : Nat) (L : List Value) (x : Int32) (st : List Value) (h : fk_H), fk_ev d qX11_whoWas 169 L (.int x :: st) h = if ¬ x = nI 0 then fk_ev d qX11_whoWas 177 L st h else fk_ev d qX11_whoWas 172 L st h) ∧
  (∀ (d : Nat) (a0 a1 a2 a3 a5 a6 : Value) (x : Int32) (st : List Value) (h : fk_H), fk_ev d qX11_whoWas 172 [a0, a1, a2, a3, .int x, a5, a6] st h = fk_ev d qX11_whoWas 174 [a0, a1, a2, a3, .int x, a5, a6] (.int x :: st) h) ∧
  (∀ (d : Nat) (L st : List Value) (h : fk_H), fk_ev d qX11_whoWas 174 L st h = fk_ev d qX11_whoWas 179 L st h) ∧
  (∀ (d : Nat) (a0 a1 a2 a3 a4 a6 : Value) (x : Int32) (st : List Value) (h : fk_H), fk_ev d qX11_whoWas 177 [a0, a1, a2, a3, a4, .int x, a6] st h = fk_ev d qX11_whoWas 179 [a0, a1, a2, a3, a4, .int x, a6] (.int x :: st) h) ∧
  (∀ (d : Nat) (L : List Value) (x : Int32) (h : fk_H), fk_ev d qX11_whoWas 179 L [.int x] h = some (some (.int x), h)) := ⟨fun d a0 a2 a3 a4 a5 a6 x st h => fk_w_iloadn 1 [a0, .int x, a2, a3, a4, a5, a6] dX11_whoWas_0 rfl,
  fun d L st h => fk_w_iconst dX11_whoWas_1 (by decide),
  fun d L x y st h => fk_r_icmp_lt dX11_whoWas_2 (by decide),
  fun d a0 a2 a3 a4 a5 a6 x st h => fk_w_iloadn 1 [a0, .int x, a2, a3, a4, a5, a6] dX11_whoWas_5 rfl,
  fun d L st h => fk_w_bipush dX11_whoWas_6 (by decide),
  fun d L x y st h => fk_r_icmp_gt dX11_whoWas_8 (by decide),
  fun d a0 a1 a3 a4 a5 a6 x st h => fk_w_iloadn 2 [a0, a1, .int x, a3, a4, a5, a6] dX11_whoWas_11 rfl,
  fun d L st h => fk_w_iconst dX11_whoWas_12 (by decide),
  fun d L x0 x1 h => fk_g_calls [.int x0, .int x1] [] rfl lm_11_110 dX11_whoWas_13 rfl ⟨rfl, by decide⟩ (by simp),
  fun d L x st h => fk_r_if_eq dX11_whoWas_16 (by decide),
  fun d L st h => fk_w_iconst dX11_whoWas_19 (by decide),
  fun d a0 a2 a3 a4 a5 a6 x st h => fk_w_iloadn 1 [a0, .int x, a2, a3, a4, a5, a6] dX11_whoWas_20 rfl,
  fun d L x y st h => fk_r_imul dX11_whoWas_21,
  fun d a1 a2 a3 a4 a5 a6 x st h => fk_w_aloadn 0 [.ref x, a1, a2, a3, a4, a5, a6] dX11_whoWas_22 rfl,
  fun d L st N y l => fk_g_getC rfl lf_11_33 (by decide) rfl dX11_whoWas_23 fk_at_1,
  fun d L st N y l => fk_g_getI rfl lf_11_160 (by decide) dX11_whoWas_26 fk_at_26,
  fun d L x y st h => fk_r_icmp_le dX11_whoWas_29 (by decide),
  fun d L st h => fk_w_iconst dX11_whoWas_32 (by decide),
  fun d L x h => fk_r_ret dX11_whoWas_33 (Or.inl rfl),
  fun d L st h => fk_w_iconst dX11_whoWas_34 (by decide),
  fun d a0 a1 a2 a3 a4 a5 a6 x st h => fk_w_istoren 3 7 [] [a0, a1, a2, a3, a4, a5, a6] [a0, a1, a2, .int x, a4, a5, a6] dX11_whoWas_35 rfl rfl (by decide) rfl,
  fun d L st h => fk_w_iconst dX11_whoWas_36 (by decide),
  fun d a0 a1 a2 a3 a4 a5 a6 x st h => fk_w_istore 4 7 [] [a0, a1, a2, a3, a4, a5, a6] [a0, a1, a2, a3, .int x, a5, a6] dX11_whoWas_37 rfl rfl (by decide) rfl,
  fun d a0 a2 a3 a4 a5 a6 x st h => fk_w_iloadn 1 [a0, .int x, a2, a3, a4, a5, a6] dX11_whoWas_41 rfl,
  fun d L x y st h => fk_r_icmp_ge dX11_whoWas_42 (by decide),
  fun d a0 a1 a2 a4 a5 a6 x st h => fk_w_iloadn 3 [a0, a1, a2, .int x, a4, a5, a6] dX11_whoWas_45 rfl,
  fun d L x st h => fk_r_if_eq dX11_whoWas_46 (by decide),
  fun d a1 a2 a3 a4 a5 a6 x st h => fk_w_aloadn 0 [.ref x, a1, a2, a3, a4, a5, a6] dX11_whoWas_49 rfl,
  fun d a0 a1 a2 a3 a5 a6 x st h => fk_w_iload 4 [a0, a1, a2, a3, .int x, a5, a6] dX11_whoWas_50 rfl,
  fun d L x0 N y l  => fk_g_call [.int x0] [] rfl lm_11_310 dX11_whoWas_52 rfl ⟨rfl, by decide⟩ (by simp) fk_at_1,
  fun d L st h => fk_w_bipush dX11_whoWas_55 (by decide),
  fun d L x0 x1 h => fk_g_calls [.int x0, .int x1] [] rfl lm_11_110 dX11_whoWas_57 rfl ⟨rfl, by decide⟩ (by simp),
  fun d L x st h => fk_r_if_eq dX11_whoWas_60 (by decide),
  fun d a1 a2 a3 a4 a5 a6 x st h => fk_w_aloadn 0 [.ref x, a1, a2, a3, a4, a5, a6] dX11_whoWas_63 rfl,
  fun d L st N y l => fk_g_getC rfl lf_11_71 (by decide) rfl dX11_whoWas_64 fk_at_1,
  fun d a1 a2 a3 a4 a5 a6 x st h => fk_w_aloadn 0 [.ref x, a1, a2, a3, a4, a5, a6] dX11_whoWas_67 rfl,
  fun d L st N y l => fk_g_getC rfl lf_11_58 (by decide) rfl dX11_whoWas_68 fk_at_1,
  fun d a1 a2 a3 a4 a5 a6 x st h => fk_w_aloadn 0 [.ref x, a1, a2, a3, a4, a5, a6] dX11_whoWas_71 rfl,
  fun d a0 a1 a2 a3 a5 a6 x st h => fk_w_iload 4 [a0, a1, a2, a3, .int x, a5, a6] dX11_whoWas_72 rfl,
  fun d L x0 w0 w1 N y l  => fk_g_call [.int x0] [w0, w1] rfl lm_11_313 dX11_whoWas_74 rfl ⟨rfl, by decide⟩ (by simp) fk_at_1,
  fun d L x0 x1 N y l c hc => fk_g_call [.ref x0, .int x1] [] rfl lm_11_316 dX11_whoWas_77 rfl ⟨rfl, by decide⟩ (by simp) hc,
  fun d L x st h => fk_r_if_eq dX11_whoWas_80 (by decide),
  fun d L st h => fk_w_iconst dX11_whoWas_83 (by decide),
  fun d L st h => fk_r_goto dX11_whoWas_84 (by decide),
  fun d L st h => fk_w_iconst dX11_whoWas_87 (by decide),
  fun d a0 a1 a2 a3 a4 a5 a6 x st h => fk_w_istoren 3 7 [] [a0, a1, a2, a3, a4, a5, a6] [a0, a1, a2, .int x, a4, a5, a6] dX11_whoWas_88 rfl rfl (by decide) rfl,
  fun d a0 a1 a2 a3 a5 a6 x st h => fk_w_iinc 4 7 (1) [] [a0, a1, a2, a3, .int x, a5, a6] [a0, a1, a2, a3, .int (x + nI 1), a5, a6] dX11_whoWas_89 rfl rfl rfl (by decide) rfl,
  fun d L st h => fk_r_goto dX11_whoWas_92 (by decide),
  fun d L st h => fk_w_iconst dX11_whoWas_95 (by decide),
  fun d a0 a1 a2 a3 a4 a5 a6 x st h => fk_w_istore 4 7 [] [a0, a1, a2, a3, a4, a5, a6] [a0, a1, a2, a3, .int x, a5, a6] dX11_whoWas_96 rfl rfl (by decide) rfl,
  fun d L st h => fk_w_bipush dX11_whoWas_98 (by decide),
  fun d a0 a1 a2 a3 a4 a5 a6 x st h => fk_w_istore 5 7 [] [a0, a1, a2, a3, a4, a5, a6] [a0, a1, a2, a3, a4, .int x, a6] dX11_whoWas_100 rfl rfl (by decide) rfl,
  fun d L st h => fk_w_iconst dX11_whoWas_102 (by decide),
  fun d a0 a1 a2 a3 a4 a5 a6 x st h => fk_w_istore 6 7 [] [a0, a1, a2, a3, a4, a5, a6] [a0, a1, a2, a3, a4, a5, .int x] dX11_whoWas_103 rfl rfl (by decide) rfl,
  fun d L x st h => fk_r_if_eq dX11_whoWas_106 (by decide),
  fun d a0 a1 a2 a3 a4 a5 x st h => fk_w_iload 6 [a0, a1, a2, a3, a4, a5, .int x] dX11_whoWas_109 rfl,
  fun d a1 a2 a3 a4 a5 a6 x st h => fk_w_aloadn 0 [.ref x, a1, a2, a3, a4, a5, a6] dX11_whoWas_111 rfl,
  fun d L st N y l => fk_g_getC rfl lf_11_58 (by decide) rfl dX11_whoWas_112 fk_at_1,
  fun d L st N y l c hc => fk_g_getI rfl lf_11_127 (by decide) dX11_whoWas_115 hc,
  fun d L x y st h => fk_r_icmp_ge dX11_whoWas_118 (by decide),
  fun d a1 a2 a3 a4 a5 a6 x st h => fk_w_aloadn 0 [.ref x, a1, a2, a3, a4, a5, a6] dX11_whoWas_121 rfl,
  fun d a0 a1 a2 a3 a4 a5 x st h => fk_w_iload 6 [a0, a1, a2, a3, a4, a5, .int x] dX11_whoWas_122 rfl,
  fun d a0 a2 a3 a4 a5 a6 x st h => fk_w_iloadn 1 [a0, .int x, a2, a3, a4, a5, a6] dX11_whoWas_124 rfl,
  fun d L x0 x1 N y l  => fk_g_call [.int x0, .int x1] [] rfl lm_11_320 dX11_whoWas_125 rfl ⟨rfl, by decide⟩ (by simp) fk_at_1,
  fun d L x st h => fk_r_if_eq dX11_whoWas_128 (by decide),
  fun d a0 a1 a2 a3 a5 a6 x st h => fk_w_iload 4 [a0, a1, a2, a3, .int x, a5, a6] dX11_whoWas_131 rfl,
  fun d L x st h => fk_r_if_ne dX11_whoWas_133 (by decide),
  fun d a0 a1 a2 a3 a4 a5 x st h => fk_w_iload 6 [a0, a1, a2, a3, a4, a5, .int x] dX11_whoWas_136 rfl,
  fun d L st h => fk_r_goto dX11_whoWas_138 (by decide),
  fun d a0 a1 a2 a3 a4 a6 x st h => fk_w_iload 5 [a0, a1, a2, a3, a4, .int x, a6] dX11_whoWas_141 rfl,
  fun d a0 a1 a2 a3 a4 a5 a6 x st h => fk_w_istore 5 7 [] [a0, a1, a2, a3, a4, a5, a6] [a0, a1, a2, a3, a4, .int x, a6] dX11_whoWas_143 rfl rfl (by decide) rfl,
  fun d a0 a1 a2 a3 a5 a6 x st h => fk_w_iinc 4 7 (1) [] [a0, a1, a2, a3, .int x, a5, a6] [a0, a1, a2, a3, .int (x + nI 1), a5, a6] dX11_whoWas_145 rfl rfl rfl (by decide) rfl,
  fun d a0 a1 a2 a3 a4 a5 x st h => fk_w_iinc 6 7 (1) [] [a0, a1, a2, a3, a4, a5, .int x] [a0, a1, a2, a3, a4, a5, .int (x + nI 1)] dX11_whoWas_148 rfl rfl rfl (by decide) rfl,
  fun d L st h => fk_r_goto dX11_whoWas_151 (by decide),
  fun d a1 a2 a3 a4 a5 a6 x st h => fk_w_aloadn 0 [.ref x, a1, a2, a3, a4, a5, a6] dX11_whoWas_154 rfl,
  fun d L st N y l => fk_g_getC rfl lf_11_33 (by decide) rfl dX11_whoWas_155 fk_at_1,
  fun d L  N y l  => fk_g_call [] [] rfl lm_11_167 dX11_whoWas_158 rfl ⟨rfl, by decide⟩ (by simp) fk_at_26,
  fun d a0 a1 a2 a4 a5 a6 x st h => fk_w_iloadn 3 [a0, a1, a2, .int x, a4, a5, a6] dX11_whoWas_161 rfl,
  fun d L x st h => fk_r_if_ne dX11_whoWas_162 (by decide),
  fun d L st h => fk_w_bipush dX11_whoWas_165 (by decide),
  fun d L x h => fk_r_ret dX11_whoWas_167 (Or.inl rfl),
  fun d a0 a1 a3 a4 a5 a6 x st h => fk_w_iloadn 2 [a0, a1, .int x, a3, a4, a5, a6] dX11_whoWas_168 rfl,
  fun d L x st h => fk_r_if_ne dX11_whoWas_169 (by decide),
  fun d a0 a1 a2 a3 a5 a6 x st h => fk_w_iload 4 [a0, a1, a2, a3, .int x, a5, a6] dX11_whoWas_172 rfl,
  fun d L st h => fk_r_goto dX11_whoWas_174 (by decide),
  fun d a0 a1 a2 a3 a4 a6 x st h => fk_w_iload 5 [a0, a1, a2, a3, a4, .int x, a6] dX11_whoWas_177 rfl,
  fun d L x h => fk_r_ret dX11_whoWas_179 (Or.inl rfl)⟩
theorem hX11_whoWas_39 : ∀ (d : Nat) (a0 a1 a2 a3 a5 a6 : Value) (x : Int32) (st : List Value) (h : fk_H), fk_ev d qX11_whoWas 39 [a0, a1, a2, a3, .int x, a5, a6] st h = fk_ev d qX11_whoWas 41 [a0, a1, a2, a3, .int x, a5, a6] (.int x :: st) h := fun d a0 a1 a2 a3 a5 a6 x st h => fk_w_iload 4 [a0, a1, a2, a3, .int x, a5, a6] dX11_whoWas_39 rfl
theorem hX11_whoWas_105 : ∀ (d : Nat) (a0 a1 a2 a4 a5 a6 : Value) (x : Int32) (st : List Value) (h : fk_H), fk_ev d qX11_whoWas 105 [a0, a1, a2, .int x, a4, a5, a6] st h = fk_ev d qX11_whoWas 106 [a0, a1, a2, .int x, a4, a5, a6] (.int x :: st) h := fun d a0 a1 a2 a4 a5 a6 x st h => fk_w_iloadn 3 [a0, a1, a2, .int x, a4, a5, a6] dX11_whoWas_105 rfl
theorem dX11_meet_0 : decode cX11_meet 0 = .ok (.iload_n 1, 1) := by decide +kernel
theorem dX11_meet_1 : decode cX11_meet 1 = .ok (.iconst 4, 1) := by decide +kernel
theorem dX11_meet_2 : decode cX11_meet 2 = .ok (.invokestatic 110, 3) := by decide +kernel
theorem dX11_meet_5 : decode cX11_meet 5 = .ok (.ifCond .ne 5, 3) := by decide +kernel
theorem dX11_meet_8 : decode cX11_meet 8 = .ok (.iconst (-1), 1) := by decide +kernel
theorem dX11_meet_9 : decode cX11_meet 9 = .ok (.ireturn, 1) := by decide +kernel
theorem dX11_meet_10 : decode cX11_meet 10 = .ok (.ldc_w 323, 3) := by decide +kernel
theorem dX11_meet_13 : decode cX11_meet 13 = .ok (.istore_n 2, 1) := by decide +kernel
theorem dX11_meet_14 : decode cX11_meet 14 = .ok (.iconst 0, 1) := by decide +kernel
theorem dX11_meet_15 : decode cX11_meet 15 = .ok (.istore_n 3, 1) := by decide +kernel
theorem dX11_meet_16 : decode cX11_meet 16 = .ok (.iload_n 3, 1) := by decide +kernel
theorem dX11_meet_17 : decode cX11_meet 17 = .ok (.aload_n 0, 1) := by decide +kernel
theorem dX11_meet_18 : decode cX11_meet 18 = .ok (.getfield 58, 3) := by decide +kernel
theorem dX11_meet_21 : decode cX11_meet 21 = .ok (.getfield 127, 3) := by decide +kernel
theorem dX11_meet_24 : decode cX11_meet 24 = .ok (.if_icmp .ge 57, 3) := by decide +kernel
theorem dX11_meet_27 : decode cX11_meet 27 = .ok (.aload_n 0, 1) := by decide +kernel
theorem dX11_meet_28 : decode cX11_meet 28 = .ok (.getfield 58, 3) := by decide +kernel
theorem dX11_meet_31 : decode cX11_meet 31 = .ok (.getfield 139, 3) := by decide +kernel
theorem dX11_meet_34 : decode cX11_meet 34 = .ok (.iload_n 3, 1) := by decide +kernel
theorem dX11_meet_35 : decode cX11_meet 35 = .ok (.aaload, 1) := by decide +kernel
theorem dX11_meet_36 : decode cX11_meet 36 = .ok (.astore 4, 2) := by decide +kernel
theorem dX11_meet_38 : decode cX11_meet 38 = .ok (.aload 4, 2) := by decide +kernel
theorem dX11_meet_40 : decode cX11_meet 40 = .ok (.getfield 227, 3) := by decide +kernel
theorem dX11_meet_43 : decode cX11_meet 43 = .ok (.ifCond .eq 32, 3) := by decide +kernel
theorem dX11_meet_46 : decode cX11_meet 46 = .ok (.aload 4, 2) := by decide +kernel
theorem dX11_meet_48 : decode cX11_meet 48 = .ok (.getfield 218, 3) := by decide +kernel
theorem dX11_meet_51 : decode cX11_meet 51 = .ok (.iload_n 1, 1) := by decide +kernel
theorem dX11_meet_52 : decode cX11_meet 52 = .ok (.if_icmp .ne 23, 3) := by decide +kernel
theorem dX11_meet_55 : decode cX11_meet 55 = .ok (.iload_n 2, 1) := by decide +kernel
theorem dX11_meet_56 : decode cX11_meet 56 = .ok (.aload_n 0, 1) := by decide +kernel
theorem dX11_meet_57 : decode cX11_meet 57 = .ok (.getfield 26, 3) := by decide +kernel
theorem dX11_meet_60 : decode cX11_meet 60 = .ok (.aload_n 0, 1) := by decide +kernel
theorem dX11_meet_61 : decode cX11_meet 61 = .ok (.getfield 26, 3) := by decide +kernel
theorem dX11_meet_64 : decode cX11_meet 64 = .ok (.aload 4, 2) := by decide +kernel
theorem dX11_meet_66 : decode cX11_meet 66 = .ok (.invokevirtual 324, 3) := by decide +kernel
theorem dX11_meet_69 : decode cX11_meet 69 = .ok (.iconst 0, 1) := by decide +kernel
theorem dX11_meet_70 : decode cX11_meet 70 = .ok (.invokevirtual 328, 3) := by decide +kernel
theorem dX11_meet_73 : decode cX11_meet 73 = .ok (.iand, 1) := by decide +kernel
theorem dX11_meet_74 : decode cX11_meet 74 = .ok (.istore_n 2, 1) := by decide +kernel
theorem dX11_meet_75 : decode cX11_meet 75 = .ok (.iinc 3 1, 3) := by decide +kernel
theorem dX11_meet_78 : decode cX11_meet 78 = .ok (.goto (-62), 3) := by decide +kernel
theorem dX11_meet_81 : decode cX11_meet 81 = .ok (.iload_n 2, 1) := by decide +kernel
theorem dX11_meet_82 : decode cX11_meet 82 = .ok (.ireturn, 1) := by decide +kernel
theorem rX11_meet : (∀ (d : Nat) (a0 a2 a3 a4 : Value) (x : Int32) (st : List Value) (h : fk_H), fk_ev d qX11_meet 0 [a0, .int x, a2, a3, a4] st h = fk_ev d qX11_meet 1 [a0, .int x, a2, a3, a4] (.int x :: st) h) ∧
  (∀ (d : Nat) (L st : List Value) (h : fk_H), fk_ev d qX11_meet 1 L st h = fk_ev d qX11_meet 2 L (.int (nI 4) :: st) h) ∧
  (∀ (d : Nat) (L : List Value) (x0 : Int32) (x1 : Int32)  (h : fk_H), fk_ev (d + 1) qX11_meet 2 L (.int x1 :: .int x0 :: []) h = (fk_ev d qX11_within 0 [.int x0, .int x1] [] h).bind fun o => fk_ev (d + 1) qX11_meet 5 L (o.1.toList ++ []) o.2) ∧
  (∀ (d : Nat) (L : List Value) (x : Int32) (st : List Value) (h : fk_H), fk_ev d qX11_meet 5 L (.int x :: st) h = if ¬ x = nI 0 then fk_ev d qX11_meet 10 L st h else fk_ev d qX11_meet 8 L st h) ∧
  (∀ (d : Nat) (L st : List Value) (h : fk_H), fk_ev d qX11_meet 8 L st h = fk_ev d qX11_meet 9 L (.int ((-1 : Int32)) :: st) h) ∧
  (∀ (d : Nat) (L : List Value) (x : Int32) (h : fk_H), fk_ev d qX11_meet 9 L [.int x] h = some (some (.int x), h)) ∧
  (∀ (d : Nat) (L st : List Value) (h : fk_H), fk_ev d qX11_meet 10 L st h = fk_ev d qX11_meet 13 L (.int (nI 65535) :: st) h) ∧
  (∀ (d : Nat) (a0 a1 a2 a3 a4 : Value) (x : Int32) (st : List Value) (h : fk_H), fk_ev d qX11_meet 13 [a0, a1, a2, a3, a4] (.int x :: st) h = fk_ev d qX11_meet 14 [a0, a1, .int x, a3, a4] st h) ∧
  (∀ (d : Nat) (L st : List Value) (h : fk_H), fk_ev d qX11_meet 14 L st h = fk_ev d qX11_meet 15 L (.int (nI 0) :: st) h) ∧
  (∀ (d : Nat) (a0 a1 a2 a3 a4 : Value) (x : Int32) (st : List Value) (h : fk_H), fk_ev d qX11_meet 15 [a0, a1, a2, a3, a4] (.int x :: st) h = fk_ev d qX11_meet 16 [a0, a1, a2, .int x, a4] st h) ∧
  (∀ (d : Nat) (a1 a2 a3 a4 : Value) (x : Nat) (st : List Value) (h : fk_H), fk_ev d qX11_meet 17 [.ref x, a1, a2, a3, a4] st h = fk_ev d qX11_meet 18 [.ref x, a1, a2, a3, a4] (.ref x :: st) h) ∧
  (∀ (d : Nat) (L st : List Value) (N : Nat) (y : Nat → Nat → Int32) (l : Nat → Nat → Int64), fk_ev d qX11_meet 18 L (.ref 1 :: st) (fk_E N y l) = fk_ev d qX11_meet 21 L (.ref 33 :: st) (fk_E N y l)) ∧
  (∀ (d : Nat) (L st : List Value) (N : Nat) (y : Nat → Nat → Int32) (l : Nat → Nat → Int64) (c : Nat), fk_at c 8 → fk_ev d qX11_meet 21 L (.ref c :: st) (fk_E N y l) = fk_ev d qX11_meet 24 L (.int (y c 2) :: st) (fk_E N y l)) ∧
  (∀ (d : Nat) (L : List Value) (x y : Int32) (st : List Value) (h : fk_H), fk_ev d qX11_meet 24 L (.int y :: .int x :: st) h = if y ≤ x then fk_ev d qX11_meet 81 L st h else fk_ev d qX11_meet 27 L st h) ∧
  (∀ (d : Nat) (a1 a2 a3 a4 : Value) (x : Nat) (st : List Value) (h : fk_H), fk_ev d qX11_meet 27 [.ref x, a1, a2, a3, a4] st h = fk_ev d qX11_meet 28 [.ref x, a1, a2, a3, a4] (.ref x :: st) h) ∧
  (∀ (d : Nat) (L st : List Value) (N : Nat) (y : Nat → Nat → Int32) (l : Nat → Nat → Int64), fk_ev d qX11_meet 28 L (.ref 1 :: st) (fk_E N y l) = fk_ev d qX11_meet 31 L (.ref 33 :: st) (fk_E N y l)) ∧
  (∀ (d : Nat) (L st : List Value) (N : Nat) (y : Nat → Nat → Int32) (l : Nat → Nat → Int64) (c : Nat), fk_at c 8 → fk_ev d qX11_meet 31 L (.ref c :: st) (fk_E N y l) = fk_ev d qX11_meet 34 L (.ref (fk_cr c 0) :: st) (fk_E N y l)) ∧
  (∀ (d : Nat) (a0 a1 a2 a4 : Value) (x : Int32) (st : List Value) (h : fk_H), fk_ev d qX11_meet 34 [a0, a1, a2, .int x, a4] st h = fk_ev d qX11_meet 35 [a0, a1, a2, .int x, a4] (.int x :: st) h) ∧
  (∀ (d : Nat) (L st : List Value) (N : Nat) (y : Nat → Nat → Int32) (l : Nat → Nat → Int64) (i : Nat), i < 64 → fk_ev d qX11_meet 35 L (.int (nI i) :: .ref 34 :: st) (fk_E N y l) = fk_ev d qX11_meet 36 L (.ref (34 + 2 + i) :: st) (fk_E N y l)) ∧
  (∀ (d : Nat) (a0 a1 a2 a3 a4 : Value) (x : Nat) (st : List Value) (h : fk_H), fk_ev d qX11_meet 36 [a0, a1, a2, a3, a4] (.ref x :: st) h = fk_ev d qX11_meet 38 [a0, a1, a2, a3, .ref x] st h) ∧
  (∀ (d : Nat) (a0 a1 a2 a3 : Value) (x : Nat) (st : List Value) (h : fk_H), fk_ev d qX11_meet 38 [a0, a1, a2, a3, .ref x] st h = fk_ev d qX11_meet 40 [a0, a1, a2, a3, .ref x] (.ref x :: st) h) ∧
  (∀ (d : Nat) (L st : List Value) (N : Nat) (y : Nat → Nat → Int32) (l : Nat → Nat → Int64) (c : Nat), fk_at c 0 → fk_ev d qX11_meet 40 L (.ref c :: st) (fk_E N y l) = fk_ev d qX11_meet 43 L (.int (y c 4) :: st) (fk_E N y l)) ∧
  (∀ (d : Nat) (L : List Value) (x : Int32) (st : List Value) (h : fk_H), fk_ev d qX11_meet 43 L (.int x :: st) h = if x = nI 0 then fk_ev d qX11_meet 75 L st h else fk_ev d qX11_meet 46 L st h) ∧
  (∀ (d : Nat) (a0 a1 a2 a3 : Value) (x : Nat) (st : List Value) (h : fk_H), fk_ev d qX11_meet 46 [a0, a1, a2, a3, .ref x] st h = fk_ev d qX11_meet 48 [a0, a1, a2, a3, .ref x] (.ref x :: st) h) ∧
  (∀ (d : Nat) (L st : List Value) (N : Nat) (y : Nat → Nat → Int32) (l : Nat → Nat → Int64) (c : Nat), fk_at c 0 → fk_ev d qX11_meet 48 L (.ref c :: st) (fk_E N y l) = fk_ev d qX11_meet 51 L (.int (y c 1) :: st) (fk_E N y l)) ∧
  (∀ (d : Nat) (a0 a2 a3 a4 : Value) (x : Int32) (st : List Value) (h : fk_H), fk_ev d qX11_meet 51 [a0, .int x, a2, a3, a4] st h = fk_ev d qX11_meet 52 [a0, .int x, a2, a3, a4] (.int x :: st) h) ∧
  (∀ (d : Nat) (L : List Value) (x y : Int32) (st : List Value) (h : fk_H), fk_ev d qX11_meet 52 L (.int y :: .int x :: st) h = if ¬ x = y then fk_ev d qX11_meet 75 L st h else fk_ev d qX11_meet 55 L st h) ∧
  (∀ (d : Nat) (a0 a1 a3 a4 : Value) (x : Int32) (st : List Value) (h : fk_H), fk_ev d qX11_meet 55 [a0, a1, .int x, a3, a4] st h = fk_ev d qX11_meet 56 [a0, a1, .int x, a3, a4] (.int x :: st) h) ∧
  (∀ (d : Nat) (a1 a2 a3 a4 : Value) (x : Nat) (st : List Value) (h : fk_H), fk_ev d qX11_meet 56 [.ref x, a1, a2, a3, a4] st h = fk_ev d qX11_meet 57 [.ref x, a1, a2, a3, a4] (.ref x :: st) h) ∧
  (∀ (d : Nat) (L st : List Value) (N : Nat) (y : Nat → Nat → Int32) (l : Nat → Nat → Int64), fk_ev d qX11_meet 57 L (.ref 1 :: st) (fk_E N y l) = fk_ev d qX11_meet 60 L (.ref 18 :: st) (fk_E N y l)) ∧
  (∀ (d : Nat) (a1 a2 a3 a4 : Value) (x : Nat) (st : List Value) (h : fk_H), fk_ev d qX11_meet 60 [.ref x, a1, a2, a3, a4] st h = fk_ev d qX11_meet 61 [.ref x, a1, a2, a3, a4] (.ref x :: st) h) ∧
  (∀ (d : Nat) (L st : List Value) (N : Nat) (y : Nat → Nat → Int32) (l : Nat → Nat → Int64), fk_ev d qX11_meet 61 L (.ref 1 :: st) (fk_E N y l) = fk_ev d qX11_meet 64 L (.ref 18 :: st) (fk_E N y l)) ∧
  (∀ (d : Nat) (a0 a1 a2 a3 : Value) (x : Nat) (st : List Value) (h : fk_H), fk_ev d qX11_meet 64 [a0, a1, a2, a3, .ref x] st h = fk_ev d qX11_meet 66 [a0, a1, a2, a3, .ref x] (.ref x :: st) h) ∧
  (∀ (d : Nat) (L : List Value) (x0 : Nat) (w0 w1 : Value) (N : Nat) (y : Nat → Nat → Int32) (l : Nat → Nat → Int64), fk_ev (d + 1) qX11_meet 66 L (.ref x0 :: .ref 18 :: [w0, w1]) (fk_E N y l) = (fk_ev d qX5_goalOf 0 [.ref 18, .ref x0] [] (fk_E N y l)).bind fun o => fk_ev (d + 1) qX11_meet 69 L (o.1.toList ++ [w0, w1]) o.2) ∧
  (∀ (d : Nat) (L st : List Value) (h : fk_H), fk_ev d qX11_meet 69 L st h = fk_ev d qX11_meet 70 L (.int (nI 0) :: st) h) ∧
  (∀ (d : Nat) (L : List Value) (x0 : Int32) (x1 : Int32) (w0 : Value) (N : Nat) (y : Nat → Nat → Int32) (l : Nat → Nat → Int64), fk_ev (d + 1) qX11_meet 70 L (.int x1 :: .int x0 :: .ref 18 :: [w0]) (fk_E N y l) = (fk_ev d qX5_reach 0 [.ref 18, .int x0, .int x1, .null, .null, .null, .null, .null] [] (fk_E N y l)).bind fun o => fk_ev (d + 1) qX11_meet 73 L (o.1.toList ++ [w0]) o.2) ∧
  (∀ (d : Nat) (L : List Value) (x y : Int32) (st : List Value) (h : fk_H), fk_ev d qX11_meet 73 L (.int y :: .int x :: st) h = fk_ev d qX11_meet 74 L (.int (x &&& y) :: st) h) ∧
  (∀ (d : Nat) (a0 a1 a2 a3 a4 : Value) (x : Int32) (st : List Value) (h : fk_H), fk_ev d qX11_meet 74 [a0, a1, a2, a3, a4] (.int x :: st) h = fk_ev d qX11_meet 75 [a0, a1, .int x, a3, a4] st h) ∧
  (∀ (d : Nat) (a0 a1 a2 a4 : Value) (x : Int32) (st : List Value) (h : fk_H), fk_ev d qX11_meet 75 [a0, a1, a2, .int x, a4] st h = fk_ev d qX11_meet 78 [a0, a1, a2, .int (x + nI 1), a4] st h) ∧
  (∀ (d : Nat) (L st : List Value) (h : fk_H), fk_ev d qX11_meet 78 L st h = fk_ev d qX11_meet 16 L st h) ∧
  (∀ (d : Nat) (a0 a1 a3 a4 : Value) (x : Int32) (st : List Value) (h : fk_H), fk_ev d qX11_meet 81 [a0, a1, .int x, a3, a4] st h = fk_ev d qX11_meet 82 [a0, a1, .int x, a3, a4] (.int x :: st) h) ∧
  (∀ (d : Nat) (L : List Value) (x : Int32) (h : fk_H), fk_ev d qX11_meet 82 L [.int x] h = some (some (.int x), h)) := ⟨fun d a0 a2 a3 a4 x st h => fk_w_iloadn 1 [a0, .int x, a2, a3, a4] dX11_meet_0 rfl,
  fun d L st h => fk_w_iconst dX11_meet_1 (by decide),
  fun d L x0 x1 h => fk_g_calls [.int x0, .int x1] [] rfl lm_11_110 dX11_meet_2 rfl ⟨rfl, by decide⟩ (by simp),
  fun d L x st h => fk_r_if_ne dX11_meet_5 (by decide),
  fun d L st h => fk_w_iconst dX11_meet_8 (by decide),
  fun d L x h => fk_r_ret dX11_meet_9 (Or.inl rfl),
  fun d L st h => fk_g_ldcw rfl lc_11_323 (by decide) dX11_meet_10,
  fun d a0 a1 a2 a3 a4 x st h => fk_w_istoren 2 5 [] [a0, a1, a2, a3, a4] [a0, a1, .int x, a3, a4] dX11_meet_13 rfl rfl (by decide) rfl,
  fun d L st h => fk_w_iconst dX11_meet_14 (by decide),
  fun d a0 a1 a2 a3 a4 x st h => fk_w_istoren 3 5 [] [a0, a1, a2, a3, a4] [a0, a1, a2, .int x, a4] dX11_meet_15 rfl rfl (by decide) rfl,
  fun d a1 a2 a3 a4 x st h => fk_w_aloadn 0 [.ref x, a1, a2, a3, a4] dX11_meet_17 rfl,
  fun d L st N y l => fk_g_getC rfl lf_11_58 (by decide) rfl dX11_meet_18 fk_at_1,
  fun d L st N y l c hc => fk_g_getI rfl lf_11_127 (by decide) dX11_meet_21 hc,
  fun d L x y st h => fk_r_icmp_ge dX11_meet_24 (by decide),
  fun d a1 a2 a3 a4 x st h => fk_w_aloadn 0 [.ref x, a1, a2, a3, a4] dX11_meet_27 rfl,
  fun d L st N y l => fk_g_getC rfl lf_11_58 (by decide) rfl dX11_meet_28 fk_at_1,
  fun d L st N y l c hc => fk_g_getC rfl lf_11_139 (by decide) rfl dX11_meet_31 hc,
  fun d a0 a1 a2 a4 x st h => fk_w_iloadn 3 [a0, a1, a2, .int x, a4] dX11_meet_34 rfl,
  fun d L st N y l i hi => fk_h_aald dX11_meet_35 fk_at_34 hi (by decide),
  fun d a0 a1 a2 a3 a4 x st h => fk_w_astore 4 5 [] [a0, a1, a2, a3, a4] [a0, a1, a2, a3, .ref x] dX11_meet_36 rfl rfl (by decide) rfl,
  fun d a0 a1 a2 a3 x st h => fk_w_aload 4 [a0, a1, a2, a3, .ref x] dX11_meet_38 rfl,
  fun d L st N y l c hc => fk_g_getI rfl lf_11_227 (by decide) dX11_meet_40 hc,
  fun d L x st h => fk_r_if_eq dX11_meet_43 (by decide),
  fun d a0 a1 a2 a3 x st h => fk_w_aload 4 [a0, a1, a2, a3, .ref x] dX11_meet_46 rfl,
  fun d L st N y l c hc => fk_g_getI rfl lf_11_218 (by decide) dX11_meet_48 hc,
  fun d a0 a2 a3 a4 x st h => fk_w_iloadn 1 [a0, .int x, a2, a3, a4] dX11_meet_51 rfl,
  fun d L x y st h => fk_r_icmp_ne dX11_meet_52 (by decide),
  fun d a0 a1 a3 a4 x st h => fk_w_iloadn 2 [a0, a1, .int x, a3, a4] dX11_meet_55 rfl,
  fun d a1 a2 a3 a4 x st h => fk_w_aloadn 0 [.ref x, a1, a2, a3, a4] dX11_meet_56 rfl,
  fun d L st N y l => fk_g_getC rfl lf_11_26 (by decide) rfl dX11_meet_57 fk_at_1,
  fun d a1 a2 a3 a4 x st h => fk_w_aloadn 0 [.ref x, a1, a2, a3, a4] dX11_meet_60 rfl,
  fun d L st N y l => fk_g_getC rfl lf_11_26 (by decide) rfl dX11_meet_61 fk_at_1,
  fun d a0 a1 a2 a3 x st h => fk_w_aload 4 [a0, a1, a2, a3, .ref x] dX11_meet_64 rfl,
  fun d L x0 w0 w1 N y l  => fk_g_call [.ref x0] [w0, w1] rfl lm_11_324 dX11_meet_66 rfl ⟨rfl, by decide⟩ (by simp) fk_at_18,
  fun d L st h => fk_w_iconst dX11_meet_69 (by decide),
  fun d L x0 x1 w0 N y l  => fk_g_call [.int x0, .int x1] [w0] rfl lm_11_328 dX11_meet_70 rfl ⟨rfl, by decide⟩ (by simp) fk_at_18,
  fun d L x y st h => fk_r_iand dX11_meet_73,
  fun d a0 a1 a2 a3 a4 x st h => fk_w_istoren 2 5 [] [a0, a1, a2, a3, a4] [a0, a1, .int x, a3, a4] dX11_meet_74 rfl rfl (by decide) rfl,
  fun d a0 a1 a2 a4 x st h => fk_w_iinc 3 5 (1) [] [a0, a1, a2, .int x, a4] [a0, a1, a2, .int (x + nI 1), a4] dX11_meet_75 rfl rfl rfl (by decide) rfl,
  fun d L st h => fk_r_goto dX11_meet_78 (by decide),
  fun d a0 a1 a3 a4 x st h => fk_w_iloadn 2 [a0, a1, .int x, a3, a4] dX11_meet_81 rfl,
  fun d L x h => fk_r_ret dX11_meet_82 (Or.inl rfl)⟩
theorem hX11_meet_16 : ∀ (d : Nat) (a0 a1 a2 a4 : Value) (x : Int32) (st : List Value) (h : fk_H), fk_ev d qX11_meet 16 [a0, a1, a2, .int x, a4] st h = fk_ev d qX11_meet 17 [a0, a1, a2, .int x, a4] (.int x :: st) h := fun d a0 a1 a2 a4 x st h => fk_w_iloadn 3 [a0, a1, a2, .int x, a4] dX11_meet_16 rfl
theorem dX11_built_0 : decode cX11_built 0 = .ok (.iload_n 1, 1) := by decide +kernel
theorem dX11_built_1 : decode cX11_built 1 = .ok (.iconst 3, 1) := by decide +kernel
theorem dX11_built_2 : decode cX11_built 2 = .ok (.invokestatic 110, 3) := by decide +kernel
theorem dX11_built_5 : decode cX11_built 5 = .ok (.ifCond .ne 5, 3) := by decide +kernel
theorem dX11_built_8 : decode cX11_built 8 = .ok (.iconst (-1), 1) := by decide +kernel
theorem dX11_built_9 : decode cX11_built 9 = .ok (.ireturn, 1) := by decide +kernel
theorem dX11_built_10 : decode cX11_built 10 = .ok (.iconst 0, 1) := by decide +kernel
theorem dX11_built_11 : decode cX11_built 11 = .ok (.istore_n 2, 1) := by decide +kernel
theorem dX11_built_12 : decode cX11_built 12 = .ok (.iconst 0, 1) := by decide +kernel
theorem dX11_built_13 : decode cX11_built 13 = .ok (.istore_n 3, 1) := by decide +kernel
theorem dX11_built_14 : decode cX11_built 14 = .ok (.iconst 0, 1) := by decide +kernel
theorem dX11_built_15 : decode cX11_built 15 = .ok (.istore 4, 2) := by decide +kernel
theorem dX11_built_17 : decode cX11_built 17 = .ok (.iload 4, 2) := by decide +kernel
theorem dX11_built_19 : decode cX11_built 19 = .ok (.bipush 16, 2) := by decide +kernel
theorem dX11_built_21 : decode cX11_built 21 = .ok (.if_icmp .ge 51, 3) := by decide +kernel
theorem dX11_built_24 : decode cX11_built 24 = .ok (.aload_n 0, 1) := by decide +kernel
theorem dX11_built_25 : decode cX11_built 25 = .ok (.getfield 26, 3) := by decide +kernel
theorem dX11_built_28 : decode cX11_built 28 = .ok (.iload 4, 2) := by decide +kernel
theorem dX11_built_30 : decode cX11_built 30 = .ok (.invokevirtual 331, 3) := by decide +kernel
theorem dX11_built_33 : decode cX11_built 33 = .ok (.istore 5, 2) := by decide +kernel
theorem dX11_built_35 : decode cX11_built 35 = .ok (.iload 5, 2) := by decide +kernel
theorem dX11_built_37 : decode cX11_built 37 = .ok (.ifCond .eq 29, 3) := by decide +kernel
theorem dX11_built_40 : decode cX11_built 40 = .ok (.iload 5, 2) := by decide +kernel
theorem dX11_built_42 : decode cX11_built 42 = .ok (.iconst 1, 1) := by decide +kernel
theorem dX11_built_43 : decode cX11_built 43 = .ok (.iload 4, 2) := by decide +kernel
theorem dX11_built_45 : decode cX11_built 45 = .ok (.ishl, 1) := by decide +kernel
theorem dX11_built_46 : decode cX11_built 46 = .ok (.iconst 1, 1) := by decide +kernel
theorem dX11_built_47 : decode cX11_built 47 = .ok (.isub, 1) := by decide +kernel
theorem dX11_built_48 : decode cX11_built 48 = .ok (.iand, 1) := by decide +kernel
theorem dX11_built_49 : decode cX11_built 49 = .ok (.ifCond .ne 17, 3) := by decide +kernel
theorem dX11_built_52 : decode cX11_built 52 = .ok (.iload_n 2, 1) := by decide +kernel
theorem dX11_built_53 : decode cX11_built 53 = .ok (.ifCond .ne 8, 3) := by decide +kernel
theorem dX11_built_56 : decode cX11_built 56 = .ok (.iload 5, 2) := by decide +kernel
theorem dX11_built_58 : decode cX11_built 58 = .ok (.goto 4, 3) := by decide +kernel
theorem dX11_built_61 : decode cX11_built 61 = .ok (.iload_n 3, 1) := by decide +kernel
theorem dX11_built_62 : decode cX11_built 62 = .ok (.istore_n 3, 1) := by decide +kernel
theorem dX11_built_63 : decode cX11_built 63 = .ok (.iinc 2 1, 3) := by decide +kernel
theorem dX11_built_66 : decode cX11_built 66 = .ok (.iinc 4 1, 3) := by decide +kernel
theorem dX11_built_69 : decode cX11_built 69 = .ok (.goto (-52), 3) := by decide +kernel
theorem dX11_built_72 : decode cX11_built 72 = .ok (.iload_n 1, 1) := by decide +kernel
theorem dX11_built_73 : decode cX11_built 73 = .ok (.lookupswitch 37 #[(0, 27), (1, 35)], 27) := by decide +kernel
theorem dX11_built_100 : decode cX11_built 100 = .ok (.iload_n 2, 1) := by decide +kernel
theorem dX11_built_101 : decode cX11_built 101 = .ok (.iconst 1, 1) := by decide +kernel
theorem dX11_built_102 : decode cX11_built 102 = .ok (.isub, 1) := by decide +kernel
theorem dX11_built_103 : decode cX11_built 103 = .ok (.iconst 0, 1) := by decide +kernel
theorem dX11_built_104 : decode cX11_built 104 = .ok (.invokestatic 334, 3) := by decide +kernel
theorem dX11_built_107 : decode cX11_built 107 = .ok (.ireturn, 1) := by decide +kernel
theorem dX11_built_108 : decode cX11_built 108 = .ok (.iload_n 2, 1) := by decide +kernel
theorem dX11_built_109 : decode cX11_built 109 = .ok (.ireturn, 1) := by decide +kernel
theorem dX11_built_110 : decode cX11_built 110 = .ok (.iload_n 3, 1) := by decide +kernel
theorem dX11_built_111 : decode cX11_built 111 = .ok (.ireturn, 1) := by decide +kernel
theorem rX11_built : (∀ (d : Nat) (a0 a2 a3 a4 a5 : Value) (x : Int32) (st : List Value) (h : fk_H), fk_ev d qX11_built 0 [a0, .int x, a2, a3, a4, a5] st h = fk_ev d qX11_built 1 [a0, .int x, a2, a3, a4, a5] (.int x :: st) h) ∧
  (∀ (d : Nat) (L st : List Value) (h : fk_H), fk_ev d qX11_built 1 L st h = fk_ev d qX11_built 2 L (.int (nI 3) :: st) h) ∧
  (∀ (d : Nat) (L : List Value) (x0 : Int32) (x1 : Int32)  (h : fk_H), fk_ev (d + 1) qX11_built 2 L (.int x1 :: .int x0 :: []) h = (fk_ev d qX11_within 0 [.int x0, .int x1] [] h).bind fun o => fk_ev (d + 1) qX11_built 5 L (o.1.toList ++ []) o.2) ∧
  (∀ (d : Nat) (L : List Value) (x : Int32) (st : List Value) (h : fk_H), fk_ev d qX11_built 5 L (.int x :: st) h = if ¬ x = nI 0 then fk_ev d qX11_built 10 L st h else fk_ev d qX11_built 8 L st h) ∧
  (∀ (d : Nat) (L st : List Value) (h : fk_H), fk_ev d qX11_built 8 L st h = fk_ev d qX11_built 9 L (.int ((-1 : Int32)) :: st) h) ∧
  (∀ (d : Nat) (L : List Value) (x : Int32) (h : fk_H), fk_ev d qX11_built 9 L [.int x] h = some (some (.int x), h)) ∧
  (∀ (d : Nat) (L st : List Value) (h : fk_H), fk_ev d qX11_built 10 L st h = fk_ev d qX11_built 11 L (.int (nI 0) :: st) h) ∧
  (∀ (d : Nat) (a0 a1 a2 a3 a4 a5 : Value) (x : Int32) (st : List Value) (h : fk_H), fk_ev d qX11_built 11 [a0, a1, a2, a3, a4, a5] (.int x :: st) h = fk_ev d qX11_built 12 [a0, a1, .int x, a3, a4, a5] st h) ∧
  (∀ (d : Nat) (L st : List Value) (h : fk_H), fk_ev d qX11_built 12 L st h = fk_ev d qX11_built 13 L (.int (nI 0) :: st) h) ∧
  (∀ (d : Nat) (a0 a1 a2 a3 a4 a5 : Value) (x : Int32) (st : List Value) (h : fk_H), fk_ev d qX11_built 13 [a0, a1, a2, a3, a4, a5] (.int x :: st) h = fk_ev d qX11_built 14 [a0, a1, a2, .int x, a4, a5] st h) ∧
  (∀ (d : Nat) (L st : List Value) (h : fk_H), fk_ev d qX11_built 14 L st h = fk_ev d qX11_built 15 L (.int (nI 0) :: st) h) ∧
  (∀ (d : Nat) (a0 a1 a2 a3 a4 a5 : Value) (x : Int32) (st : List Value) (h : fk_H), fk_ev d qX11_built 15 [a0, a1, a2, a3, a4, a5] (.int x :: st) h = fk_ev d qX11_built 17 [a0, a1, a2, a3, .int x, a5] st h) ∧
  (∀ (d : Nat) (L st : List Value) (h : fk_H), fk_ev d qX11_built 19 L st h = fk_ev d qX11_built 21 L (.int (nI 16) :: st) h) ∧
  (∀ (d : Nat) (L : List Value) (x y : Int32) (st : List Value) (h : fk_H), fk_ev d qX11_built 21 L (.int y :: .int x :: st) h = if y ≤ x then fk_ev d qX11_built 72 L st h else fk_ev d qX11_built 24 L st h) ∧
  (∀ (d : Nat) (a1 a2 a3 a4 a5 : Value) (x : Nat) (st : List Value) (h : fk_H), fk_ev d qX11_built 24 [.ref x, a1, a2, a3, a4, a5] st h = fk_ev d qX11_built 25 [.ref x, a1, a2, a3, a4, a5] (.ref x :: st) h) ∧
  (∀ (d : Nat) (L st : List Value) (N : Nat) (y : Nat → Nat → Int32) (l : Nat → Nat → Int64), fk_ev d qX11_built 25 L (.ref 1 :: st) (fk_E N y l) = fk_ev d qX11_built 28 L (.ref 18 :: st) (fk_E N y l)) ∧
  (∀ (d : Nat) (a0 a1 a2 a3 a5 : Value) (x : Int32) (st : List Value) (h : fk_H), fk_ev d qX11_built 28 [a0, a1, a2, a3, .int x, a5] st h = fk_ev d qX11_built 30 [a0, a1, a2, a3, .int x, a5] (.int x :: st) h) ∧
  (∀ (d : Nat) (L : List Value) (x0 : Int32)  (N : Nat) (y : Nat → Nat → Int32) (l : Nat → Nat → Int64), fk_ev (d + 1) qX11_built 30 L (.int x0 :: .ref 18 :: []) (fk_E N y l) = (fk_ev d qX5_groupOf 0 [.ref 18, .int x0, .null, .null, .null] [] (fk_E N y l)).bind fun o => fk_ev (d + 1) qX11_built 33 L (o.1.toList ++ []) o.2) ∧
  (∀ (d : Nat) (a0 a1 a2 a3 a4 a5 : Value) (x : Int32) (st : List Value) (h : fk_H), fk_ev d qX11_built 33 [a0, a1, a2, a3, a4, a5] (.int x :: st) h = fk_ev d qX11_built 35 [a0, a1, a2, a3, a4, .int x] st h) ∧
  (∀ (d : Nat) (a0 a1 a2 a3 a4 : Value) (x : Int32) (st : List Value) (h : fk_H), fk_ev d qX11_built 35 [a0, a1, a2, a3, a4, .int x] st h = fk_ev d qX11_built 37 [a0, a1, a2, a3, a4, .int x] (.int x :: st) h) ∧
  (∀ (d : Nat) (L : List Value) (x : Int32) (st : List Value) (h : fk_H), fk_ev d qX11_built 37 L (.int x :: st) h = if x = nI 0 then fk_ev d qX11_built 66 L st h else fk_ev d qX11_built 40 L st h) ∧
  (∀ (d : Nat) (a0 a1 a2 a3 a4 : Value) (x : Int32) (st : List Value) (h : fk_H), fk_ev d qX11_built 40 [a0, a1, a2, a3, a4, .int x] st h = fk_ev d qX11_built 42 [a0, a1, a2, a3, a4, .int x] (.int x :: st) h) ∧
  (∀ (d : Nat) (L st : List Value) (h : fk_H), fk_ev d qX11_built 42 L st h = fk_ev d qX11_built 43 L (.int (nI 1) :: st) h) ∧
  (∀ (d : Nat) (a0 a1 a2 a3 a5 : Value) (x : Int32) (st : List Value) (h : fk_H), fk_ev d qX11_built 43 [a0, a1, a2, a3, .int x, a5] st h = fk_ev d qX11_built 45 [a0, a1, a2, a3, .int x, a5] (.int x :: st) h) ∧
  (∀ (d : Nat) (L : List Value) (x y : Int32) (st : List Value) (h : fk_H), fk_ev d qX11_built 45 L (.int y :: .int x :: st) h = fk_ev d qX11_built 46 L (.int (x <<< (y &&& 31)) :: st) h) ∧
  (∀ (d : Nat) (L st : List Value) (h : fk_H), fk_ev d qX11_built 46 L st h = fk_ev d qX11_built 47 L (.int (nI 1) :: st) h) ∧
  (∀ (d : Nat) (L : List Value) (x y : Int32) (st : List Value) (h : fk_H), fk_ev d qX11_built 47 L (.int y :: .int x :: st) h = fk_ev d qX11_built 48 L (.int (x - y) :: st) h) ∧
  (∀ (d : Nat) (L : List Value) (x y : Int32) (st : List Value) (h : fk_H), fk_ev d qX11_built 48 L (.int y :: .int x :: st) h = fk_ev d qX11_built 49 L (.int (x &&& y) :: st) h) ∧
  (∀ (d : Nat) (L : List Value) (x : Int32) (st : List Value) (h : fk_H), fk_ev d qX11_built 49 L (.int x :: st) h = if ¬ x = nI 0 then fk_ev d qX11_built 66 L st h else fk_ev d qX11_built 52 L st h) ∧
  (∀ (d : Nat) (a0 a1 a3 a4 a5 : Value) (x : Int32) (st : List Value) (h : fk_H), fk_ev d qX11_built 52 [a0, a1, .int x, a3, a4, a5] st h = fk_ev d qX11_built 53 [a0, a1, .int x, a3, a4, a5] (.int x :: st) h) ∧
  (∀ (d : Nat) (L : List Value) (x : Int32) (st : List Value) (h : fk_H), fk_ev d qX11_built 53 L (.int x :: st) h = if ¬ x = nI 0 then fk_ev d qX11_built 61 L st h else fk_ev d qX11_built 56 L st h) ∧
  (∀ (d : Nat) (a0 a1 a2 a3 a4 : Value) (x : Int32) (st : List Value) (h : fk_H), fk_ev d qX11_built 56 [a0, a1, a2, a3, a4, .int x] st h = fk_ev d qX11_built 58 [a0, a1, a2, a3, a4, .int x] (.int x :: st) h) ∧
  (∀ (d : Nat) (L st : List Value) (h : fk_H), fk_ev d qX11_built 58 L st h = fk_ev d qX11_built 62 L st h) ∧
  (∀ (d : Nat) (a0 a1 a2 a4 a5 : Value) (x : Int32) (st : List Value) (h : fk_H), fk_ev d qX11_built 61 [a0, a1, a2, .int x, a4, a5] st h = fk_ev d qX11_built 62 [a0, a1, a2, .int x, a4, a5] (.int x :: st) h) ∧
  (∀ (d : Nat) (a0 a1 a2 a3 a4 a5 : Value) (x : Int32) (st : List Value) (h : fk_H), fk_ev d qX11_built 62 [a0, a1, a2, a3, a4, a5] (.int x :: st) h = fk_ev d qX11_built 63 [a0, a1, a2, .int x, a4, a5] st h) ∧
  (∀ (d : Nat) (a0 a1 a3 a4 a5 : Value) (x : Int32) (st : List Value) (h : fk_H), fk_ev d qX11_built 63 [a0, a1, .int x, a3, a4, a5] st h = fk_ev d qX11_built 66 [a0, a1, .int (x + nI 1), a3, a4, a5] st h) ∧
  (∀ (d : Nat) (a0 a1 a2 a3 a5 : Value) (x : Int32) (st : List Value) (h : fk_H), fk_ev d qX11_built 66 [a0, a1, a2, a3, .int x, a5] st h = fk_ev d qX11_built 69 [a0, a1, a2, a3, .int (x + nI 1), a5] st h) ∧
  (∀ (d : Nat) (L st : List Value) (h : fk_H), fk_ev d qX11_built 69 L st h = fk_ev d qX11_built 17 L st h) ∧
  (∀ (d : Nat) (a0 a2 a3 a4 a5 : Value) (x : Int32) (st : List Value) (h : fk_H), fk_ev d qX11_built 72 [a0, .int x, a2, a3, a4, a5] st h = fk_ev d qX11_built 73 [a0, .int x, a2, a3, a4, a5] (.int x :: st) h) ∧
  (∀ (d : Nat) (L st : List Value) (h : fk_H), fk_ev d qX11_built 73 L (.int (nI 0) :: st) h = fk_ev d qX11_built 100 L st h) ∧
  (∀ (d : Nat) (L st : List Value) (h : fk_H), fk_ev d qX11_built 73 L (.int (nI 1) :: st) h = fk_ev d qX11_built 108 L st h) ∧
  (∀ (d : Nat) (L : List Value) (x : Int32) (st : List Value) (h : fk_H), ¬ (0 : Int) = x.toInt → ¬ (1 : Int) = x.toInt → fk_ev d qX11_built 73 L (.int x :: st) h = fk_ev d qX11_built 110 L st h) ∧
  (∀ (d : Nat) (a0 a1 a3 a4 a5 : Value) (x : Int32) (st : List Value) (h : fk_H), fk_ev d qX11_built 100 [a0, a1, .int x, a3, a4, a5] st h = fk_ev d qX11_built 101 [a0, a1, .int x, a3, a4, a5] (.int x :: st) h) ∧
  (∀ (d : Nat) (L st : List Value) (h : fk_H), fk_ev d qX11_built 101 L st h = fk_ev d qX11_built 102 L (.int (nI 1) :: st) h) ∧
  (∀ (d : Nat) (L : List Value) (x y : Int32) (st : List Value) (h : fk_H), fk_ev d qX11_built 102 L (.int y :: .int x :: st) h = fk_ev d qX11_built 103 L (.int (x - y) :: st) h) ∧
  (∀ (d : Nat) (L st : List Value) (h : fk_H), fk_ev d qX11_built 103 L st h = fk_ev d qX11_built 104 L (.int (nI 0) :: st) h) ∧
  (∀ (d : Nat) (L : List Value) (x y : Int32) (h : fk_H), fk_ev d qX11_built 104 L (.int y :: .int x :: []) h = fk_ev d qX11_built 107 L (.int (if x < y then y else x) :: []) h) ∧
  (∀ (d : Nat) (L : List Value) (x : Int32) (h : fk_H), fk_ev d qX11_built 107 L [.int x] h = some (some (.int x), h)) ∧
  (∀ (d : Nat) (a0 a1 a3 a4 a5 : Value) (x : Int32) (st : List Value) (h : fk_H), fk_ev d qX11_built 108 [a0, a1, .int x, a3, a4, a5] st h = fk_ev d qX11_built 109 [a0, a1, .int x, a3, a4, a5] (.int x :: st) h) ∧
  (∀ (d : Nat) (L : List Value) (x : Int32) (h : fk_H), fk_ev d qX11_built 109 L [.int x] h = some (some (.int x), h)) ∧
  (∀ (d : Nat) (a0 a1 a2 a4 a5 : Value) (x : Int32) (st : List Value) (h : fk_H), fk_ev d qX11_built 110 [a0, a1, a2, .int x, a4, a5] st h = fk_ev d qX11_built 111 [a0, a1, a2, .int x, a4, a5] (.int x :: st) h) ∧
  (∀ (d : Nat) (L : List Value) (x : Int32) (h : fk_H), fk_ev d qX11_built 111 L [.int x] h = some (some (.int x), h)) := ⟨fun d a0 a2 a3 a4 a5 x st h => fk_w_iloadn 1 [a0, .int x, a2, a3, a4, a5] dX11_built_0 rfl,
  fun d L st h => fk_w_iconst dX11_built_1 (by decide),
  fun d L x0 x1 h => fk_g_calls [.int x0, .int x1] [] rfl lm_11_110 dX11_built_2 rfl ⟨rfl, by decide⟩ (by simp),
  fun d L x st h => fk_r_if_ne dX11_built_5 (by decide),
  fun d L st h => fk_w_iconst dX11_built_8 (by decide),
  fun d L x h => fk_r_ret dX11_built_9 (Or.inl rfl),
  fun d L st h => fk_w_iconst dX11_built_10 (by decide),
  fun d a0 a1 a2 a3 a4 a5 x st h => fk_w_istoren 2 6 [] [a0, a1, a2, a3, a4, a5] [a0, a1, .int x, a3, a4, a5] dX11_built_11 rfl rfl (by decide) rfl,
  fun d L st h => fk_w_iconst dX11_built_12 (by decide),
  fun d a0 a1 a2 a3 a4 a5 x st h => fk_w_istoren 3 6 [] [a0, a1, a2, a3, a4, a5] [a0, a1, a2, .int x, a4, a5] dX11_built_13 rfl rfl (by decide) rfl,
  fun d L st h => fk_w_iconst dX11_built_14 (by decide),
  fun d a0 a1 a2 a3 a4 a5 x st h => fk_w_istore 4 6 [] [a0, a1, a2, a3, a4, a5] [a0, a1, a2, a3, .int x, a5] dX11_built_15 rfl rfl (by decide) rfl,
  fun d L st h => fk_w_bipush dX11_built_19 (by decide),
  fun d L x y st h => fk_r_icmp_ge dX11_built_21 (by decide),
  fun d a1 a2 a3 a4 a5 x st h => fk_w_aloadn 0 [.ref x, a1, a2, a3, a4, a5] dX11_built_24 rfl,
  fun d L st N y l => fk_g_getC rfl lf_11_26 (by decide) rfl dX11_built_25 fk_at_1,
  fun d a0 a1 a2 a3 a5 x st h => fk_w_iload 4 [a0, a1, a2, a3, .int x, a5] dX11_built_28 rfl,
  fun d L x0 N y l  => fk_g_call [.int x0] [] rfl lm_11_331 dX11_built_30 rfl ⟨rfl, by decide⟩ (by simp) fk_at_18,
  fun d a0 a1 a2 a3 a4 a5 x st h => fk_w_istore 5 6 [] [a0, a1, a2, a3, a4, a5] [a0, a1, a2, a3, a4, .int x] dX11_built_33 rfl rfl (by decide) rfl,
  fun d a0 a1 a2 a3 a4 x st h => fk_w_iload 5 [a0, a1, a2, a3, a4, .int x] dX11_built_35 rfl,
  fun d L x st h => fk_r_if_eq dX11_built_37 (by decide),
  fun d a0 a1 a2 a3 a4 x st h => fk_w_iload 5 [a0, a1, a2, a3, a4, .int x] dX11_built_40 rfl,
  fun d L st h => fk_w_iconst dX11_built_42 (by decide),
  fun d a0 a1 a2 a3 a5 x st h => fk_w_iload 4 [a0, a1, a2, a3, .int x, a5] dX11_built_43 rfl,
  fun d L x y st h => fk_r_ishl dX11_built_45,
  fun d L st h => fk_w_iconst dX11_built_46 (by decide),
  fun d L x y st h => fk_r_isub dX11_built_47,
  fun d L x y st h => fk_r_iand dX11_built_48,
  fun d L x st h => fk_r_if_ne dX11_built_49 (by decide),
  fun d a0 a1 a3 a4 a5 x st h => fk_w_iloadn 2 [a0, a1, .int x, a3, a4, a5] dX11_built_52 rfl,
  fun d L x st h => fk_r_if_ne dX11_built_53 (by decide),
  fun d a0 a1 a2 a3 a4 x st h => fk_w_iload 5 [a0, a1, a2, a3, a4, .int x] dX11_built_56 rfl,
  fun d L st h => fk_r_goto dX11_built_58 (by decide),
  fun d a0 a1 a2 a4 a5 x st h => fk_w_iloadn 3 [a0, a1, a2, .int x, a4, a5] dX11_built_61 rfl,
  fun d a0 a1 a2 a3 a4 a5 x st h => fk_w_istoren 3 6 [] [a0, a1, a2, a3, a4, a5] [a0, a1, a2, .int x, a4, a5] dX11_built_62 rfl rfl (by decide) rfl,
  fun d a0 a1 a3 a4 a5 x st h => fk_w_iinc 2 6 (1) [] [a0, a1, .int x, a3, a4, a5] [a0, a1, .int (x + nI 1), a3, a4, a5] dX11_built_63 rfl rfl rfl (by decide) rfl,
  fun d a0 a1 a2 a3 a5 x st h => fk_w_iinc 4 6 (1) [] [a0, a1, a2, a3, .int x, a5] [a0, a1, a2, a3, .int (x + nI 1), a5] dX11_built_66 rfl rfl rfl (by decide) rfl,
  fun d L st h => fk_r_goto dX11_built_69 (by decide),
  fun d a0 a2 a3 a4 a5 x st h => fk_w_iloadn 1 [a0, .int x, a2, a3, a4, a5] dX11_built_72 rfl,
  fun d L st h => fk_w_look (off := 27) dX11_built_73 (by decide) (by decide) (by decide),
  fun d L st h => fk_w_look (off := 35) dX11_built_73 (by decide) (by decide) (by decide),
  fun d L x st h h0 h1 => fk_w_look (off := 37) dX11_built_73 (by decide) (by refine (if_neg h0).trans ?_; refine (if_neg h1).trans ?_; rfl) (by decide),
  fun d a0 a1 a3 a4 a5 x st h => fk_w_iloadn 2 [a0, a1, .int x, a3, a4, a5] dX11_built_100 rfl,
  fun d L st h => fk_w_iconst dX11_built_101 (by decide),
  fun d L x y st h => fk_r_isub dX11_built_102,
  fun d L st h => fk_w_iconst dX11_built_103 (by decide),
  fun d L x y  h => fk_p_max dX11_built_104 ln_11_334 lp_11_334 (by simp),
  fun d L x h => fk_r_ret dX11_built_107 (Or.inl rfl),
  fun d a0 a1 a3 a4 a5 x st h => fk_w_iloadn 2 [a0, a1, .int x, a3, a4, a5] dX11_built_108 rfl,
  fun d L x h => fk_r_ret dX11_built_109 (Or.inl rfl),
  fun d a0 a1 a2 a4 a5 x st h => fk_w_iloadn 3 [a0, a1, a2, .int x, a4, a5] dX11_built_110 rfl,
  fun d L x h => fk_r_ret dX11_built_111 (Or.inl rfl)⟩
theorem hX11_built_17 : ∀ (d : Nat) (a0 a1 a2 a3 a5 : Value) (x : Int32) (st : List Value) (h : fk_H), fk_ev d qX11_built 17 [a0, a1, a2, a3, .int x, a5] st h = fk_ev d qX11_built 19 [a0, a1, a2, a3, .int x, a5] (.int x :: st) h := fun d a0 a1 a2 a3 a5 x st h => fk_w_iload 4 [a0, a1, a2, a3, .int x, a5] dX11_built_17 rfl
theorem dX11_closed_0 : decode cX11_closed 0 = .ok (.iload_n 1, 1) := by decide +kernel
theorem dX11_closed_1 : decode cX11_closed 1 = .ok (.bipush 16, 2) := by decide +kernel
theorem dX11_closed_3 : decode cX11_closed 3 = .ok (.invokestatic 110, 3) := by decide +kernel
theorem dX11_closed_6 : decode cX11_closed 6 = .ok (.ifCond .eq 25, 3) := by decide +kernel
theorem dX11_closed_9 : decode cX11_closed 9 = .ok (.iload_n 2, 1) := by decide +kernel
theorem dX11_closed_10 : decode cX11_closed 10 = .ok (.bipush 16, 2) := by decide +kernel
theorem dX11_closed_12 : decode cX11_closed 12 = .ok (.invokestatic 110, 3) := by decide +kernel
theorem dX11_closed_15 : decode cX11_closed 15 = .ok (.ifCond .eq 16, 3) := by decide +kernel
theorem dX11_closed_18 : decode cX11_closed 18 = .ok (.iload_n 1, 1) := by decide +kernel
theorem dX11_closed_19 : decode cX11_closed 19 = .ok (.iload_n 2, 1) := by decide +kernel
theorem dX11_closed_20 : decode cX11_closed 20 = .ok (.if_icmp .eq 11, 3) := by decide +kernel
theorem dX11_closed_23 : decode cX11_closed 23 = .ok (.iload_n 3, 1) := by decide +kernel
theorem dX11_closed_24 : decode cX11_closed 24 = .ok (.iconst 2, 1) := by decide +kernel
theorem dX11_closed_25 : decode cX11_closed 25 = .ok (.invokestatic 110, 3) := by decide +kernel
theorem dX11_closed_28 : decode cX11_closed 28 = .ok (.ifCond .ne 5, 3) := by decide +kernel
theorem dX11_closed_31 : decode cX11_closed 31 = .ok (.iconst (-1), 1) := by decide +kernel
theorem dX11_closed_32 : decode cX11_closed 32 = .ok (.ireturn, 1) := by decide +kernel
theorem dX11_closed_33 : decode cX11_closed 33 = .ok (.aload_n 0, 1) := by decide +kernel
theorem dX11_closed_34 : decode cX11_closed 34 = .ok (.getfield 26, 3) := by decide +kernel
theorem dX11_closed_37 : decode cX11_closed 37 = .ok (.iload_n 1, 1) := by decide +kernel
theorem dX11_closed_38 : decode cX11_closed 38 = .ok (.iload_n 2, 1) := by decide +kernel
theorem dX11_closed_39 : decode cX11_closed 39 = .ok (.invokevirtual 339, 3) := by decide +kernel
theorem dX11_closed_42 : decode cX11_closed 42 = .ok (.istore 4, 2) := by decide +kernel
theorem dX11_closed_44 : decode cX11_closed 44 = .ok (.iload 4, 2) := by decide +kernel
theorem dX11_closed_46 : decode cX11_closed 46 = .ok (.ifCond .ge 6, 3) := by decide +kernel
theorem dX11_closed_49 : decode cX11_closed 49 = .ok (.bipush (-2), 2) := by decide +kernel
theorem dX11_closed_51 : decode cX11_closed 51 = .ok (.ireturn, 1) := by decide +kernel
theorem dX11_closed_52 : decode cX11_closed 52 = .ok (.iload_n 3, 1) := by decide +kernel
theorem dX11_closed_53 : decode cX11_closed 53 = .ok (.ifCond .ne 11, 3) := by decide +kernel
theorem dX11_closed_56 : decode cX11_closed 56 = .ok (.iload 4, 2) := by decide +kernel
theorem dX11_closed_58 : decode cX11_closed 58 = .ok (.invokestatic 342, 3) := by decide +kernel
theorem dX11_closed_61 : decode cX11_closed 61 = .ok (.goto 5, 3) := by decide +kernel
theorem dX11_closed_64 : decode cX11_closed 64 = .ok (.iload 4, 2) := by decide +kernel
theorem dX11_closed_66 : decode cX11_closed 66 = .ok (.ireturn, 1) := by decide +kernel
theorem rX11_closed : (∀ (d : Nat) (a0 a2 a3 a4 : Value) (x : Int32) (st : List Value) (h : fk_H), fk_ev d qX11_closed 0 [a0, .int x, a2, a3, a4] st h = fk_ev d qX11_closed 1 [a0, .int x, a2, a3, a4] (.int x :: st) h) ∧
  (∀ (d : Nat) (L st : List Value) (h : fk_H), fk_ev d qX11_closed 1 L st h = fk_ev d qX11_closed 3 L (.int (nI 16) :: st) h) ∧
  (∀ (d : Nat) (L : List Value) (x0 : Int32) (x1 : Int32)  (h : fk_H), fk_ev (d + 1) qX11_closed 3 L (.int x1 :: .int x0 :: []) h = (fk_ev d qX11_within 0 [.int x0, .int x1] [] h).bind fun o => fk_ev (d + 1) qX11_closed 6 L (o.1.toList ++ []) o.2) ∧
  (∀ (d : Nat) (L : List Value) (x : Int32) (st : List Value) (h : fk_H), fk_ev d qX11_closed 6 L (.int x :: st) h = if x = nI 0 then fk_ev d qX11_closed 31 L st h else fk_ev d qX11_closed 9 L st h) ∧
  (∀ (d : Nat) (a0 a1 a3 a4 : Value) (x : Int32) (st : List Value) (h : fk_H), fk_ev d qX11_closed 9 [a0, a1, .int x, a3, a4] st h = fk_ev d qX11_closed 10 [a0, a1, .int x, a3, a4] (.int x :: st) h) ∧
  (∀ (d : Nat) (L st : List Value) (h : fk_H), fk_ev d qX11_closed 10 L st h = fk_ev d qX11_closed 12 L (.int (nI 16) :: st) h) ∧
  (∀ (d : Nat) (L : List Value) (x0 : Int32) (x1 : Int32)  (h : fk_H), fk_ev (d + 1) qX11_closed 12 L (.int x1 :: .int x0 :: []) h = (fk_ev d qX11_within 0 [.int x0, .int x1] [] h).bind fun o => fk_ev (d + 1) qX11_closed 15 L (o.1.toList ++ []) o.2) ∧
  (∀ (d : Nat) (L : List Value) (x : Int32) (st : List Value) (h : fk_H), fk_ev d qX11_closed 15 L (.int x :: st) h = if x = nI 0 then fk_ev d qX11_closed 31 L st h else fk_ev d qX11_closed 18 L st h) ∧
  (∀ (d : Nat) (a0 a2 a3 a4 : Value) (x : Int32) (st : List Value) (h : fk_H), fk_ev d qX11_closed 18 [a0, .int x, a2, a3, a4] st h = fk_ev d qX11_closed 19 [a0, .int x, a2, a3, a4] (.int x :: st) h) ∧
  (∀ (d : Nat) (a0 a1 a3 a4 : Value) (x : Int32) (st : List Value) (h : fk_H), fk_ev d qX11_closed 19 [a0, a1, .int x, a3, a4] st h = fk_ev d qX11_closed 20 [a0, a1, .int x, a3, a4] (.int x :: st) h) ∧
  (∀ (d : Nat) (L : List Value) (x y : Int32) (st : List Value) (h : fk_H), fk_ev d qX11_closed 20 L (.int y :: .int x :: st) h = if x = y then fk_ev d qX11_closed 31 L st h else fk_ev d qX11_closed 23 L st h) ∧
  (∀ (d : Nat) (a0 a1 a2 a4 : Value) (x : Int32) (st : List Value) (h : fk_H), fk_ev d qX11_closed 23 [a0, a1, a2, .int x, a4] st h = fk_ev d qX11_closed 24 [a0, a1, a2, .int x, a4] (.int x :: st) h) ∧
  (∀ (d : Nat) (L st : List Value) (h : fk_H), fk_ev d qX11_closed 24 L st h = fk_ev d qX11_closed 25 L (.int (nI 2) :: st) h) ∧
  (∀ (d : Nat) (L : List Value) (x0 : Int32) (x1 : Int32)  (h : fk_H), fk_ev (d + 1) qX11_closed 25 L (.int x1 :: .int x0 :: []) h = (fk_ev d qX11_within 0 [.int x0, .int x1] [] h).bind fun o => fk_ev (d + 1) qX11_closed 28 L (o.1.toList ++ []) o.2) ∧
  (∀ (d : Nat) (L : List Value) (x : Int32) (st : List Value) (h : fk_H), fk_ev d qX11_closed 28 L (.int x :: st) h = if ¬ x = nI 0 then fk_ev d qX11_closed 33 L st h else fk_ev d qX11_closed 31 L st h) ∧
  (∀ (d : Nat) (L st : List Value) (h : fk_H), fk_ev d qX11_closed 31 L st h = fk_ev d qX11_closed 32 L (.int ((-1 : Int32)) :: st) h) ∧
  (∀ (d : Nat) (L : List Value) (x : Int32) (h : fk_H), fk_ev d qX11_closed 32 L [.int x] h = some (some (.int x), h)) ∧
  (∀ (d : Nat) (a1 a2 a3 a4 : Value) (x : Nat) (st : List Value) (h : fk_H), fk_ev d qX11_closed 33 [.ref x, a1, a2, a3, a4] st h = fk_ev d qX11_closed 34 [.ref x, a1, a2, a3, a4] (.ref x :: st) h) ∧
  (∀ (d : Nat) (L st : List Value) (N : Nat) (y : Nat → Nat → Int32) (l : Nat → Nat → Int64), fk_ev d qX11_closed 34 L (.ref 1 :: st) (fk_E N y l) = fk_ev d qX11_closed 37 L (.ref 18 :: st) (fk_E N y l)) ∧
  (∀ (d : Nat) (a0 a2 a3 a4 : Value) (x : Int32) (st : List Value) (h : fk_H), fk_ev d qX11_closed 37 [a0, .int x, a2, a3, a4] st h = fk_ev d qX11_closed 38 [a0, .int x, a2, a3, a4] (.int x :: st) h) ∧
  (∀ (d : Nat) (a0 a1 a3 a4 : Value) (x : Int32) (st : List Value) (h : fk_H), fk_ev d qX11_closed 38 [a0, a1, .int x, a3, a4] st h = fk_ev d qX11_closed 39 [a0, a1, .int x, a3, a4] (.int x :: st) h) ∧
  (∀ (d : Nat) (L : List Value) (x0 : Int32) (x1 : Int32)  (N : Nat) (y : Nat → Nat → Int32) (l : Nat → Nat → Int64), fk_ev (d + 1) qX11_closed 39 L (.int x1 :: .int x0 :: .ref 18 :: []) (fk_E N y l) = (fk_ev d qX5_fewestClosed 0 [.ref 18, .int x0, .int x1, .null, .null, .null, .null, .null] [] (fk_E N y l)).bind fun o => fk_ev (d + 1) qX11_closed 42 L (o.1.toList ++ []) o.2) ∧
  (∀ (d : Nat) (a0 a1 a2 a3 a4 : Value) (x : Int32) (st : List Value) (h : fk_H), fk_ev d qX11_closed 42 [a0, a1, a2, a3, a4] (.int x :: st) h = fk_ev d qX11_closed 44 [a0, a1, a2, a3, .int x] st h) ∧
  (∀ (d : Nat) (a0 a1 a2 a3 : Value) (x : Int32) (st : List Value) (h : fk_H), fk_ev d qX11_closed 44 [a0, a1, a2, a3, .int x] st h = fk_ev d qX11_closed 46 [a0, a1, a2, a3, .int x] (.int x :: st) h) ∧
  (∀ (d : Nat) (L : List Value) (x : Int32) (st : List Value) (h : fk_H), fk_ev d qX11_closed 46 L (.int x :: st) h = if nI 0 ≤ x then fk_ev d qX11_closed 52 L st h else fk_ev d qX11_closed 49 L st h) ∧
  (∀ (d : Nat) (L st : List Value) (h : fk_H), fk_ev d qX11_closed 49 L st h = fk_ev d qX11_closed 51 L (.int ((-2 : Int32)) :: st) h) ∧
  (∀ (d : Nat) (L : List Value) (x : Int32) (h : fk_H), fk_ev d qX11_closed 51 L [.int x] h = some (some (.int x), h)) ∧
  (∀ (d : Nat) (a0 a1 a2 a4 : Value) (x : Int32) (st : List Value) (h : fk_H), fk_ev d qX11_closed 52 [a0, a1, a2, .int x, a4] st h = fk_ev d qX11_closed 53 [a0, a1, a2, .int x, a4] (.int x :: st) h) ∧
  (∀ (d : Nat) (L : List Value) (x : Int32) (st : List Value) (h : fk_H), fk_ev d qX11_closed 53 L (.int x :: st) h = if ¬ x = nI 0 then fk_ev d qX11_closed 64 L st h else fk_ev d qX11_closed 56 L st h) ∧
  (∀ (d : Nat) (a0 a1 a2 a3 : Value) (x : Int32) (st : List Value) (h : fk_H), fk_ev d qX11_closed 56 [a0, a1, a2, a3, .int x] st h = fk_ev d qX11_closed 58 [a0, a1, a2, a3, .int x] (.int x :: st) h) ∧
  (∀ (d : Nat) (L : List Value) (x0 : Int32)  (h : fk_H), fk_ev (d + 1) qX11_closed 58 L (.int x0 :: []) h = (fk_ev d qJ6_bitCount_0f7a4 0 [.int x0] [] h).bind fun o => fk_ev (d + 1) qX11_closed 61 L (o.1.toList ++ []) o.2) ∧
  (∀ (d : Nat) (L st : List Value) (h : fk_H), fk_ev d qX11_closed 61 L st h = fk_ev d qX11_closed 66 L st h) ∧
  (∀ (d : Nat) (a0 a1 a2 a3 : Value) (x : Int32) (st : List Value) (h : fk_H), fk_ev d qX11_closed 64 [a0, a1, a2, a3, .int x] st h = fk_ev d qX11_closed 66 [a0, a1, a2, a3, .int x] (.int x :: st) h) ∧
  (∀ (d : Nat) (L : List Value) (x : Int32) (h : fk_H), fk_ev d qX11_closed 66 L [.int x] h = some (some (.int x), h)) := ⟨fun d a0 a2 a3 a4 x st h => fk_w_iloadn 1 [a0, .int x, a2, a3, a4] dX11_closed_0 rfl,
  fun d L st h => fk_w_bipush dX11_closed_1 (by decide),
  fun d L x0 x1 h => fk_g_calls [.int x0, .int x1] [] rfl lm_11_110 dX11_closed_3 rfl ⟨rfl, by decide⟩ (by simp),
  fun d L x st h => fk_r_if_eq dX11_closed_6 (by decide),
  fun d a0 a1 a3 a4 x st h => fk_w_iloadn 2 [a0, a1, .int x, a3, a4] dX11_closed_9 rfl,
  fun d L st h => fk_w_bipush dX11_closed_10 (by decide),
  fun d L x0 x1 h => fk_g_calls [.int x0, .int x1] [] rfl lm_11_110 dX11_closed_12 rfl ⟨rfl, by decide⟩ (by simp),
  fun d L x st h => fk_r_if_eq dX11_closed_15 (by decide),
  fun d a0 a2 a3 a4 x st h => fk_w_iloadn 1 [a0, .int x, a2, a3, a4] dX11_closed_18 rfl,
  fun d a0 a1 a3 a4 x st h => fk_w_iloadn 2 [a0, a1, .int x, a3, a4] dX11_closed_19 rfl,
  fun d L x y st h => fk_r_icmp_eq dX11_closed_20 (by decide),
  fun d a0 a1 a2 a4 x st h => fk_w_iloadn 3 [a0, a1, a2, .int x, a4] dX11_closed_23 rfl,
  fun d L st h => fk_w_iconst dX11_closed_24 (by decide),
  fun d L x0 x1 h => fk_g_calls [.int x0, .int x1] [] rfl lm_11_110 dX11_closed_25 rfl ⟨rfl, by decide⟩ (by simp),
  fun d L x st h => fk_r_if_ne dX11_closed_28 (by decide),
  fun d L st h => fk_w_iconst dX11_closed_31 (by decide),
  fun d L x h => fk_r_ret dX11_closed_32 (Or.inl rfl),
  fun d a1 a2 a3 a4 x st h => fk_w_aloadn 0 [.ref x, a1, a2, a3, a4] dX11_closed_33 rfl,
  fun d L st N y l => fk_g_getC rfl lf_11_26 (by decide) rfl dX11_closed_34 fk_at_1,
  fun d a0 a2 a3 a4 x st h => fk_w_iloadn 1 [a0, .int x, a2, a3, a4] dX11_closed_37 rfl,
  fun d a0 a1 a3 a4 x st h => fk_w_iloadn 2 [a0, a1, .int x, a3, a4] dX11_closed_38 rfl,
  fun d L x0 x1 N y l  => fk_g_call [.int x0, .int x1] [] rfl lm_11_339 dX11_closed_39 rfl ⟨rfl, by decide⟩ (by simp) fk_at_18,
  fun d a0 a1 a2 a3 a4 x st h => fk_w_istore 4 5 [] [a0, a1, a2, a3, a4] [a0, a1, a2, a3, .int x] dX11_closed_42 rfl rfl (by decide) rfl,
  fun d a0 a1 a2 a3 x st h => fk_w_iload 4 [a0, a1, a2, a3, .int x] dX11_closed_44 rfl,
  fun d L x st h => fk_r_if_ge dX11_closed_46 (by decide),
  fun d L st h => fk_w_bipush dX11_closed_49 (by decide),
  fun d L x h => fk_r_ret dX11_closed_51 (Or.inl rfl),
  fun d a0 a1 a2 a4 x st h => fk_w_iloadn 3 [a0, a1, a2, .int x, a4] dX11_closed_52 rfl,
  fun d L x st h => fk_r_if_ne dX11_closed_53 (by decide),
  fun d a0 a1 a2 a3 x st h => fk_w_iload 4 [a0, a1, a2, a3, .int x] dX11_closed_56 rfl,
  fun d L x0 h => fk_g_calls [.int x0] [] rfl lm_11_342 dX11_closed_58 rfl ⟨rfl, by decide⟩ (by simp),
  fun d L st h => fk_r_goto dX11_closed_61 (by decide),
  fun d a0 a1 a2 a3 x st h => fk_w_iload 4 [a0, a1, a2, a3, .int x] dX11_closed_64 rfl,
  fun d L x h => fk_r_ret dX11_closed_66 (Or.inl rfl)⟩
theorem dX11_history_0 : decode cX11_history 0 = .ok (.aload_n 0, 1) := by decide +kernel
theorem dX11_history_1 : decode cX11_history 1 = .ok (.getfield 58, 3) := by decide +kernel
theorem dX11_history_4 : decode cX11_history 4 = .ok (.iload_n 1, 1) := by decide +kernel
theorem dX11_history_5 : decode cX11_history 5 = .ok (.invokevirtual 215, 3) := by decide +kernel
theorem dX11_history_8 : decode cX11_history 8 = .ok (.ifCond .eq 25, 3) := by decide +kernel
theorem dX11_history_11 : decode cX11_history 11 = .ok (.iload_n 2, 1) := by decide +kernel
theorem dX11_history_12 : decode cX11_history 12 = .ok (.iconst 1, 1) := by decide +kernel
theorem dX11_history_13 : decode cX11_history 13 = .ok (.if_icmp .lt 20, 3) := by decide +kernel
theorem dX11_history_16 : decode cX11_history 16 = .ok (.iload_n 2, 1) := by decide +kernel
theorem dX11_history_17 : decode cX11_history 17 = .ok (.bipush 60, 2) := by decide +kernel
theorem dX11_history_19 : decode cX11_history 19 = .ok (.if_icmp .gt 14, 3) := by decide +kernel
theorem dX11_history_22 : decode cX11_history 22 = .ok (.iload_n 2, 1) := by decide +kernel
theorem dX11_history_23 : decode cX11_history 23 = .ok (.aload_n 0, 1) := by decide +kernel
theorem dX11_history_24 : decode cX11_history 24 = .ok (.getfield 33, 3) := by decide +kernel
theorem dX11_history_27 : decode cX11_history 27 = .ok (.getfield 160, 3) := by decide +kernel
theorem dX11_history_30 : decode cX11_history 30 = .ok (.if_icmp .le 5, 3) := by decide +kernel
theorem dX11_history_33 : decode cX11_history 33 = .ok (.iconst (-1), 1) := by decide +kernel
theorem dX11_history_34 : decode cX11_history 34 = .ok (.ireturn, 1) := by decide +kernel
theorem dX11_history_35 : decode cX11_history 35 = .ok (.aload_n 0, 1) := by decide +kernel
theorem dX11_history_36 : decode cX11_history 36 = .ok (.getfield 51, 3) := by decide +kernel
theorem dX11_history_39 : decode cX11_history 39 = .ok (.iload_n 2, 1) := by decide +kernel
theorem dX11_history_40 : decode cX11_history 40 = .ok (.invokevirtual 347, 3) := by decide +kernel
theorem dX11_history_43 : decode cX11_history 43 = .ok (.istore_n 3, 1) := by decide +kernel
theorem dX11_history_44 : decode cX11_history 44 = .ok (.aload_n 0, 1) := by decide +kernel
theorem dX11_history_45 : decode cX11_history 45 = .ok (.getfield 33, 3) := by decide +kernel
theorem dX11_history_48 : decode cX11_history 48 = .ok (.invokevirtual 167, 3) := by decide +kernel
theorem dX11_history_51 : decode cX11_history 51 = .ok (.iload_n 3, 1) := by decide +kernel
theorem dX11_history_52 : decode cX11_history 52 = .ok (.ifCond .eq 5, 3) := by decide +kernel
theorem dX11_history_55 : decode cX11_history 55 = .ok (.iload_n 3, 1) := by decide +kernel
theorem dX11_history_56 : decode cX11_history 56 = .ok (.ireturn, 1) := by decide +kernel
theorem dX11_history_57 : decode cX11_history 57 = .ok (.iconst 0, 1) := by decide +kernel
theorem dX11_history_58 : decode cX11_history 58 = .ok (.istore 4, 2) := by decide +kernel
theorem dX11_history_60 : decode cX11_history 60 = .ok (.iload 4, 2) := by decide +kernel
theorem dX11_history_62 : decode cX11_history 62 = .ok (.aload_n 0, 1) := by decide +kernel
theorem dX11_history_63 : decode cX11_history 63 = .ok (.getfield 51, 3) := by decide +kernel
theorem dX11_history_66 : decode cX11_history 66 = .ok (.getfield 349, 3) := by decide +kernel
theorem dX11_history_69 : decode cX11_history 69 = .ok (.if_icmp .ge 40, 3) := by decide +kernel
theorem dX11_history_72 : decode cX11_history 72 = .ok (.aload_n 0, 1) := by decide +kernel
theorem dX11_history_73 : decode cX11_history 73 = .ok (.iload_n 1, 1) := by decide +kernel
theorem dX11_history_74 : decode cX11_history 74 = .ok (.aload_n 0, 1) := by decide +kernel
theorem dX11_history_75 : decode cX11_history 75 = .ok (.getfield 51, 3) := by decide +kernel
theorem dX11_history_78 : decode cX11_history 78 = .ok (.getfield 352, 3) := by decide +kernel
theorem dX11_history_81 : decode cX11_history 81 = .ok (.iload 4, 2) := by decide +kernel
theorem dX11_history_83 : decode cX11_history 83 = .ok (.iaload, 1) := by decide +kernel
theorem dX11_history_84 : decode cX11_history 84 = .ok (.aload_n 0, 1) := by decide +kernel
theorem dX11_history_85 : decode cX11_history 85 = .ok (.getfield 51, 3) := by decide +kernel
theorem dX11_history_88 : decode cX11_history 88 = .ok (.getfield 355, 3) := by decide +kernel
theorem dX11_history_91 : decode cX11_history 91 = .ok (.iload 4, 2) := by decide +kernel
theorem dX11_history_93 : decode cX11_history 93 = .ok (.iaload, 1) := by decide +kernel
theorem dX11_history_94 : decode cX11_history 94 = .ok (.invokevirtual 357, 3) := by decide +kernel
theorem dX11_history_97 : decode cX11_history 97 = .ok (.ifCond .ne 6, 3) := by decide +kernel
theorem dX11_history_100 : decode cX11_history 100 = .ok (.iload 4, 2) := by decide +kernel
theorem dX11_history_102 : decode cX11_history 102 = .ok (.ireturn, 1) := by decide +kernel
theorem dX11_history_103 : decode cX11_history 103 = .ok (.iinc 4 1, 3) := by decide +kernel
theorem dX11_history_106 : decode cX11_history 106 = .ok (.goto (-46), 3) := by decide +kernel
theorem dX11_history_109 : decode cX11_history 109 = .ok (.aload_n 0, 1) := by decide +kernel
theorem dX11_history_110 : decode cX11_history 110 = .ok (.getfield 51, 3) := by decide +kernel
theorem dX11_history_113 : decode cX11_history 113 = .ok (.getfield 349, 3) := by decide +kernel
theorem dX11_history_116 : decode cX11_history 116 = .ok (.ireturn, 1) := by decide +kernel
theorem rX11_history : (∀ (d : Nat) (a1 a2 a3 a4 : Value) (x : Nat) (st : List Value) (h : fk_H), fk_ev d qX11_history 0 [.ref x, a1, a2, a3, a4] st h = fk_ev d qX11_history 1 [.ref x, a1, a2, a3, a4] (.ref x :: st) h) ∧
  (∀ (d : Nat) (L st : List Value) (N : Nat) (y : Nat → Nat → Int32) (l : Nat → Nat → Int64), fk_ev d qX11_history 1 L (.ref 1 :: st) (fk_E N y l) = fk_ev d qX11_history 4 L (.ref 33 :: st) (fk_E N y l)) ∧
  (∀ (d : Nat) (a0 a2 a3 a4 : Value) (x : Int32) (st : List Value) (h : fk_H), fk_ev d qX11_history 4 [a0, .int x, a2, a3, a4] st h = fk_ev d qX11_history 5 [a0, .int x, a2, a3, a4] (.int x :: st) h) ∧
  (∀ (d : Nat) (L : List Value) (x0 : Int32)  (N : Nat) (y : Nat → Nat → Int32) (l : Nat → Nat → Int64) (c : Nat), fk_at c 8 → fk_ev (d + 1) qX11_history 5 L (.int x0 :: .ref c :: []) (fk_E N y l) = (fk_ev d qX8_hasBeen 0 [.ref c, .int x0] [] (fk_E N y l)).bind fun o => fk_ev (d + 1) qX11_history 8 L (o.1.toList ++ []) o.2) ∧
  (∀ (d : Nat) (L : List Value) (x : Int32) (st : List Value) (h : fk_H), fk_ev d qX11_history 8 L (.int x :: st) h = if x = nI 0 then fk_ev d qX11_history 33 L st h else fk_ev d qX11_history 11 L st h) ∧
  (∀ (d : Nat) (a0 a1 a3 a4 : Value) (x : Int32) (st : List Value) (h : fk_H), fk_ev d qX11_history 11 [a0, a1, .int x, a3, a4] st h = fk_ev d qX11_history 12 [a0, a1, .int x, a3, a4] (.int x :: st) h) ∧
  (∀ (d : Nat) (L st : List Value) (h : fk_H), fk_ev d qX11_history 12 L st h = fk_ev d qX11_history 13 L (.int (nI 1) :: st) h) ∧
  (∀ (d : Nat) (L : List Value) (x y : Int32) (st : List Value) (h : fk_H), fk_ev d qX11_history 13 L (.int y :: .int x :: st) h = if x < y then fk_ev d qX11_history 33 L st h else fk_ev d qX11_history 16 L st h) ∧
  (∀ (d : Nat) (a0 a1 a3 a4 : Value) (x : Int32) (st : List Value) (h : fk_H), fk_ev d qX11_history 16 [a0, a1, .int x, a3, a4] st h = fk_ev d qX11_history 17 [a0, a1, .int x, a3, a4] (.int x :: st) h) ∧
  (∀ (d : Nat) (L st : List Value) (h : fk_H), fk_ev d qX11_history 17 L st h = fk_ev d qX11_history 19 L (.int (nI 60) :: st) h) ∧
  (∀ (d : Nat) (L : List Value) (x y : Int32) (st : List Value) (h : fk_H), fk_ev d qX11_history 19 L (.int y :: .int x :: st) h = if y < x then fk_ev d qX11_history 33 L st h else fk_ev d qX11_history 22 L st h) ∧
  (∀ (d : Nat) (a0 a1 a3 a4 : Value) (x : Int32) (st : List Value) (h : fk_H), fk_ev d qX11_history 22 [a0, a1, .int x, a3, a4] st h = fk_ev d qX11_history 23 [a0, a1, .int x, a3, a4] (.int x :: st) h) ∧
  (∀ (d : Nat) (a1 a2 a3 a4 : Value) (x : Nat) (st : List Value) (h : fk_H), fk_ev d qX11_history 23 [.ref x, a1, a2, a3, a4] st h = fk_ev d qX11_history 24 [.ref x, a1, a2, a3, a4] (.ref x :: st) h) ∧
  (∀ (d : Nat) (L st : List Value) (N : Nat) (y : Nat → Nat → Int32) (l : Nat → Nat → Int64), fk_ev d qX11_history 24 L (.ref 1 :: st) (fk_E N y l) = fk_ev d qX11_history 27 L (.ref 26 :: st) (fk_E N y l)) ∧
  (∀ (d : Nat) (L st : List Value) (N : Nat) (y : Nat → Nat → Int32) (l : Nat → Nat → Int64), fk_ev d qX11_history 27 L (.ref 26 :: st) (fk_E N y l) = fk_ev d qX11_history 30 L (.int (y 26 1) :: st) (fk_E N y l)) ∧
  (∀ (d : Nat) (L : List Value) (x y : Int32) (st : List Value) (h : fk_H), fk_ev d qX11_history 30 L (.int y :: .int x :: st) h = if x ≤ y then fk_ev d qX11_history 35 L st h else fk_ev d qX11_history 33 L st h) ∧
  (∀ (d : Nat) (L st : List Value) (h : fk_H), fk_ev d qX11_history 33 L st h = fk_ev d qX11_history 34 L (.int ((-1 : Int32)) :: st) h) ∧
  (∀ (d : Nat) (L : List Value) (x : Int32) (h : fk_H), fk_ev d qX11_history 34 L [.int x] h = some (some (.int x), h)) ∧
  (∀ (d : Nat) (a1 a2 a3 a4 : Value) (x : Nat) (st : List Value) (h : fk_H), fk_ev d qX11_history 35 [.ref x, a1, a2, a3, a4] st h = fk_ev d qX11_history 36 [.ref x, a1, a2, a3, a4] (.ref x :: st) h) ∧
  (∀ (d : Nat) (L st : List Value) (N : Nat) (y : Nat → Nat → Int32) (l : Nat → Nat → Int64), fk_ev d qX11_history 36 L (.ref 1 :: st) (fk_E N y l) = fk_ev d qX11_history 39 L (.ref 30 :: st) (fk_E N y l)) ∧
  (∀ (d : Nat) (a0 a1 a3 a4 : Value) (x : Int32) (st : List Value) (h : fk_H), fk_ev d qX11_history 39 [a0, a1, .int x, a3, a4] st h = fk_ev d qX11_history 40 [a0, a1, .int x, a3, a4] (.int x :: st) h) ∧
  (∀ (d : Nat) (L : List Value) (x0 : Int32)  (N : Nat) (y : Nat → Nat → Int32) (l : Nat → Nat → Int64), fk_ev (d + 1) qX11_history 40 L (.int x0 :: .ref 30 :: []) (fk_E N y l) = (fk_ev d qX1_read 0 [.ref 30, .int x0, .null, .null] [] (fk_E N y l)).bind fun o => fk_ev (d + 1) qX11_history 43 L (o.1.toList ++ []) o.2) ∧
  (∀ (d : Nat) (a0 a1 a2 a3 a4 : Value) (x : Int32) (st : List Value) (h : fk_H), fk_ev d qX11_history 43 [a0, a1, a2, a3, a4] (.int x :: st) h = fk_ev d qX11_history 44 [a0, a1, a2, .int x, a4] st h) ∧
  (∀ (d : Nat) (a1 a2 a3 a4 : Value) (x : Nat) (st : List Value) (h : fk_H), fk_ev d qX11_history 44 [.ref x, a1, a2, a3, a4] st h = fk_ev d qX11_history 45 [.ref x, a1, a2, a3, a4] (.ref x :: st) h) ∧
  (∀ (d : Nat) (L st : List Value) (N : Nat) (y : Nat → Nat → Int32) (l : Nat → Nat → Int64), fk_ev d qX11_history 45 L (.ref 1 :: st) (fk_E N y l) = fk_ev d qX11_history 48 L (.ref 26 :: st) (fk_E N y l)) ∧
  (∀ (d : Nat) (L : List Value)   (N : Nat) (y : Nat → Nat → Int32) (l : Nat → Nat → Int64), fk_ev (d + 1) qX11_history 48 L (.ref 26 :: []) (fk_E N y l) = (fk_ev d qX10_clear 0 [.ref 26] [] (fk_E N y l)).bind fun o => fk_ev (d + 1) qX11_history 51 L (o.1.toList ++ []) o.2) ∧
  (∀ (d : Nat) (a0 a1 a2 a4 : Value) (x : Int32) (st : List Value) (h : fk_H), fk_ev d qX11_history 51 [a0, a1, a2, .int x, a4] st h = fk_ev d qX11_history 52 [a0, a1, a2, .int x, a4] (.int x :: st) h) ∧
  (∀ (d : Nat) (L : List Value) (x : Int32) (st : List Value) (h : fk_H), fk_ev d qX11_history 52 L (.int x :: st) h = if x = nI 0 then fk_ev d qX11_history 57 L st h else fk_ev d qX11_history 55 L st h) ∧
  (∀ (d : Nat) (a0 a1 a2 a4 : Value) (x : Int32) (st : List Value) (h : fk_H), fk_ev d qX11_history 55 [a0, a1, a2, .int x, a4] st h = fk_ev d qX11_history 56 [a0, a1, a2, .int x, a4] (.int x :: st) h) ∧
  (∀ (d : Nat) (L : List Value) (x : Int32) (h : fk_H), fk_ev d qX11_history 56 L [.int x] h = some (some (.int x), h)) ∧
  (∀ (d : Nat) (L st : List Value) (h : fk_H), fk_ev d qX11_history 57 L st h = fk_ev d qX11_history 58 L (.int (nI 0) :: st) h) ∧
  (∀ (d : Nat) (a0 a1 a2 a3 a4 : Value) (x : Int32) (st : List Value) (h : fk_H), fk_ev d qX11_history 58 [a0, a1, a2, a3, a4] (.int x :: st) h = fk_ev d qX11_history 60 [a0, a1, a2, a3, .int x] st h) ∧
  (∀ (d : Nat) (a1 a2 a3 a4 : Value) (x : Nat) (st : List Value) (h : fk_H), fk_ev d qX11_history 62 [.ref x, a1, a2, a3, a4] st h = fk_ev d qX11_history 63 [.ref x, a1, a2, a3, a4] (.ref x :: st) h) ∧
  (∀ (d : Nat) (L st : List Value) (N : Nat) (y : Nat → Nat → Int32) (l : Nat → Nat → Int64), fk_ev d qX11_history 63 L (.ref 1 :: st) (fk_E N y l) = fk_ev d qX11_history 66 L (.ref 30 :: st) (fk_E N y l)) ∧
  (∀ (d : Nat) (L st : List Value) (N : Nat) (y : Nat → Nat → Int32) (l : Nat → Nat → Int64), fk_ev d qX11_history 66 L (.ref 30 :: st) (fk_E N y l) = fk_ev d qX11_history 69 L (.int (y 30 3) :: st) (fk_E N y l)) ∧
  (∀ (d : Nat) (L : List Value) (x y : Int32) (st : List Value) (h : fk_H), fk_ev d qX11_history 69 L (.int y :: .int x :: st) h = if y ≤ x then fk_ev d qX11_history 109 L st h else fk_ev d qX11_history 72 L st h) ∧
  (∀ (d : Nat) (a1 a2 a3 a4 : Value) (x : Nat) (st : List Value) (h : fk_H), fk_ev d qX11_history 72 [.ref x, a1, a2, a3, a4] st h = fk_ev d qX11_history 73 [.ref x, a1, a2, a3, a4] (.ref x :: st) h) ∧
  (∀ (d : Nat) (a0 a2 a3 a4 : Value) (x : Int32) (st : List Value) (h : fk_H), fk_ev d qX11_history 73 [a0, .int x, a2, a3, a4] st h = fk_ev d qX11_history 74 [a0, .int x, a2, a3, a4] (.int x :: st) h) ∧
  (∀ (d : Nat) (a1 a2 a3 a4 : Value) (x : Nat) (st : List Value) (h : fk_H), fk_ev d qX11_history 74 [.ref x, a1, a2, a3, a4] st h = fk_ev d qX11_history 75 [.ref x, a1, a2, a3, a4] (.ref x :: st) h) ∧
  (∀ (d : Nat) (L st : List Value) (N : Nat) (y : Nat → Nat → Int32) (l : Nat → Nat → Int64), fk_ev d qX11_history 75 L (.ref 1 :: st) (fk_E N y l) = fk_ev d qX11_history 78 L (.ref 30 :: st) (fk_E N y l)) ∧
  (∀ (d : Nat) (L st : List Value) (N : Nat) (y : Nat → Nat → Int32) (l : Nat → Nat → Int64), fk_ev d qX11_history 78 L (.ref 30 :: st) (fk_E N y l) = fk_ev d qX11_history 81 L (.ref 31 :: st) (fk_E N y l)) ∧
  (∀ (d : Nat) (a0 a1 a2 a3 : Value) (x : Int32) (st : List Value) (h : fk_H), fk_ev d qX11_history 81 [a0, a1, a2, a3, .int x] st h = fk_ev d qX11_history 83 [a0, a1, a2, a3, .int x] (.int x :: st) h) ∧
  (∀ (d : Nat) (L st : List Value) (N : Nat) (y : Nat → Nat → Int32) (l : Nat → Nat → Int64) (i : Nat), i < 16 → fk_ev d qX11_history 83 L (.int (nI i) :: .ref 31 :: st) (fk_E N y l) = fk_ev d qX11_history 84 L (.int (y 31 i) :: st) (fk_E N y l)) ∧
  (∀ (d : Nat) (a1 a2 a3 a4 : Value) (x : Nat) (st : List Value) (h : fk_H), fk_ev d qX11_history 84 [.ref x, a1, a2, a3, a4] st h = fk_ev d qX11_history 85 [.ref x, a1, a2, a3, a4] (.ref x :: st) h) ∧
  (∀ (d : Nat) (L st : List Value) (N : Nat) (y : Nat → Nat → Int32) (l : Nat → Nat → Int64), fk_ev d qX11_history 85 L (.ref 1 :: st) (fk_E N y l) = fk_ev d qX11_history 88 L (.ref 30 :: st) (fk_E N y l)) ∧
  (∀ (d : Nat) (L st : List Value) (N : Nat) (y : Nat → Nat → Int32) (l : Nat → Nat → Int64), fk_ev d qX11_history 88 L (.ref 30 :: st) (fk_E N y l) = fk_ev d qX11_history 91 L (.ref 32 :: st) (fk_E N y l)) ∧
  (∀ (d : Nat) (a0 a1 a2 a3 : Value) (x : Int32) (st : List Value) (h : fk_H), fk_ev d qX11_history 91 [a0, a1, a2, a3, .int x] st h = fk_ev d qX11_history 93 [a0, a1, a2, a3, .int x] (.int x :: st) h) ∧
  (∀ (d : Nat) (L st : List Value) (N : Nat) (y : Nat → Nat → Int32) (l : Nat → Nat → Int64) (i : Nat), i < 16 → fk_ev d qX11_history 93 L (.int (nI i) :: .ref 32 :: st) (fk_E N y l) = fk_ev d qX11_history 94 L (.int (y 32 i) :: st) (fk_E N y l)) ∧
  (∀ (d : Nat) (L : List Value) (x0 : Int32) (x1 : Int32) (x2 : Int32)  (N : Nat) (y : Nat → Nat → Int32) (l : Nat → Nat → Int64), fk_ev (d + 1) qX11_history 94 L (.int x2 :: .int x1 :: .int x0 :: .ref 1 :: []) (fk_E N y l) = (fk_ev d qX11_isSo 0 [.ref 1, .int x0, .int x1, .int x2] [] (fk_E N y l)).bind fun o => fk_ev (d + 1) qX11_history 97 L (o.1.toList ++ []) o.2) ∧
  (∀ (d : Nat) (L : List Value) (x : Int32) (st : List Value) (h : fk_H), fk_ev d qX11_history 97 L (.int x :: st) h = if ¬ x = nI 0 then fk_ev d qX11_history 103 L st h else fk_ev d qX11_history 100 L st h) ∧
  (∀ (d : Nat) (a0 a1 a2 a3 : Value) (x : Int32) (st : List Value) (h : fk_H), fk_ev d qX11_history 100 [a0, a1, a2, a3, .int x] st h = fk_ev d qX11_history 102 [a0, a1, a2, a3, .int x] (.int x :: st) h) ∧
  (∀ (d : Nat) (L : List Value) (x : Int32) (h : fk_H), fk_ev d qX11_history 102 L [.int x] h = some (some (.int x), h)) ∧
  (∀ (d : Nat) (a0 a1 a2 a3 : Value) (x : Int32) (st : List Value) (h : fk_H), fk_ev d qX11_history 103 [a0, a1, a2, a3, .int x] st h = fk_ev d qX11_history 106 [a0, a1, a2, a3, .int (x + nI 1)] st h) ∧
  (∀ (d : Nat) (L st : List Value) (h : fk_H), fk_ev d qX11_history 106 L st h = fk_ev d qX11_history 60 L st h) ∧
  (∀ (d : Nat) (a1 a2 a3 a4 : Value) (x : Nat) (st : List Value) (h : fk_H), fk_ev d qX11_history 109 [.ref x, a1, a2, a3, a4] st h = fk_ev d qX11_history 110 [.ref x, a1, a2, a3, a4] (.ref x :: st) h) ∧
  (∀ (d : Nat) (L st : List Value) (N : Nat) (y : Nat → Nat → Int32) (l : Nat → Nat → Int64), fk_ev d qX11_history 110 L (.ref 1 :: st) (fk_E N y l) = fk_ev d qX11_history 113 L (.ref 30 :: st) (fk_E N y l)) ∧
  (∀ (d : Nat) (L st : List Value) (N : Nat) (y : Nat → Nat → Int32) (l : Nat → Nat → Int64), fk_ev d qX11_history 113 L (.ref 30 :: st) (fk_E N y l) = fk_ev d qX11_history 116 L (.int (y 30 3) :: st) (fk_E N y l)) ∧
  (∀ (d : Nat) (L : List Value) (x : Int32) (h : fk_H), fk_ev d qX11_history 116 L [.int x] h = some (some (.int x), h)) := ⟨fun d a1 a2 a3 a4 x st h => fk_w_aloadn 0 [.ref x, a1, a2, a3, a4] dX11_history_0 rfl,
  fun d L st N y l => fk_g_getC rfl lf_11_58 (by decide) rfl dX11_history_1 fk_at_1,
  fun d a0 a2 a3 a4 x st h => fk_w_iloadn 1 [a0, .int x, a2, a3, a4] dX11_history_4 rfl,
  fun d L x0 N y l c hc => fk_g_call [.int x0] [] rfl lm_11_215 dX11_history_5 rfl ⟨rfl, by decide⟩ (by simp) hc,
  fun d L x st h => fk_r_if_eq dX11_history_8 (by decide),
  fun d a0 a1 a3 a4 x st h => fk_w_iloadn 2 [a0, a1, .int x, a3, a4] dX11_history_11 rfl,
  fun d L st h => fk_w_iconst dX11_history_12 (by decide),
  fun d L x y st h => fk_r_icmp_lt dX11_history_13 (by decide),
  fun d a0 a1 a3 a4 x st h => fk_w_iloadn 2 [a0, a1, .int x, a3, a4] dX11_history_16 rfl,
  fun d L st h => fk_w_bipush dX11_history_17 (by decide),
  fun d L x y st h => fk_r_icmp_gt dX11_history_19 (by decide),
  fun d a0 a1 a3 a4 x st h => fk_w_iloadn 2 [a0, a1, .int x, a3, a4] dX11_history_22 rfl,
  fun d a1 a2 a3 a4 x st h => fk_w_aloadn 0 [.ref x, a1, a2, a3, a4] dX11_history_23 rfl,
  fun d L st N y l => fk_g_getC rfl lf_11_33 (by decide) rfl dX11_history_24 fk_at_1,
  fun d L st N y l => fk_g_getI rfl lf_11_160 (by decide) dX11_history_27 fk_at_26,
  fun d L x y st h => fk_r_icmp_le dX11_history_30 (by decide),
  fun d L st h => fk_w_iconst dX11_history_33 (by decide),
  fun d L x h => fk_r_ret dX11_history_34 (Or.inl rfl),
  fun d a1 a2 a3 a4 x st h => fk_w_aloadn 0 [.ref x, a1, a2, a3, a4] dX11_history_35 rfl,
  fun d L st N y l => fk_g_getC rfl lf_11_51 (by decide) rfl dX11_history_36 fk_at_1,
  fun d a0 a1 a3 a4 x st h => fk_w_iloadn 2 [a0, a1, .int x, a3, a4] dX11_history_39 rfl,
  fun d L x0 N y l  => fk_g_call [.int x0] [] rfl lm_11_347 dX11_history_40 rfl ⟨rfl, by decide⟩ (by simp) fk_at_30,
  fun d a0 a1 a2 a3 a4 x st h => fk_w_istoren 3 5 [] [a0, a1, a2, a3, a4] [a0, a1, a2, .int x, a4] dX11_history_43 rfl rfl (by decide) rfl,
  fun d a1 a2 a3 a4 x st h => fk_w_aloadn 0 [.ref x, a1, a2, a3, a4] dX11_history_44 rfl,
  fun d L st N y l => fk_g_getC rfl lf_11_33 (by decide) rfl dX11_history_45 fk_at_1,
  fun d L  N y l  => fk_g_call [] [] rfl lm_11_167 dX11_history_48 rfl ⟨rfl, by decide⟩ (by simp) fk_at_26,
  fun d a0 a1 a2 a4 x st h => fk_w_iloadn 3 [a0, a1, a2, .int x, a4] dX11_history_51 rfl,
  fun d L x st h => fk_r_if_eq dX11_history_52 (by decide),
  fun d a0 a1 a2 a4 x st h => fk_w_iloadn 3 [a0, a1, a2, .int x, a4] dX11_history_55 rfl,
  fun d L x h => fk_r_ret dX11_history_56 (Or.inl rfl),
  fun d L st h => fk_w_iconst dX11_history_57 (by decide),
  fun d a0 a1 a2 a3 a4 x st h => fk_w_istore 4 5 [] [a0, a1, a2, a3, a4] [a0, a1, a2, a3, .int x] dX11_history_58 rfl rfl (by decide) rfl,
  fun d a1 a2 a3 a4 x st h => fk_w_aloadn 0 [.ref x, a1, a2, a3, a4] dX11_history_62 rfl,
  fun d L st N y l => fk_g_getC rfl lf_11_51 (by decide) rfl dX11_history_63 fk_at_1,
  fun d L st N y l => fk_g_getI rfl lf_11_349 (by decide) dX11_history_66 fk_at_30,
  fun d L x y st h => fk_r_icmp_ge dX11_history_69 (by decide),
  fun d a1 a2 a3 a4 x st h => fk_w_aloadn 0 [.ref x, a1, a2, a3, a4] dX11_history_72 rfl,
  fun d a0 a2 a3 a4 x st h => fk_w_iloadn 1 [a0, .int x, a2, a3, a4] dX11_history_73 rfl,
  fun d a1 a2 a3 a4 x st h => fk_w_aloadn 0 [.ref x, a1, a2, a3, a4] dX11_history_74 rfl,
  fun d L st N y l => fk_g_getC rfl lf_11_51 (by decide) rfl dX11_history_75 fk_at_1,
  fun d L st N y l => fk_g_getC rfl lf_11_352 (by decide) rfl dX11_history_78 fk_at_30,
  fun d a0 a1 a2 a3 x st h => fk_w_iload 4 [a0, a1, a2, a3, .int x] dX11_history_81 rfl,
  fun d L st N y l i hi => fk_g_iald fk_at_31 fk_ln_31 (by decide) dX11_history_83 hi,
  fun d a1 a2 a3 a4 x st h => fk_w_aloadn 0 [.ref x, a1, a2, a3, a4] dX11_history_84 rfl,
  fun d L st N y l => fk_g_getC rfl lf_11_51 (by decide) rfl dX11_history_85 fk_at_1,
  fun d L st N y l => fk_g_getC rfl lf_11_355 (by decide) rfl dX11_history_88 fk_at_30,
  fun d a0 a1 a2 a3 x st h => fk_w_iload 4 [a0, a1, a2, a3, .int x] dX11_history_91 rfl,
  fun d L st N y l i hi => fk_g_iald fk_at_32 fk_ln_32 (by decide) dX11_history_93 hi,
  fun d L x0 x1 x2 N y l  => fk_g_call [.int x0, .int x1, .int x2] [] rfl lm_11_357 dX11_history_94 rfl ⟨rfl, by decide⟩ (by simp) fk_at_1,
  fun d L x st h => fk_r_if_ne dX11_history_97 (by decide),
  fun d a0 a1 a2 a3 x st h => fk_w_iload 4 [a0, a1, a2, a3, .int x] dX11_history_100 rfl,
  fun d L x h => fk_r_ret dX11_history_102 (Or.inl rfl),
  fun d a0 a1 a2 a3 x st h => fk_w_iinc 4 5 (1) [] [a0, a1, a2, a3, .int x] [a0, a1, a2, a3, .int (x + nI 1)] dX11_history_103 rfl rfl rfl (by decide) rfl,
  fun d L st h => fk_r_goto dX11_history_106 (by decide),
  fun d a1 a2 a3 a4 x st h => fk_w_aloadn 0 [.ref x, a1, a2, a3, a4] dX11_history_109 rfl,
  fun d L st N y l => fk_g_getC rfl lf_11_51 (by decide) rfl dX11_history_110 fk_at_1,
  fun d L st N y l => fk_g_getI rfl lf_11_349 (by decide) dX11_history_113 fk_at_30,
  fun d L x h => fk_r_ret dX11_history_116 (Or.inl rfl)⟩
theorem hX11_history_60 : ∀ (d : Nat) (a0 a1 a2 a3 : Value) (x : Int32) (st : List Value) (h : fk_H), fk_ev d qX11_history 60 [a0, a1, a2, a3, .int x] st h = fk_ev d qX11_history 62 [a0, a1, a2, a3, .int x] (.int x :: st) h := fun d a0 a1 a2 a3 x st h => fk_w_iload 4 [a0, a1, a2, a3, .int x] dX11_history_60 rfl
theorem dX11_kin_0 : decode cX11_kin 0 = .ok (.aload_n 0, 1) := by decide +kernel
theorem dX11_kin_1 : decode cX11_kin 1 = .ok (.getfield 58, 3) := by decide +kernel
theorem dX11_kin_4 : decode cX11_kin 4 = .ok (.iload_n 1, 1) := by decide +kernel
theorem dX11_kin_5 : decode cX11_kin 5 = .ok (.invokevirtual 215, 3) := by decide +kernel
theorem dX11_kin_8 : decode cX11_kin 8 = .ok (.ifCond .eq 11, 3) := by decide +kernel
theorem dX11_kin_11 : decode cX11_kin 11 = .ok (.iload_n 3, 1) := by decide +kernel
theorem dX11_kin_12 : decode cX11_kin 12 = .ok (.iconst 3, 1) := by decide +kernel
theorem dX11_kin_13 : decode cX11_kin 13 = .ok (.invokestatic 110, 3) := by decide +kernel
theorem dX11_kin_16 : decode cX11_kin 16 = .ok (.ifCond .ne 5, 3) := by decide +kernel
theorem dX11_kin_19 : decode cX11_kin 19 = .ok (.iconst (-1), 1) := by decide +kernel
theorem dX11_kin_20 : decode cX11_kin 20 = .ok (.ireturn, 1) := by decide +kernel
theorem dX11_kin_21 : decode cX11_kin 21 = .ok (.iload_n 3, 1) := by decide +kernel
theorem dX11_kin_22 : decode cX11_kin 22 = .ok (.iconst 2, 1) := by decide +kernel
theorem dX11_kin_23 : decode cX11_kin 23 = .ok (.if_icmp .ne 28, 3) := by decide +kernel
theorem dX11_kin_26 : decode cX11_kin 26 = .ok (.aload_n 0, 1) := by decide +kernel
theorem dX11_kin_27 : decode cX11_kin 27 = .ok (.getfield 58, 3) := by decide +kernel
theorem dX11_kin_30 : decode cX11_kin 30 = .ok (.iload_n 2, 1) := by decide +kernel
theorem dX11_kin_31 : decode cX11_kin 31 = .ok (.invokevirtual 215, 3) := by decide +kernel
theorem dX11_kin_34 : decode cX11_kin 34 = .ok (.ifCond .eq 15, 3) := by decide +kernel
theorem dX11_kin_37 : decode cX11_kin 37 = .ok (.aload_n 0, 1) := by decide +kernel
theorem dX11_kin_38 : decode cX11_kin 38 = .ok (.getfield 58, 3) := by decide +kernel
theorem dX11_kin_41 : decode cX11_kin 41 = .ok (.iload_n 1, 1) := by decide +kernel
theorem dX11_kin_42 : decode cX11_kin 42 = .ok (.iload_n 2, 1) := by decide +kernel
theorem dX11_kin_43 : decode cX11_kin 43 = .ok (.invokevirtual 361, 3) := by decide +kernel
theorem dX11_kin_46 : decode cX11_kin 46 = .ok (.goto 4, 3) := by decide +kernel
theorem dX11_kin_49 : decode cX11_kin 49 = .ok (.iconst (-1), 1) := by decide +kernel
theorem dX11_kin_50 : decode cX11_kin 50 = .ok (.ireturn, 1) := by decide +kernel
theorem dX11_kin_51 : decode cX11_kin 51 = .ok (.iconst 1, 1) := by decide +kernel
theorem dX11_kin_52 : decode cX11_kin 52 = .ok (.istore 4, 2) := by decide +kernel
theorem dX11_kin_54 : decode cX11_kin 54 = .ok (.iload_n 1, 1) := by decide +kernel
theorem dX11_kin_55 : decode cX11_kin 55 = .ok (.istore 5, 2) := by decide +kernel
theorem dX11_kin_57 : decode cX11_kin 57 = .ok (.iconst 0, 1) := by decide +kernel
theorem dX11_kin_58 : decode cX11_kin 58 = .ok (.istore 6, 2) := by decide +kernel
theorem dX11_kin_60 : decode cX11_kin 60 = .ok (.iload 6, 2) := by decide +kernel
theorem dX11_kin_62 : decode cX11_kin 62 = .ok (.bipush 64, 2) := by decide +kernel
theorem dX11_kin_64 : decode cX11_kin 64 = .ok (.if_icmp .ge 43, 3) := by decide +kernel
theorem dX11_kin_67 : decode cX11_kin 67 = .ok (.aload_n 0, 1) := by decide +kernel
theorem dX11_kin_68 : decode cX11_kin 68 = .ok (.getfield 58, 3) := by decide +kernel
theorem dX11_kin_71 : decode cX11_kin 71 = .ok (.getfield 139, 3) := by decide +kernel
theorem dX11_kin_74 : decode cX11_kin 74 = .ok (.iload 5, 2) := by decide +kernel
theorem dX11_kin_76 : decode cX11_kin 76 = .ok (.aaload, 1) := by decide +kernel
theorem dX11_kin_77 : decode cX11_kin 77 = .ok (.getfield 221, 3) := by decide +kernel
theorem dX11_kin_80 : decode cX11_kin 80 = .ok (.ifCond .lt 27, 3) := by decide +kernel
theorem dX11_kin_83 : decode cX11_kin 83 = .ok (.aload_n 0, 1) := by decide +kernel
theorem dX11_kin_84 : decode cX11_kin 84 = .ok (.getfield 58, 3) := by decide +kernel
theorem dX11_kin_87 : decode cX11_kin 87 = .ok (.getfield 139, 3) := by decide +kernel
theorem dX11_kin_90 : decode cX11_kin 90 = .ok (.iload 5, 2) := by decide +kernel
theorem dX11_kin_92 : decode cX11_kin 92 = .ok (.aaload, 1) := by decide +kernel
theorem dX11_kin_93 : decode cX11_kin 93 = .ok (.getfield 221, 3) := by decide +kernel
theorem dX11_kin_96 : decode cX11_kin 96 = .ok (.istore 5, 2) := by decide +kernel
theorem dX11_kin_98 : decode cX11_kin 98 = .ok (.iinc 4 1, 3) := by decide +kernel
theorem dX11_kin_101 : decode cX11_kin 101 = .ok (.iinc 6 1, 3) := by decide +kernel
theorem dX11_kin_104 : decode cX11_kin 104 = .ok (.goto (-44), 3) := by decide +kernel
theorem dX11_kin_107 : decode cX11_kin 107 = .ok (.iload_n 3, 1) := by decide +kernel
theorem dX11_kin_108 : decode cX11_kin 108 = .ok (.ifCond .ne 8, 3) := by decide +kernel
theorem dX11_kin_111 : decode cX11_kin 111 = .ok (.iload 4, 2) := by decide +kernel
theorem dX11_kin_113 : decode cX11_kin 113 = .ok (.goto 5, 3) := by decide +kernel
theorem dX11_kin_116 : decode cX11_kin 116 = .ok (.iload 5, 2) := by decide +kernel
theorem dX11_kin_118 : decode cX11_kin 118 = .ok (.ireturn, 1) := by decide +kernel
theorem rX11_kin : (∀ (d : Nat) (a1 a2 a3 a4 a5 a6 : Value) (x : Nat) (st : List Value) (h : fk_H), fk_ev d qX11_kin 0 [.ref x, a1, a2, a3, a4, a5, a6] st h = fk_ev d qX11_kin 1 [.ref x, a1, a2, a3, a4, a5, a6] (.ref x :: st) h) ∧
  (∀ (d : Nat) (L st : List Value) (N : Nat) (y : Nat → Nat → Int32) (l : Nat → Nat → Int64), fk_ev d qX11_kin 1 L (.ref 1 :: st) (fk_E N y l) = fk_ev d qX11_kin 4 L (.ref 33 :: st) (fk_E N y l)) ∧
  (∀ (d : Nat) (a0 a2 a3 a4 a5 a6 : Value) (x : Int32) (st : List Value) (h : fk_H), fk_ev d qX11_kin 4 [a0, .int x, a2, a3, a4, a5, a6] st h = fk_ev d qX11_kin 5 [a0, .int x, a2, a3, a4, a5, a6] (.int x :: st) h) ∧
  (∀ (d : Nat) (L : List Value) (x0 : Int32)  (N : Nat) (y : Nat → Nat → Int32) (l : Nat → Nat → Int64) (c : Nat), fk_at c 8 → fk_ev (d + 1) qX11_kin 5 L (.int x0 :: .ref c :: []) (fk_E N y l) = (fk_ev d qX8_hasBeen 0 [.ref c, .int x0] [] (fk_E N y l)).bind fun o => fk_ev (d + 1) qX11_kin 8 L (o.1.toList ++ []) o.2) ∧
  (∀ (d : Nat) (L : List Value) (x : Int32) (st : List Value) (h : fk_H), fk_ev d qX11_kin 8 L (.int x :: st) h = if x = nI 0 then fk_ev d qX11_kin 19 L st h else fk_ev d qX11_kin 11 L st h) ∧
  (∀ (d : Nat) (a0 a1 a2 a4 a5 a6 : Value) (x : Int32) (st : List Value) (h : fk_H), fk_ev d qX11_kin 11 [a0, a1, a2, .int x, a4, a5, a6] st h = fk_ev d qX11_kin 12 [a0, a1, a2, .int x, a4, a5, a6] (.int x :: st) h) ∧
  (∀ (d : Nat) (L st : List Value) (h : fk_H), fk_ev d qX11_kin 12 L st h = fk_ev d qX11_kin 13 L (.int (nI 3) :: st) h) ∧
  (∀ (d : Nat) (L : List Value) (x0 : Int32) (x1 : Int32)  (h : fk_H), fk_ev (d + 1) qX11_kin 13 L (.int x1 :: .int x0 :: []) h = (fk_ev d qX11_within 0 [.int x0, .int x1] [] h).bind fun o => fk_ev (d + 1) qX11_kin 16 L (o.1.toList ++ []) o.2) ∧
  (∀ (d : Nat) (L : List Value) (x : Int32) (st : List Value) (h : fk_H), fk_ev d qX11_kin 16 L (.int x :: st) h = if ¬ x = nI 0 then fk_ev d qX11_kin 21 L st h else fk_ev d qX11_kin 19 L st h) ∧
  (∀ (d : Nat) (L st : List Value) (h : fk_H), fk_ev d qX11_kin 19 L st h = fk_ev d qX11_kin 20 L (.int ((-1 : Int32)) :: st) h) ∧
  (∀ (d : Nat) (L : List Value) (x : Int32) (h : fk_H), fk_ev d qX11_kin 20 L [.int x] h = some (some (.int x), h)) ∧
  (∀ (d : Nat) (a0 a1 a2 a4 a5 a6 : Value) (x : Int32) (st : List Value) (h : fk_H), fk_ev d qX11_kin 21 [a0, a1, a2, .int x, a4, a5, a6] st h = fk_ev d qX11_kin 22 [a0, a1, a2, .int x, a4, a5, a6] (.int x :: st) h) ∧
  (∀ (d : Nat) (L st : List Value) (h : fk_H), fk_ev d qX11_kin 22 L st h = fk_ev d qX11_kin 23 L (.int (nI 2) :: st) h) ∧
  (∀ (d : Nat) (L : List Value) (x y : Int32) (st : List Value) (h : fk_H), fk_ev d qX11_kin 23 L (.int y :: .int x :: st) h = if ¬ x = y then fk_ev d qX11_kin 51 L st h else fk_ev d qX11_kin 26 L st h) ∧
  (∀ (d : Nat) (a1 a2 a3 a4 a5 a6 : Value) (x : Nat) (st : List Value) (h : fk_H), fk_ev d qX11_kin 26 [.ref x, a1, a2, a3, a4, a5, a6] st h = fk_ev d qX11_kin 27 [.ref x, a1, a2, a3, a4, a5, a6] (.ref x :: st) h) ∧
  (∀ (d : Nat) (L st : List Value) (N : Nat) (y : Nat → Nat → Int32) (l : Nat → Nat → Int64), fk_ev d qX11_kin 27 L (.ref 1 :: st) (fk_E N y l) = fk_ev d qX11_kin 30 L (.ref 33 :: st) (fk_E N y l)) ∧
  (∀ (d : Nat) (a0 a1 a3 a4 a5 a6 : Value) (x : Int32) (st : List Value) (h : fk_H), fk_ev d qX11_kin 30 [a0, a1, .int x, a3, a4, a5, a6] st h = fk_ev d qX11_kin 31 [a0, a1, .int x, a3, a4, a5, a6] (.int x :: st) h) ∧
  (∀ (d : Nat) (L : List Value) (x0 : Int32)  (N : Nat) (y : Nat → Nat → Int32) (l : Nat → Nat → Int64) (c : Nat), fk_at c 8 → fk_ev (d + 1) qX11_kin 31 L (.int x0 :: .ref c :: []) (fk_E N y l) = (fk_ev d qX8_hasBeen 0 [.ref c, .int x0] [] (fk_E N y l)).bind fun o => fk_ev (d + 1) qX11_kin 34 L (o.1.toList ++ []) o.2) ∧
  (∀ (d : Nat) (L : List Value) (x : Int32) (st : List Value) (h : fk_H), fk_ev d qX11_kin 34 L (.int x :: st) h = if x = nI 0 then fk_ev d qX11_kin 49 L st h else fk_ev d qX11_kin 37 L st h) ∧
  (∀ (d : Nat) (a1 a2 a3 a4 a5 a6 : Value) (x : Nat) (st : List Value) (h : fk_H), fk_ev d qX11_kin 37 [.ref x, a1, a2, a3, a4, a5, a6] st h = fk_ev d qX11_kin 38 [.ref x, a1, a2, a3, a4, a5, a6] (.ref x :: st) h) ∧
  (∀ (d : Nat) (L st : List Value) (N : Nat) (y : Nat → Nat → Int32) (l : Nat → Nat → Int64), fk_ev d qX11_kin 38 L (.ref 1 :: st) (fk_E N y l) = fk_ev d qX11_kin 41 L (.ref 33 :: st) (fk_E N y l)) ∧
  (∀ (d : Nat) (a0 a2 a3 a4 a5 a6 : Value) (x : Int32) (st : List Value) (h : fk_H), fk_ev d qX11_kin 41 [a0, .int x, a2, a3, a4, a5, a6] st h = fk_ev d qX11_kin 42 [a0, .int x, a2, a3, a4, a5, a6] (.int x :: st) h) ∧
  (∀ (d : Nat) (a0 a1 a3 a4 a5 a6 : Value) (x : Int32) (st : List Value) (h : fk_H), fk_ev d qX11_kin 42 [a0, a1, .int x, a3, a4, a5, a6] st h = fk_ev d qX11_kin 43 [a0, a1, .int x, a3, a4, a5, a6] (.int x :: st) h) ∧
  (∀ (d : Nat) (L : List Value) (x0 : Int32) (x1 : Int32)  (N : Nat) (y : Nat → Nat → Int32) (l : Nat → Nat → Int64) (c : Nat), fk_at c 8 → fk_ev (d + 1) qX11_kin 43 L (.int x1 :: .int x0 :: .ref c :: []) (fk_E N y l) = (fk_ev d qX8_nearestInCommon 0 [.ref c, .int x0, .int x1, .null, .null, .null, .null] [] (fk_E N y l)).bind fun o => fk_ev (d + 1) qX11_kin 46 L (o.1.toList ++ []) o.2) ∧
  (∀ (d : Nat) (L st : List Value) (h : fk_H), fk_ev d qX11_kin 46 L st h = fk_ev d qX11_kin 50 L st h) ∧
  (∀ (d : Nat) (L st : List Value) (h : fk_H), fk_ev d qX11_kin 49 L st h = fk_ev d qX11_kin 50 L (.int ((-1 : Int32)) :: st) h) ∧
  (∀ (d : Nat) (L : List Value) (x : Int32) (h : fk_H), fk_ev d qX11_kin 50 L [.int x] h = some (some (.int x), h)) ∧
  (∀ (d : Nat) (L st : List Value) (h : fk_H), fk_ev d qX11_kin 51 L st h = fk_ev d qX11_kin 52 L (.int (nI 1) :: st) h) ∧
  (∀ (d : Nat) (a0 a1 a2 a3 a4 a5 a6 : Value) (x : Int32) (st : List Value) (h : fk_H), fk_ev d qX11_kin 52 [a0, a1, a2, a3, a4, a5, a6] (.int x :: st) h = fk_ev d qX11_kin 54 [a0, a1, a2, a3, .int x, a5, a6] st h) ∧
  (∀ (d : Nat) (a0 a2 a3 a4 a5 a6 : Value) (x : Int32) (st : List Value) (h : fk_H), fk_ev d qX11_kin 54 [a0, .int x, a2, a3, a4, a5, a6] st h = fk_ev d qX11_kin 55 [a0, .int x, a2, a3, a4, a5, a6] (.int x :: st) h) ∧
  (∀ (d : Nat) (a0 a1 a2 a3 a4 a5 a6 : Value) (x : Int32) (st : List Value) (h : fk_H), fk_ev d qX11_kin 55 [a0, a1, a2, a3, a4, a5, a6] (.int x :: st) h = fk_ev d qX11_kin 57 [a0, a1, a2, a3, a4, .int x, a6] st h) ∧
  (∀ (d : Nat) (L st : List Value) (h : fk_H), fk_ev d qX11_kin 57 L st h = fk_ev d qX11_kin 58 L (.int (nI 0) :: st) h) ∧
  (∀ (d : Nat) (a0 a1 a2 a3 a4 a5 a6 : Value) (x : Int32) (st : List Value) (h : fk_H), fk_ev d qX11_kin 58 [a0, a1, a2, a3, a4, a5, a6] (.int x :: st) h = fk_ev d qX11_kin 60 [a0, a1, a2, a3, a4, a5, .int x] st h) ∧
  (∀ (d : Nat) (L st : List Value) (h : fk_H), fk_ev d qX11_kin 62 L st h = fk_ev d qX11_kin 64 L (.int (nI 64) :: st) h) ∧
  (∀ (d : Nat) (L : List Value) (x y : Int32) (st : List Value) (h : fk_H), fk_ev d qX11_kin 64 L (.int y :: .int x :: st) h = if y ≤ x then fk_ev d qX11_kin 107 L st h else fk_ev d qX11_kin 67 L st h) ∧
  (∀ (d : Nat) (a1 a2 a3 a4 a5 a6 : Value) (x : Nat) (st : List Value) (h : fk_H), fk_ev d qX11_kin 67 [.ref x, a1, a2, a3, a4, a5, a6] st h = fk_ev d qX11_kin 68 [.ref x, a1, a2, a3, a4, a5, a6] (.ref x :: st) h) ∧
  (∀ (d : Nat) (L st : List Value) (N : Nat) (y : Nat → Nat → Int32) (l : Nat → Nat → Int64), fk_ev d qX11_kin 68 L (.ref 1 :: st) (fk_E N y l) = fk_ev d qX11_kin 71 L (.ref 33 :: st) (fk_E N y l)) ∧
  (∀ (d : Nat) (L st : List Value) (N : Nat) (y : Nat → Nat → Int32) (l : Nat → Nat → Int64) (c : Nat), fk_at c 8 → fk_ev d qX11_kin 71 L (.ref c :: st) (fk_E N y l) = fk_ev d qX11_kin 74 L (.ref (fk_cr c 0) :: st) (fk_E N y l)) ∧
  (∀ (d : Nat) (a0 a1 a2 a3 a4 a6 : Value) (x : Int32) (st : List Value) (h : fk_H), fk_ev d qX11_kin 74 [a0, a1, a2, a3, a4, .int x, a6] st h = fk_ev d qX11_kin 76 [a0, a1, a2, a3, a4, .int x, a6] (.int x :: st) h) ∧
  (∀ (d : Nat) (L st : List Value) (N : Nat) (y : Nat → Nat → Int32) (l : Nat → Nat → Int64) (i : Nat), i < 64 → fk_ev d qX11_kin 76 L (.int (nI i) :: .ref 34 :: st) (fk_E N y l) = fk_ev d qX11_kin 77 L (.ref (34 + 2 + i) :: st) (fk_E N y l)) ∧
  (∀ (d : Nat) (L st : List Value) (N : Nat) (y : Nat → Nat → Int32) (l : Nat → Nat → Int64) (c : Nat), fk_at c 0 → fk_ev d qX11_kin 77 L (.ref c :: st) (fk_E N y l) = fk_ev d qX11_kin 80 L (.int (y c 2) :: st) (fk_E N y l)) ∧
  (∀ (d : Nat) (L : List Value) (x : Int32) (st : List Value) (h : fk_H), fk_ev d qX11_kin 80 L (.int x :: st) h = if x < nI 0 then fk_ev d qX11_kin 107 L st h else fk_ev d qX11_kin 83 L st h) ∧
  (∀ (d : Nat) (a1 a2 a3 a4 a5 a6 : Value) (x : Nat) (st : List Value) (h : fk_H), fk_ev d qX11_kin 83 [.ref x, a1, a2, a3, a4, a5, a6] st h = fk_ev d qX11_kin 84 [.ref x, a1, a2, a3, a4, a5, a6] (.ref x :: st) h) ∧
  (∀ (d : Nat) (L st : List Value) (N : Nat) (y : Nat → Nat → Int32) (l : Nat → Nat → Int64), fk_ev d qX11_kin 84 L (.ref 1 :: st) (fk_E N y l) = fk_ev d qX11_kin 87 L (.ref 33 :: st) (fk_E N y l)) ∧
  (∀ (d : Nat) (L st : List Value) (N : Nat) (y : Nat → Nat → Int32) (l : Nat → Nat → Int64) (c : Nat), fk_at c 8 → fk_ev d qX11_kin 87 L (.ref c :: st) (fk_E N y l) = fk_ev d qX11_kin 90 L (.ref (fk_cr c 0) :: st) (fk_E N y l)) ∧
  (∀ (d : Nat) (a0 a1 a2 a3 a4 a6 : Value) (x : Int32) (st : List Value) (h : fk_H), fk_ev d qX11_kin 90 [a0, a1, a2, a3, a4, .int x, a6] st h = fk_ev d qX11_kin 92 [a0, a1, a2, a3, a4, .int x, a6] (.int x :: st) h) ∧
  (∀ (d : Nat) (L st : List Value) (N : Nat) (y : Nat → Nat → Int32) (l : Nat → Nat → Int64) (i : Nat), i < 64 → fk_ev d qX11_kin 92 L (.int (nI i) :: .ref 34 :: st) (fk_E N y l) = fk_ev d qX11_kin 93 L (.ref (34 + 2 + i) :: st) (fk_E N y l)) ∧
  (∀ (d : Nat) (L st : List Value) (N : Nat) (y : Nat → Nat → Int32) (l : Nat → Nat → Int64) (c : Nat), fk_at c 0 → fk_ev d qX11_kin 93 L (.ref c :: st) (fk_E N y l) = fk_ev d qX11_kin 96 L (.int (y c 2) :: st) (fk_E N y l)) ∧
  (∀ (d : Nat) (a0 a1 a2 a3 a4 a5 a6 : Value) (x : Int32) (st : List Value) (h : fk_H), fk_ev d qX11_kin 96 [a0, a1, a2, a3, a4, a5, a6] (.int x :: st) h = fk_ev d qX11_kin 98 [a0, a1, a2, a3, a4, .int x, a6] st h) ∧
  (∀ (d : Nat) (a0 a1 a2 a3 a5 a6 : Value) (x : Int32) (st : List Value) (h : fk_H), fk_ev d qX11_kin 98 [a0, a1, a2, a3, .int x, a5, a6] st h = fk_ev d qX11_kin 101 [a0, a1, a2, a3, .int (x + nI 1), a5, a6] st h) ∧
  (∀ (d : Nat) (a0 a1 a2 a3 a4 a5 : Value) (x : Int32) (st : List Value) (h : fk_H), fk_ev d qX11_kin 101 [a0, a1, a2, a3, a4, a5, .int x] st h = fk_ev d qX11_kin 104 [a0, a1, a2, a3, a4, a5, .int (x + nI 1)] st h) ∧
  (∀ (d : Nat) (L st : List Value) (h : fk_H), fk_ev d qX11_kin 104 L st h = fk_ev d qX11_kin 60 L st h) ∧
  (∀ (d : Nat) (a0 a1 a2 a4 a5 a6 : Value) (x : Int32) (st : List Value) (h : fk_H), fk_ev d qX11_kin 107 [a0, a1, a2, .int x, a4, a5, a6] st h = fk_ev d qX11_kin 108 [a0, a1, a2, .int x, a4, a5, a6] (.int x :: st) h) ∧
  (∀ (d : Nat) (L : List Value) (x : Int32) (st : List Value) (h : fk_H), fk_ev d qX11_kin 108 L (.int x :: st) h = if ¬ x = nI 0 then fk_ev d qX11_kin 116 L st h else fk_ev d qX11_kin 111 L st h) ∧
  (∀ (d : Nat) (a0 a1 a2 a3 a5 a6 : Value) (x : Int32) (st : List Value) (h : fk_H), fk_ev d qX11_kin 111 [a0, a1, a2, a3, .int x, a5, a6] st h = fk_ev d qX11_kin 113 [a0, a1, a2, a3, .int x, a5, a6] (.int x :: st) h) ∧
  (∀ (d : Nat) (L st : List Value) (h : fk_H), fk_ev d qX11_kin 113 L st h = fk_ev d qX11_kin 118 L st h) ∧
  (∀ (d : Nat) (a0 a1 a2 a3 a4 a6 : Value) (x : Int32) (st : List Value) (h : fk_H), fk_ev d qX11_kin 116 [a0, a1, a2, a3, a4, .int x, a6] st h = fk_ev d qX11_kin 118 [a0, a1, a2, a3, a4, .int x, a6] (.int x :: st) h) ∧
  (∀ (d : Nat) (L : List Value) (x : Int32) (h : fk_H), fk_ev d qX11_kin 118 L [.int x] h = some (some (.int x), h)) := ⟨fun d a1 a2 a3 a4 a5 a6 x st h => fk_w_aloadn 0 [.ref x, a1, a2, a3, a4, a5, a6] dX11_kin_0 rfl,
  fun d L st N y l => fk_g_getC rfl lf_11_58 (by decide) rfl dX11_kin_1 fk_at_1,
  fun d a0 a2 a3 a4 a5 a6 x st h => fk_w_iloadn 1 [a0, .int x, a2, a3, a4, a5, a6] dX11_kin_4 rfl,
  fun d L x0 N y l c hc => fk_g_call [.int x0] [] rfl lm_11_215 dX11_kin_5 rfl ⟨rfl, by decide⟩ (by simp) hc,
  fun d L x st h => fk_r_if_eq dX11_kin_8 (by decide),
  fun d a0 a1 a2 a4 a5 a6 x st h => fk_w_iloadn 3 [a0, a1, a2, .int x, a4, a5, a6] dX11_kin_11 rfl,
  fun d L st h => fk_w_iconst dX11_kin_12 (by decide),
  fun d L x0 x1 h => fk_g_calls [.int x0, .int x1] [] rfl lm_11_110 dX11_kin_13 rfl ⟨rfl, by decide⟩ (by simp),
  fun d L x st h => fk_r_if_ne dX11_kin_16 (by decide),
  fun d L st h => fk_w_iconst dX11_kin_19 (by decide),
  fun d L x h => fk_r_ret dX11_kin_20 (Or.inl rfl),
  fun d a0 a1 a2 a4 a5 a6 x st h => fk_w_iloadn 3 [a0, a1, a2, .int x, a4, a5, a6] dX11_kin_21 rfl,
  fun d L st h => fk_w_iconst dX11_kin_22 (by decide),
  fun d L x y st h => fk_r_icmp_ne dX11_kin_23 (by decide),
  fun d a1 a2 a3 a4 a5 a6 x st h => fk_w_aloadn 0 [.ref x, a1, a2, a3, a4, a5, a6] dX11_kin_26 rfl,
  fun d L st N y l => fk_g_getC rfl lf_11_58 (by decide) rfl dX11_kin_27 fk_at_1,
  fun d a0 a1 a3 a4 a5 a6 x st h => fk_w_iloadn 2 [a0, a1, .int x, a3, a4, a5, a6] dX11_kin_30 rfl,
  fun d L x0 N y l c hc => fk_g_call [.int x0] [] rfl lm_11_215 dX11_kin_31 rfl ⟨rfl, by decide⟩ (by simp) hc,
  fun d L x st h => fk_r_if_eq dX11_kin_34 (by decide),
  fun d a1 a2 a3 a4 a5 a6 x st h => fk_w_aloadn 0 [.ref x, a1, a2, a3, a4, a5, a6] dX11_kin_37 rfl,
  fun d L st N y l => fk_g_getC rfl lf_11_58 (by decide) rfl dX11_kin_38 fk_at_1,
  fun d a0 a2 a3 a4 a5 a6 x st h => fk_w_iloadn 1 [a0, .int x, a2, a3, a4, a5, a6] dX11_kin_41 rfl,
  fun d a0 a1 a3 a4 a5 a6 x st h => fk_w_iloadn 2 [a0, a1, .int x, a3, a4, a5, a6] dX11_kin_42 rfl,
  fun d L x0 x1 N y l c hc => fk_g_call [.int x0, .int x1] [] rfl lm_11_361 dX11_kin_43 rfl ⟨rfl, by decide⟩ (by simp) hc,
  fun d L st h => fk_r_goto dX11_kin_46 (by decide),
  fun d L st h => fk_w_iconst dX11_kin_49 (by decide),
  fun d L x h => fk_r_ret dX11_kin_50 (Or.inl rfl),
  fun d L st h => fk_w_iconst dX11_kin_51 (by decide),
  fun d a0 a1 a2 a3 a4 a5 a6 x st h => fk_w_istore 4 7 [] [a0, a1, a2, a3, a4, a5, a6] [a0, a1, a2, a3, .int x, a5, a6] dX11_kin_52 rfl rfl (by decide) rfl,
  fun d a0 a2 a3 a4 a5 a6 x st h => fk_w_iloadn 1 [a0, .int x, a2, a3, a4, a5, a6] dX11_kin_54 rfl,
  fun d a0 a1 a2 a3 a4 a5 a6 x st h => fk_w_istore 5 7 [] [a0, a1, a2, a3, a4, a5, a6] [a0, a1, a2, a3, a4, .int x, a6] dX11_kin_55 rfl rfl (by decide) rfl,
  fun d L st h => fk_w_iconst dX11_kin_57 (by decide),
  fun d a0 a1 a2 a3 a4 a5 a6 x st h => fk_w_istore 6 7 [] [a0, a1, a2, a3, a4, a5, a6] [a0, a1, a2, a3, a4, a5, .int x] dX11_kin_58 rfl rfl (by decide) rfl,
  fun d L st h => fk_w_bipush dX11_kin_62 (by decide),
  fun d L x y st h => fk_r_icmp_ge dX11_kin_64 (by decide),
  fun d a1 a2 a3 a4 a5 a6 x st h => fk_w_aloadn 0 [.ref x, a1, a2, a3, a4, a5, a6] dX11_kin_67 rfl,
  fun d L st N y l => fk_g_getC rfl lf_11_58 (by decide) rfl dX11_kin_68 fk_at_1,
  fun d L st N y l c hc => fk_g_getC rfl lf_11_139 (by decide) rfl dX11_kin_71 hc,
  fun d a0 a1 a2 a3 a4 a6 x st h => fk_w_iload 5 [a0, a1, a2, a3, a4, .int x, a6] dX11_kin_74 rfl,
  fun d L st N y l i hi => fk_h_aald dX11_kin_76 fk_at_34 hi (by decide),
  fun d L st N y l c hc => fk_g_getI rfl lf_11_221 (by decide) dX11_kin_77 hc,
  fun d L x st h => fk_r_if_lt dX11_kin_80 (by decide),
  fun d a1 a2 a3 a4 a5 a6 x st h => fk_w_aloadn 0 [.ref x, a1, a2, a3, a4, a5, a6] dX11_kin_83 rfl,
  fun d L st N y l => fk_g_getC rfl lf_11_58 (by decide) rfl dX11_kin_84 fk_at_1,
  fun d L st N y l c hc => fk_g_getC rfl lf_11_139 (by decide) rfl dX11_kin_87 hc,
  fun d a0 a1 a2 a3 a4 a6 x st h => fk_w_iload 5 [a0, a1, a2, a3, a4, .int x, a6] dX11_kin_90 rfl,
  fun d L st N y l i hi => fk_h_aald dX11_kin_92 fk_at_34 hi (by decide),
  fun d L st N y l c hc => fk_g_getI rfl lf_11_221 (by decide) dX11_kin_93 hc,
  fun d a0 a1 a2 a3 a4 a5 a6 x st h => fk_w_istore 5 7 [] [a0, a1, a2, a3, a4, a5, a6] [a0, a1, a2, a3, a4, .int x, a6] dX11_kin_96 rfl rfl (by decide) rfl,
  fun d a0 a1 a2 a3 a5 a6 x st h => fk_w_iinc 4 7 (1) [] [a0, a1, a2, a3, .int x, a5, a6] [a0, a1, a2, a3, .int (x + nI 1), a5, a6] dX11_kin_98 rfl rfl rfl (by decide) rfl,
  fun d a0 a1 a2 a3 a4 a5 x st h => fk_w_iinc 6 7 (1) [] [a0, a1, a2, a3, a4, a5, .int x] [a0, a1, a2, a3, a4, a5, .int (x + nI 1)] dX11_kin_101 rfl rfl rfl (by decide) rfl,
  fun d L st h => fk_r_goto dX11_kin_104 (by decide),
  fun d a0 a1 a2 a4 a5 a6 x st h => fk_w_iloadn 3 [a0, a1, a2, .int x, a4, a5, a6] dX11_kin_107 rfl,
  fun d L x st h => fk_r_if_ne dX11_kin_108 (by decide),
  fun d a0 a1 a2 a3 a5 a6 x st h => fk_w_iload 4 [a0, a1, a2, a3, .int x, a5, a6] dX11_kin_111 rfl,
  fun d L st h => fk_r_goto dX11_kin_113 (by decide),
  fun d a0 a1 a2 a3 a4 a6 x st h => fk_w_iload 5 [a0, a1, a2, a3, a4, .int x, a6] dX11_kin_116 rfl,
  fun d L x h => fk_r_ret dX11_kin_118 (Or.inl rfl)⟩
theorem hX11_kin_60 : ∀ (d : Nat) (a0 a1 a2 a3 a4 a5 : Value) (x : Int32) (st : List Value) (h : fk_H), fk_ev d qX11_kin 60 [a0, a1, a2, a3, a4, a5, .int x] st h = fk_ev d qX11_kin 62 [a0, a1, a2, a3, a4, a5, .int x] (.int x :: st) h := fun d a0 a1 a2 a3 a4 a5 x st h => fk_w_iload 6 [a0, a1, a2, a3, a4, a5, .int x] dX11_kin_60 rfl
theorem dX11_bread_0 : decode cX11_bread 0 = .ok (.aload_n 0, 1) := by decide +kernel
theorem dX11_bread_1 : decode cX11_bread 1 = .ok (.getfield 58, 3) := by decide +kernel
theorem dX11_bread_4 : decode cX11_bread 4 = .ok (.iload_n 1, 1) := by decide +kernel
theorem dX11_bread_5 : decode cX11_bread 5 = .ok (.invokevirtual 135, 3) := by decide +kernel
theorem dX11_bread_8 : decode cX11_bread 8 = .ok (.ifCond .eq 15, 3) := by decide +kernel
theorem dX11_bread_11 : decode cX11_bread 11 = .ok (.iload_n 2, 1) := by decide +kernel
theorem dX11_bread_12 : decode cX11_bread 12 = .ok (.iconst 1, 1) := by decide +kernel
theorem dX11_bread_13 : decode cX11_bread 13 = .ok (.if_icmp .lt 10, 3) := by decide +kernel
theorem dX11_bread_16 : decode cX11_bread 16 = .ok (.iload_n 2, 1) := by decide +kernel
theorem dX11_bread_17 : decode cX11_bread 17 = .ok (.sipush 999, 3) := by decide +kernel
theorem dX11_bread_20 : decode cX11_bread 20 = .ok (.if_icmp .le 5, 3) := by decide +kernel
theorem dX11_bread_23 : decode cX11_bread 23 = .ok (.iconst (-1), 1) := by decide +kernel
theorem dX11_bread_24 : decode cX11_bread 24 = .ok (.ireturn, 1) := by decide +kernel
theorem dX11_bread_25 : decode cX11_bread 25 = .ok (.aload_n 0, 1) := by decide +kernel
theorem dX11_bread_26 : decode cX11_bread 26 = .ok (.getfield 58, 3) := by decide +kernel
theorem dX11_bread_29 : decode cX11_bread 29 = .ok (.aload_n 0, 1) := by decide +kernel
theorem dX11_bread_30 : decode cX11_bread 30 = .ok (.getfield 58, 3) := by decide +kernel
theorem dX11_bread_33 : decode cX11_bread 33 = .ok (.getfield 139, 3) := by decide +kernel
theorem dX11_bread_36 : decode cX11_bread 36 = .ok (.iload_n 1, 1) := by decide +kernel
theorem dX11_bread_37 : decode cX11_bread 37 = .ok (.aaload, 1) := by decide +kernel
theorem dX11_bread_38 : decode cX11_bread 38 = .ok (.iload_n 2, 1) := by decide +kernel
theorem dX11_bread_39 : decode cX11_bread 39 = .ok (.invokevirtual 364, 3) := by decide +kernel
theorem dX11_bread_42 : decode cX11_bread 42 = .ok (.ireturn, 1) := by decide +kernel
theorem rX11_bread : (∀ (d : Nat) (a1 a2 : Value) (x : Nat) (st : List Value) (h : fk_H), fk_ev d qX11_bread 0 [.ref x, a1, a2] st h = fk_ev d qX11_bread 1 [.ref x, a1, a2] (.ref x :: st) h) ∧
  (∀ (d : Nat) (L st : List Value) (N : Nat) (y : Nat → Nat → Int32) (l : Nat → Nat → Int64), fk_ev d qX11_bread 1 L (.ref 1 :: st) (fk_E N y l) = fk_ev d qX11_bread 4 L (.ref 33 :: st) (fk_E N y l)) ∧
  (∀ (d : Nat) (a0 a2 : Value) (x : Int32) (st : List Value) (h : fk_H), fk_ev d qX11_bread 4 [a0, .int x, a2] st h = fk_ev d qX11_bread 5 [a0, .int x, a2] (.int x :: st) h) ∧
  (∀ (d : Nat) (L : List Value) (x0 : Int32)  (N : Nat) (y : Nat → Nat → Int32) (l : Nat → Nat → Int64) (c : Nat), fk_at c 8 → fk_ev (d + 1) qX11_bread 5 L (.int x0 :: .ref c :: []) (fk_E N y l) = (fk_ev d qX8_isLiving 0 [.ref c, .int x0] [] (fk_E N y l)).bind fun o => fk_ev (d + 1) qX11_bread 8 L (o.1.toList ++ []) o.2) ∧
  (∀ (d : Nat) (L : List Value) (x : Int32) (st : List Value) (h : fk_H), fk_ev d qX11_bread 8 L (.int x :: st) h = if x = nI 0 then fk_ev d qX11_bread 23 L st h else fk_ev d qX11_bread 11 L st h) ∧
  (∀ (d : Nat) (a0 a1 : Value) (x : Int32) (st : List Value) (h : fk_H), fk_ev d qX11_bread 11 [a0, a1, .int x] st h = fk_ev d qX11_bread 12 [a0, a1, .int x] (.int x :: st) h) ∧
  (∀ (d : Nat) (L st : List Value) (h : fk_H), fk_ev d qX11_bread 12 L st h = fk_ev d qX11_bread 13 L (.int (nI 1) :: st) h) ∧
  (∀ (d : Nat) (L : List Value) (x y : Int32) (st : List Value) (h : fk_H), fk_ev d qX11_bread 13 L (.int y :: .int x :: st) h = if x < y then fk_ev d qX11_bread 23 L st h else fk_ev d qX11_bread 16 L st h) ∧
  (∀ (d : Nat) (a0 a1 : Value) (x : Int32) (st : List Value) (h : fk_H), fk_ev d qX11_bread 16 [a0, a1, .int x] st h = fk_ev d qX11_bread 17 [a0, a1, .int x] (.int x :: st) h) ∧
  (∀ (d : Nat) (L st : List Value) (h : fk_H), fk_ev d qX11_bread 17 L st h = fk_ev d qX11_bread 20 L (.int (nI 999) :: st) h) ∧
  (∀ (d : Nat) (L : List Value) (x y : Int32) (st : List Value) (h : fk_H), fk_ev d qX11_bread 20 L (.int y :: .int x :: st) h = if x ≤ y then fk_ev d qX11_bread 25 L st h else fk_ev d qX11_bread 23 L st h) ∧
  (∀ (d : Nat) (L st : List Value) (h : fk_H), fk_ev d qX11_bread 23 L st h = fk_ev d qX11_bread 24 L (.int ((-1 : Int32)) :: st) h) ∧
  (∀ (d : Nat) (L : List Value) (x : Int32) (h : fk_H), fk_ev d qX11_bread 24 L [.int x] h = some (some (.int x), h)) ∧
  (∀ (d : Nat) (a1 a2 : Value) (x : Nat) (st : List Value) (h : fk_H), fk_ev d qX11_bread 25 [.ref x, a1, a2] st h = fk_ev d qX11_bread 26 [.ref x, a1, a2] (.ref x :: st) h) ∧
  (∀ (d : Nat) (L st : List Value) (N : Nat) (y : Nat → Nat → Int32) (l : Nat → Nat → Int64), fk_ev d qX11_bread 26 L (.ref 1 :: st) (fk_E N y l) = fk_ev d qX11_bread 29 L (.ref 33 :: st) (fk_E N y l)) ∧
  (∀ (d : Nat) (a1 a2 : Value) (x : Nat) (st : List Value) (h : fk_H), fk_ev d qX11_bread 29 [.ref x, a1, a2] st h = fk_ev d qX11_bread 30 [.ref x, a1, a2] (.ref x :: st) h) ∧
  (∀ (d : Nat) (L st : List Value) (N : Nat) (y : Nat → Nat → Int32) (l : Nat → Nat → Int64), fk_ev d qX11_bread 30 L (.ref 1 :: st) (fk_E N y l) = fk_ev d qX11_bread 33 L (.ref 33 :: st) (fk_E N y l)) ∧
  (∀ (d : Nat) (L st : List Value) (N : Nat) (y : Nat → Nat → Int32) (l : Nat → Nat → Int64) (c : Nat), fk_at c 8 → fk_ev d qX11_bread 33 L (.ref c :: st) (fk_E N y l) = fk_ev d qX11_bread 36 L (.ref (fk_cr c 0) :: st) (fk_E N y l)) ∧
  (∀ (d : Nat) (a0 a2 : Value) (x : Int32) (st : List Value) (h : fk_H), fk_ev d qX11_bread 36 [a0, .int x, a2] st h = fk_ev d qX11_bread 37 [a0, .int x, a2] (.int x :: st) h) ∧
  (∀ (d : Nat) (L st : List Value) (N : Nat) (y : Nat → Nat → Int32) (l : Nat → Nat → Int64) (i : Nat), i < 64 → fk_ev d qX11_bread 37 L (.int (nI i) :: .ref 34 :: st) (fk_E N y l) = fk_ev d qX11_bread 38 L (.ref (34 + 2 + i) :: st) (fk_E N y l)) ∧
  (∀ (d : Nat) (a0 a1 : Value) (x : Int32) (st : List Value) (h : fk_H), fk_ev d qX11_bread 38 [a0, a1, .int x] st h = fk_ev d qX11_bread 39 [a0, a1, .int x] (.int x :: st) h) ∧
  (∀ (d : Nat) (L : List Value) (x0 : Nat) (x1 : Int32)  (N : Nat) (y : Nat → Nat → Int32) (l : Nat → Nat → Int64) (c : Nat), fk_at c 8 → fk_ev (d + 1) qX11_bread 39 L (.int x1 :: .ref x0 :: .ref c :: []) (fk_E N y l) = (fk_ev d qX8_shareOf 0 [.ref c, .ref x0, .int x1, .null, .null, .null, .null, .null, .null, .null] [] (fk_E N y l)).bind fun o => fk_ev (d + 1) qX11_bread 42 L (o.1.toList ++ []) o.2) ∧
  (∀ (d : Nat) (L : List Value) (x : Int32) (h : fk_H), fk_ev d qX11_bread 42 L [.int x] h = some (some (.int x), h)) := ⟨fun d a1 a2 x st h => fk_w_aloadn 0 [.ref x, a1, a2] dX11_bread_0 rfl,
  fun d L st N y l => fk_g_getC rfl lf_11_58 (by decide) rfl dX11_bread_1 fk_at_1,
  fun d a0 a2 x st h => fk_w_iloadn 1 [a0, .int x, a2] dX11_bread_4 rfl,
  fun d L x0 N y l c hc => fk_g_call [.int x0] [] rfl lm_11_135 dX11_bread_5 rfl ⟨rfl, by decide⟩ (by simp) hc,
  fun d L x st h => fk_r_if_eq dX11_bread_8 (by decide),
  fun d a0 a1 x st h => fk_w_iloadn 2 [a0, a1, .int x] dX11_bread_11 rfl,
  fun d L st h => fk_w_iconst dX11_bread_12 (by decide),
  fun d L x y st h => fk_r_icmp_lt dX11_bread_13 (by decide),
  fun d a0 a1 x st h => fk_w_iloadn 2 [a0, a1, .int x] dX11_bread_16 rfl,
  fun d L st h => fk_w_sipush dX11_bread_17 (by decide),
  fun d L x y st h => fk_r_icmp_le dX11_bread_20 (by decide),
  fun d L st h => fk_w_iconst dX11_bread_23 (by decide),
  fun d L x h => fk_r_ret dX11_bread_24 (Or.inl rfl),
  fun d a1 a2 x st h => fk_w_aloadn 0 [.ref x, a1, a2] dX11_bread_25 rfl,
  fun d L st N y l => fk_g_getC rfl lf_11_58 (by decide) rfl dX11_bread_26 fk_at_1,
  fun d a1 a2 x st h => fk_w_aloadn 0 [.ref x, a1, a2] dX11_bread_29 rfl,
  fun d L st N y l => fk_g_getC rfl lf_11_58 (by decide) rfl dX11_bread_30 fk_at_1,
  fun d L st N y l c hc => fk_g_getC rfl lf_11_139 (by decide) rfl dX11_bread_33 hc,
  fun d a0 a2 x st h => fk_w_iloadn 1 [a0, .int x, a2] dX11_bread_36 rfl,
  fun d L st N y l i hi => fk_h_aald dX11_bread_37 fk_at_34 hi (by decide),
  fun d a0 a1 x st h => fk_w_iloadn 2 [a0, a1, .int x] dX11_bread_38 rfl,
  fun d L x0 x1 N y l c hc => fk_g_call [.ref x0, .int x1] [] rfl lm_11_364 dX11_bread_39 rfl ⟨rfl, by decide⟩ (by simp) hc,
  fun d L x h => fk_r_ret dX11_bread_42 (Or.inl rfl)⟩
theorem dX11_vote_0 : decode cX11_vote 0 = .ok (.iload_n 1, 1) := by decide +kernel
theorem dX11_vote_1 : decode cX11_vote 1 = .ok (.iconst 4, 1) := by decide +kernel
theorem dX11_vote_2 : decode cX11_vote 2 = .ok (.invokestatic 110, 3) := by decide +kernel
theorem dX11_vote_5 : decode cX11_vote 5 = .ok (.ifCond .eq 20, 3) := by decide +kernel
theorem dX11_vote_8 : decode cX11_vote 8 = .ok (.iload_n 2, 1) := by decide +kernel
theorem dX11_vote_9 : decode cX11_vote 9 = .ok (.bipush 16, 2) := by decide +kernel
theorem dX11_vote_11 : decode cX11_vote 11 = .ok (.invokestatic 110, 3) := by decide +kernel
theorem dX11_vote_14 : decode cX11_vote 14 = .ok (.ifCond .eq 11, 3) := by decide +kernel
theorem dX11_vote_17 : decode cX11_vote 17 = .ok (.iload_n 3, 1) := by decide +kernel
theorem dX11_vote_18 : decode cX11_vote 18 = .ok (.iconst 3, 1) := by decide +kernel
theorem dX11_vote_19 : decode cX11_vote 19 = .ok (.invokestatic 110, 3) := by decide +kernel
theorem dX11_vote_22 : decode cX11_vote 22 = .ok (.ifCond .ne 5, 3) := by decide +kernel
theorem dX11_vote_25 : decode cX11_vote 25 = .ok (.iconst (-1), 1) := by decide +kernel
theorem dX11_vote_26 : decode cX11_vote 26 = .ok (.ireturn, 1) := by decide +kernel
theorem dX11_vote_27 : decode cX11_vote 27 = .ok (.aload_n 0, 1) := by decide +kernel
theorem dX11_vote_28 : decode cX11_vote 28 = .ok (.getfield 58, 3) := by decide +kernel
theorem dX11_vote_31 : decode cX11_vote 31 = .ok (.iload_n 1, 1) := by decide +kernel
theorem dX11_vote_32 : decode cX11_vote 32 = .ok (.iload_n 2, 1) := by decide +kernel
theorem dX11_vote_33 : decode cX11_vote 33 = .ok (.iconst 1, 1) := by decide +kernel
theorem dX11_vote_34 : decode cX11_vote 34 = .ok (.invokevirtual 367, 3) := by decide +kernel
theorem dX11_vote_37 : decode cX11_vote 37 = .ok (.istore 4, 2) := by decide +kernel
theorem dX11_vote_39 : decode cX11_vote 39 = .ok (.aload_n 0, 1) := by decide +kernel
theorem dX11_vote_40 : decode cX11_vote 40 = .ok (.getfield 58, 3) := by decide +kernel
theorem dX11_vote_43 : decode cX11_vote 43 = .ok (.iload_n 1, 1) := by decide +kernel
theorem dX11_vote_44 : decode cX11_vote 44 = .ok (.iload_n 2, 1) := by decide +kernel
theorem dX11_vote_45 : decode cX11_vote 45 = .ok (.iconst 0, 1) := by decide +kernel
theorem dX11_vote_46 : decode cX11_vote 46 = .ok (.invokevirtual 367, 3) := by decide +kernel
theorem dX11_vote_49 : decode cX11_vote 49 = .ok (.istore 5, 2) := by decide +kernel
theorem dX11_vote_51 : decode cX11_vote 51 = .ok (.iload_n 3, 1) := by decide +kernel
theorem dX11_vote_52 : decode cX11_vote 52 = .ok (.ifCond .ne 6, 3) := by decide +kernel
theorem dX11_vote_55 : decode cX11_vote 55 = .ok (.iload 4, 2) := by decide +kernel
theorem dX11_vote_57 : decode cX11_vote 57 = .ok (.ireturn, 1) := by decide +kernel
theorem dX11_vote_58 : decode cX11_vote 58 = .ok (.iload_n 3, 1) := by decide +kernel
theorem dX11_vote_59 : decode cX11_vote 59 = .ok (.iconst 1, 1) := by decide +kernel
theorem dX11_vote_60 : decode cX11_vote 60 = .ok (.if_icmp .ne 6, 3) := by decide +kernel
theorem dX11_vote_63 : decode cX11_vote 63 = .ok (.iload 5, 2) := by decide +kernel
theorem dX11_vote_65 : decode cX11_vote 65 = .ok (.ireturn, 1) := by decide +kernel
theorem dX11_vote_66 : decode cX11_vote 66 = .ok (.iload 4, 2) := by decide +kernel
theorem dX11_vote_68 : decode cX11_vote 68 = .ok (.iload 5, 2) := by decide +kernel
theorem dX11_vote_70 : decode cX11_vote 70 = .ok (.if_icmp .ne 6, 3) := by decide +kernel
theorem dX11_vote_73 : decode cX11_vote 73 = .ok (.bipush (-2), 2) := by decide +kernel
theorem dX11_vote_75 : decode cX11_vote 75 = .ok (.ireturn, 1) := by decide +kernel
theorem dX11_vote_76 : decode cX11_vote 76 = .ok (.iload 4, 2) := by decide +kernel
theorem dX11_vote_78 : decode cX11_vote 78 = .ok (.iload 5, 2) := by decide +kernel
theorem dX11_vote_80 : decode cX11_vote 80 = .ok (.if_icmp .le 7, 3) := by decide +kernel
theorem dX11_vote_83 : decode cX11_vote 83 = .ok (.iconst 1, 1) := by decide +kernel
theorem dX11_vote_84 : decode cX11_vote 84 = .ok (.goto 4, 3) := by decide +kernel
theorem dX11_vote_87 : decode cX11_vote 87 = .ok (.iconst 0, 1) := by decide +kernel
theorem dX11_vote_88 : decode cX11_vote 88 = .ok (.ireturn, 1) := by decide +kernel
theorem rX11_vote : (∀ (d : Nat) (a0 a2 a3 a4 a5 : Value) (x : Int32) (st : List Value) (h : fk_H), fk_ev d qX11_vote 0 [a0, .int x, a2, a3, a4, a5] st h = fk_ev d qX11_vote 1 [a0, .int x, a2, a3, a4, a5] (.int x :: st) h) ∧
  (∀ (d : Nat) (L st : List Value) (h : fk_H), fk_ev d qX11_vote 1 L st h = fk_ev d qX11_vote 2 L (.int (nI 4) :: st) h) ∧
  (∀ (d : Nat) (L : List Value) (x0 : Int32) (x1 : Int32)  (h : fk_H), fk_ev (d + 1) qX11_vote 2 L (.int x1 :: .int x0 :: []) h = (fk_ev d qX11_within 0 [.int x0, .int x1] [] h).bind fun o => fk_ev (d + 1) qX11_vote 5 L (o.1.toList ++ []) o.2) ∧
  (∀ (d : Nat) (L : List Value) (x : Int32) (st : List Value) (h : fk_H), fk_ev d qX11_vote 5 L (.int x :: st) h = if x = nI 0 then fk_ev d qX11_vote 25 L st h else fk_ev d qX11_vote 8 L st h) ∧
  (∀ (d : Nat) (a0 a1 a3 a4 a5 : Value) (x : Int32) (st : List Value) (h : fk_H), fk_ev d qX11_vote 8 [a0, a1, .int x, a3, a4, a5] st h = fk_ev d qX11_vote 9 [a0, a1, .int x, a3, a4, a5] (.int x :: st) h) ∧
  (∀ (d : Nat) (L st : List Value) (h : fk_H), fk_ev d qX11_vote 9 L st h = fk_ev d qX11_vote 11 L (.int (nI 16) :: st) h) ∧
  (∀ (d : Nat) (L : List Value) (x0 : Int32) (x1 : Int32)  (h : fk_H), fk_ev (d + 1) qX11_vote 11 L (.int x1 :: .int x0 :: []) h = (fk_ev d qX11_within 0 [.int x0, .int x1] [] h).bind fun o => fk_ev (d + 1) qX11_vote 14 L (o.1.toList ++ []) o.2) ∧
  (∀ (d : Nat) (L : List Value) (x : Int32) (st : List Value) (h : fk_H), fk_ev d qX11_vote 14 L (.int x :: st) h = if x = nI 0 then fk_ev d qX11_vote 25 L st h else fk_ev d qX11_vote 17 L st h) ∧
  (∀ (d : Nat) (a0 a1 a2 a4 a5 : Value) (x : Int32) (st : List Value) (h : fk_H), fk_ev d qX11_vote 17 [a0, a1, a2, .int x, a4, a5] st h = fk_ev d qX11_vote 18 [a0, a1, a2, .int x, a4, a5] (.int x :: st) h) ∧
  (∀ (d : Nat) (L st : List Value) (h : fk_H), fk_ev d qX11_vote 18 L st h = fk_ev d qX11_vote 19 L (.int (nI 3) :: st) h) ∧
  (∀ (d : Nat) (L : List Value) (x0 : Int32) (x1 : Int32)  (h : fk_H), fk_ev (d + 1) qX11_vote 19 L (.int x1 :: .int x0 :: []) h = (fk_ev d qX11_within 0 [.int x0, .int x1] [] h).bind fun o => fk_ev (d + 1) qX11_vote 22 L (o.1.toList ++ []) o.2) ∧
  (∀ (d : Nat) (L : List Value) (x : Int32) (st : List Value) (h : fk_H), fk_ev d qX11_vote 22 L (.int x :: st) h = if ¬ x = nI 0 then fk_ev d qX11_vote 27 L st h else fk_ev d qX11_vote 25 L st h) ∧
  (∀ (d : Nat) (L st : List Value) (h : fk_H), fk_ev d qX11_vote 25 L st h = fk_ev d qX11_vote 26 L (.int ((-1 : Int32)) :: st) h) ∧
  (∀ (d : Nat) (L : List Value) (x : Int32) (h : fk_H), fk_ev d qX11_vote 26 L [.int x] h = some (some (.int x), h)) ∧
  (∀ (d : Nat) (a1 a2 a3 a4 a5 : Value) (x : Nat) (st : List Value) (h : fk_H), fk_ev d qX11_vote 27 [.ref x, a1, a2, a3, a4, a5] st h = fk_ev d qX11_vote 28 [.ref x, a1, a2, a3, a4, a5] (.ref x :: st) h) ∧
  (∀ (d : Nat) (L st : List Value) (N : Nat) (y : Nat → Nat → Int32) (l : Nat → Nat → Int64), fk_ev d qX11_vote 28 L (.ref 1 :: st) (fk_E N y l) = fk_ev d qX11_vote 31 L (.ref 33 :: st) (fk_E N y l)) ∧
  (∀ (d : Nat) (a0 a2 a3 a4 a5 : Value) (x : Int32) (st : List Value) (h : fk_H), fk_ev d qX11_vote 31 [a0, .int x, a2, a3, a4, a5] st h = fk_ev d qX11_vote 32 [a0, .int x, a2, a3, a4, a5] (.int x :: st) h) ∧
  (∀ (d : Nat) (a0 a1 a3 a4 a5 : Value) (x : Int32) (st : List Value) (h : fk_H), fk_ev d qX11_vote 32 [a0, a1, .int x, a3, a4, a5] st h = fk_ev d qX11_vote 33 [a0, a1, .int x, a3, a4, a5] (.int x :: st) h) ∧
  (∀ (d : Nat) (L st : List Value) (h : fk_H), fk_ev d qX11_vote 33 L st h = fk_ev d qX11_vote 34 L (.int (nI 1) :: st) h) ∧
  (∀ (d : Nat) (L : List Value) (x0 : Int32) (x1 : Int32) (x2 : Int32)  (N : Nat) (y : Nat → Nat → Int32) (l : Nat → Nat → Int64) (c : Nat), fk_at c 8 → fk_ev (d + 1) qX11_vote 34 L (.int x2 :: .int x1 :: .int x0 :: .ref c :: []) (fk_E N y l) = (fk_ev d qX8_weightOf 0 [.ref c, .int x0, .int x1, .int x2, .null, .null, .null] [] (fk_E N y l)).bind fun o => fk_ev (d + 1) qX11_vote 37 L (o.1.toList ++ []) o.2) ∧
  (∀ (d : Nat) (a0 a1 a2 a3 a4 a5 : Value) (x : Int32) (st : List Value) (h : fk_H), fk_ev d qX11_vote 37 [a0, a1, a2, a3, a4, a5] (.int x :: st) h = fk_ev d qX11_vote 39 [a0, a1, a2, a3, .int x, a5] st h) ∧
  (∀ (d : Nat) (a1 a2 a3 a4 a5 : Value) (x : Nat) (st : List Value) (h : fk_H), fk_ev d qX11_vote 39 [.ref x, a1, a2, a3, a4, a5] st h = fk_ev d qX11_vote 40 [.ref x, a1, a2, a3, a4, a5] (.ref x :: st) h) ∧
  (∀ (d : Nat) (L st : List Value) (N : Nat) (y : Nat → Nat → Int32) (l : Nat → Nat → Int64), fk_ev d qX11_vote 40 L (.ref 1 :: st) (fk_E N y l) = fk_ev d qX11_vote 43 L (.ref 33 :: st) (fk_E N y l)) ∧
  (∀ (d : Nat) (a0 a2 a3 a4 a5 : Value) (x : Int32) (st : List Value) (h : fk_H), fk_ev d qX11_vote 43 [a0, .int x, a2, a3, a4, a5] st h = fk_ev d qX11_vote 44 [a0, .int x, a2, a3, a4, a5] (.int x :: st) h) ∧
  (∀ (d : Nat) (a0 a1 a3 a4 a5 : Value) (x : Int32) (st : List Value) (h : fk_H), fk_ev d qX11_vote 44 [a0, a1, .int x, a3, a4, a5] st h = fk_ev d qX11_vote 45 [a0, a1, .int x, a3, a4, a5] (.int x :: st) h) ∧
  (∀ (d : Nat) (L st : List Value) (h : fk_H), fk_ev d qX11_vote 45 L st h = fk_ev d qX11_vote 46 L (.int (nI 0) :: st) h) ∧
  (∀ (d : Nat) (L : List Value) (x0 : Int32) (x1 : Int32) (x2 : Int32)  (N : Nat) (y : Nat → Nat → Int32) (l : Nat → Nat → Int64) (c : Nat), fk_at c 8 → fk_ev (d + 1) qX11_vote 46 L (.int x2 :: .int x1 :: .int x0 :: .ref c :: []) (fk_E N y l) = (fk_ev d qX8_weightOf 0 [.ref c, .int x0, .int x1, .int x2, .null, .null, .null] [] (fk_E N y l)).bind fun o => fk_ev (d + 1) qX11_vote 49 L (o.1.toList ++ []) o.2) ∧
  (∀ (d : Nat) (a0 a1 a2 a3 a4 a5 : Value) (x : Int32) (st : List Value) (h : fk_H), fk_ev d qX11_vote 49 [a0, a1, a2, a3, a4, a5] (.int x :: st) h = fk_ev d qX11_vote 51 [a0, a1, a2, a3, a4, .int x] st h) ∧
  (∀ (d : Nat) (a0 a1 a2 a4 a5 : Value) (x : Int32) (st : List Value) (h : fk_H), fk_ev d qX11_vote 51 [a0, a1, a2, .int x, a4, a5] st h = fk_ev d qX11_vote 52 [a0, a1, a2, .int x, a4, a5] (.int x :: st) h) ∧
  (∀ (d : Nat) (L : List Value) (x : Int32) (st : List Value) (h : fk_H), fk_ev d qX11_vote 52 L (.int x :: st) h = if ¬ x = nI 0 then fk_ev d qX11_vote 58 L st h else fk_ev d qX11_vote 55 L st h) ∧
  (∀ (d : Nat) (a0 a1 a2 a3 a5 : Value) (x : Int32) (st : List Value) (h : fk_H), fk_ev d qX11_vote 55 [a0, a1, a2, a3, .int x, a5] st h = fk_ev d qX11_vote 57 [a0, a1, a2, a3, .int x, a5] (.int x :: st) h) ∧
  (∀ (d : Nat) (L : List Value) (x : Int32) (h : fk_H), fk_ev d qX11_vote 57 L [.int x] h = some (some (.int x), h)) ∧
  (∀ (d : Nat) (a0 a1 a2 a4 a5 : Value) (x : Int32) (st : List Value) (h : fk_H), fk_ev d qX11_vote 58 [a0, a1, a2, .int x, a4, a5] st h = fk_ev d qX11_vote 59 [a0, a1, a2, .int x, a4, a5] (.int x :: st) h) ∧
  (∀ (d : Nat) (L st : List Value) (h : fk_H), fk_ev d qX11_vote 59 L st h = fk_ev d qX11_vote 60 L (.int (nI 1) :: st) h) ∧
  (∀ (d : Nat) (L : List Value) (x y : Int32) (st : List Value) (h : fk_H), fk_ev d qX11_vote 60 L (.int y :: .int x :: st) h = if ¬ x = y then fk_ev d qX11_vote 66 L st h else fk_ev d qX11_vote 63 L st h) ∧
  (∀ (d : Nat) (a0 a1 a2 a3 a4 : Value) (x : Int32) (st : List Value) (h : fk_H), fk_ev d qX11_vote 63 [a0, a1, a2, a3, a4, .int x] st h = fk_ev d qX11_vote 65 [a0, a1, a2, a3, a4, .int x] (.int x :: st) h) ∧
  (∀ (d : Nat) (L : List Value) (x : Int32) (h : fk_H), fk_ev d qX11_vote 65 L [.int x] h = some (some (.int x), h)) ∧
  (∀ (d : Nat) (a0 a1 a2 a3 a5 : Value) (x : Int32) (st : List Value) (h : fk_H), fk_ev d qX11_vote 66 [a0, a1, a2, a3, .int x, a5] st h = fk_ev d qX11_vote 68 [a0, a1, a2, a3, .int x, a5] (.int x :: st) h) ∧
  (∀ (d : Nat) (a0 a1 a2 a3 a4 : Value) (x : Int32) (st : List Value) (h : fk_H), fk_ev d qX11_vote 68 [a0, a1, a2, a3, a4, .int x] st h = fk_ev d qX11_vote 70 [a0, a1, a2, a3, a4, .int x] (.int x :: st) h) ∧
  (∀ (d : Nat) (L : List Value) (x y : Int32) (st : List Value) (h : fk_H), fk_ev d qX11_vote 70 L (.int y :: .int x :: st) h = if ¬ x = y then fk_ev d qX11_vote 76 L st h else fk_ev d qX11_vote 73 L st h) ∧
  (∀ (d : Nat) (L st : List Value) (h : fk_H), fk_ev d qX11_vote 73 L st h = fk_ev d qX11_vote 75 L (.int ((-2 : Int32)) :: st) h) ∧
  (∀ (d : Nat) (L : List Value) (x : Int32) (h : fk_H), fk_ev d qX11_vote 75 L [.int x] h = some (some (.int x), h)) ∧
  (∀ (d : Nat) (a0 a1 a2 a3 a5 : Value) (x : Int32) (st : List Value) (h : fk_H), fk_ev d qX11_vote 76 [a0, a1, a2, a3, .int x, a5] st h = fk_ev d qX11_vote 78 [a0, a1, a2, a3, .int x, a5] (.int x :: st) h) ∧
  (∀ (d : Nat) (a0 a1 a2 a3 a4 : Value) (x : Int32) (st : List Value) (h : fk_H), fk_ev d qX11_vote 78 [a0, a1, a2, a3, a4, .int x] st h = fk_ev d qX11_vote 80 [a0, a1, a2, a3, a4, .int x] (.int x :: st) h) ∧
  (∀ (d : Nat) (L : List Value) (x y : Int32) (st : List Value) (h : fk_H), fk_ev d qX11_vote 80 L (.int y :: .int x :: st) h = if x ≤ y then fk_ev d qX11_vote 87 L st h else fk_ev d qX11_vote 83 L st h) ∧
  (∀ (d : Nat) (L st : List Value) (h : fk_H), fk_ev d qX11_vote 83 L st h = fk_ev d qX11_vote 84 L (.int (nI 1) :: st) h) ∧
  (∀ (d : Nat) (L st : List Value) (h : fk_H), fk_ev d qX11_vote 84 L st h = fk_ev d qX11_vote 88 L st h) ∧
  (∀ (d : Nat) (L st : List Value) (h : fk_H), fk_ev d qX11_vote 87 L st h = fk_ev d qX11_vote 88 L (.int (nI 0) :: st) h) ∧
  (∀ (d : Nat) (L : List Value) (x : Int32) (h : fk_H), fk_ev d qX11_vote 88 L [.int x] h = some (some (.int x), h)) := ⟨fun d a0 a2 a3 a4 a5 x st h => fk_w_iloadn 1 [a0, .int x, a2, a3, a4, a5] dX11_vote_0 rfl,
  fun d L st h => fk_w_iconst dX11_vote_1 (by decide),
  fun d L x0 x1 h => fk_g_calls [.int x0, .int x1] [] rfl lm_11_110 dX11_vote_2 rfl ⟨rfl, by decide⟩ (by simp),
  fun d L x st h => fk_r_if_eq dX11_vote_5 (by decide),
  fun d a0 a1 a3 a4 a5 x st h => fk_w_iloadn 2 [a0, a1, .int x, a3, a4, a5] dX11_vote_8 rfl,
  fun d L st h => fk_w_bipush dX11_vote_9 (by decide),
  fun d L x0 x1 h => fk_g_calls [.int x0, .int x1] [] rfl lm_11_110 dX11_vote_11 rfl ⟨rfl, by decide⟩ (by simp),
  fun d L x st h => fk_r_if_eq dX11_vote_14 (by decide),
  fun d a0 a1 a2 a4 a5 x st h => fk_w_iloadn 3 [a0, a1, a2, .int x, a4, a5] dX11_vote_17 rfl,
  fun d L st h => fk_w_iconst dX11_vote_18 (by decide),
  fun d L x0 x1 h => fk_g_calls [.int x0, .int x1] [] rfl lm_11_110 dX11_vote_19 rfl ⟨rfl, by decide⟩ (by simp),
  fun d L x st h => fk_r_if_ne dX11_vote_22 (by decide),
  fun d L st h => fk_w_iconst dX11_vote_25 (by decide),
  fun d L x h => fk_r_ret dX11_vote_26 (Or.inl rfl),
  fun d a1 a2 a3 a4 a5 x st h => fk_w_aloadn 0 [.ref x, a1, a2, a3, a4, a5] dX11_vote_27 rfl,
  fun d L st N y l => fk_g_getC rfl lf_11_58 (by decide) rfl dX11_vote_28 fk_at_1,
  fun d a0 a2 a3 a4 a5 x st h => fk_w_iloadn 1 [a0, .int x, a2, a3, a4, a5] dX11_vote_31 rfl,
  fun d a0 a1 a3 a4 a5 x st h => fk_w_iloadn 2 [a0, a1, .int x, a3, a4, a5] dX11_vote_32 rfl,
  fun d L st h => fk_w_iconst dX11_vote_33 (by decide),
  fun d L x0 x1 x2 N y l c hc => fk_g_call [.int x0, .int x1, .int x2] [] rfl lm_11_367 dX11_vote_34 rfl ⟨rfl, by decide⟩ (by simp) hc,
  fun d a0 a1 a2 a3 a4 a5 x st h => fk_w_istore 4 6 [] [a0, a1, a2, a3, a4, a5] [a0, a1, a2, a3, .int x, a5] dX11_vote_37 rfl rfl (by decide) rfl,
  fun d a1 a2 a3 a4 a5 x st h => fk_w_aloadn 0 [.ref x, a1, a2, a3, a4, a5] dX11_vote_39 rfl,
  fun d L st N y l => fk_g_getC rfl lf_11_58 (by decide) rfl dX11_vote_40 fk_at_1,
  fun d a0 a2 a3 a4 a5 x st h => fk_w_iloadn 1 [a0, .int x, a2, a3, a4, a5] dX11_vote_43 rfl,
  fun d a0 a1 a3 a4 a5 x st h => fk_w_iloadn 2 [a0, a1, .int x, a3, a4, a5] dX11_vote_44 rfl,
  fun d L st h => fk_w_iconst dX11_vote_45 (by decide),
  fun d L x0 x1 x2 N y l c hc => fk_g_call [.int x0, .int x1, .int x2] [] rfl lm_11_367 dX11_vote_46 rfl ⟨rfl, by decide⟩ (by simp) hc,
  fun d a0 a1 a2 a3 a4 a5 x st h => fk_w_istore 5 6 [] [a0, a1, a2, a3, a4, a5] [a0, a1, a2, a3, a4, .int x] dX11_vote_49 rfl rfl (by decide) rfl,
  fun d a0 a1 a2 a4 a5 x st h => fk_w_iloadn 3 [a0, a1, a2, .int x, a4, a5] dX11_vote_51 rfl,
  fun d L x st h => fk_r_if_ne dX11_vote_52 (by decide),
  fun d a0 a1 a2 a3 a5 x st h => fk_w_iload 4 [a0, a1, a2, a3, .int x, a5] dX11_vote_55 rfl,
  fun d L x h => fk_r_ret dX11_vote_57 (Or.inl rfl),
  fun d a0 a1 a2 a4 a5 x st h => fk_w_iloadn 3 [a0, a1, a2, .int x, a4, a5] dX11_vote_58 rfl,
  fun d L st h => fk_w_iconst dX11_vote_59 (by decide),
  fun d L x y st h => fk_r_icmp_ne dX11_vote_60 (by decide),
  fun d a0 a1 a2 a3 a4 x st h => fk_w_iload 5 [a0, a1, a2, a3, a4, .int x] dX11_vote_63 rfl,
  fun d L x h => fk_r_ret dX11_vote_65 (Or.inl rfl),
  fun d a0 a1 a2 a3 a5 x st h => fk_w_iload 4 [a0, a1, a2, a3, .int x, a5] dX11_vote_66 rfl,
  fun d a0 a1 a2 a3 a4 x st h => fk_w_iload 5 [a0, a1, a2, a3, a4, .int x] dX11_vote_68 rfl,
  fun d L x y st h => fk_r_icmp_ne dX11_vote_70 (by decide),
  fun d L st h => fk_w_bipush dX11_vote_73 (by decide),
  fun d L x h => fk_r_ret dX11_vote_75 (Or.inl rfl),
  fun d a0 a1 a2 a3 a5 x st h => fk_w_iload 4 [a0, a1, a2, a3, .int x, a5] dX11_vote_76 rfl,
  fun d a0 a1 a2 a3 a4 x st h => fk_w_iload 5 [a0, a1, a2, a3, a4, .int x] dX11_vote_78 rfl,
  fun d L x y st h => fk_r_icmp_le dX11_vote_80 (by decide),
  fun d L st h => fk_w_iconst dX11_vote_83 (by decide),
  fun d L st h => fk_r_goto dX11_vote_84 (by decide),
  fun d L st h => fk_w_iconst dX11_vote_87 (by decide),
  fun d L x h => fk_r_ret dX11_vote_88 (Or.inl rfl)⟩
theorem dX11_seed_0 : decode cX11_seed 0 = .ok (.iload_n 1, 1) := by decide +kernel
theorem dX11_seed_1 : decode cX11_seed 1 = .ok (.ldc_w 275, 3) := by decide +kernel
theorem dX11_seed_4 : decode cX11_seed 4 = .ok (.invokestatic 110, 3) := by decide +kernel
theorem dX11_seed_7 : decode cX11_seed 7 = .ok (.ifCond .ne 5, 3) := by decide +kernel
theorem dX11_seed_10 : decode cX11_seed 10 = .ok (.iconst 0, 1) := by decide +kernel
theorem dX11_seed_11 : decode cX11_seed 11 = .ok (.ireturn, 1) := by decide +kernel
theorem dX11_seed_12 : decode cX11_seed 12 = .ok (.aload_n 0, 1) := by decide +kernel
theorem dX11_seed_13 : decode cX11_seed 13 = .ok (.getfield 58, 3) := by decide +kernel
theorem dX11_seed_16 : decode cX11_seed 16 = .ok (.iload_n 1, 1) := by decide +kernel
theorem dX11_seed_17 : decode cX11_seed 17 = .ok (.putfield 371, 3) := by decide +kernel
theorem dX11_seed_20 : decode cX11_seed 20 = .ok (.iconst 1, 1) := by decide +kernel
theorem dX11_seed_21 : decode cX11_seed 21 = .ok (.ireturn, 1) := by decide +kernel
theorem rX11_seed : (∀ (d : Nat) (a0 : Value) (x : Int32) (st : List Value) (h : fk_H), fk_ev d qX11_seed 0 [a0, .int x] st h = fk_ev d qX11_seed 1 [a0, .int x] (.int x :: st) h) ∧
  (∀ (d : Nat) (L st : List Value) (h : fk_H), fk_ev d qX11_seed 1 L st h = fk_ev d qX11_seed 4 L (.int (nI 65536) :: st) h) ∧
  (∀ (d : Nat) (L : List Value) (x0 : Int32) (x1 : Int32)  (h : fk_H), fk_ev (d + 1) qX11_seed 4 L (.int x1 :: .int x0 :: []) h = (fk_ev d qX11_within 0 [.int x0, .int x1] [] h).bind fun o => fk_ev (d + 1) qX11_seed 7 L (o.1.toList ++ []) o.2) ∧
  (∀ (d : Nat) (L : List Value) (x : Int32) (st : List Value) (h : fk_H), fk_ev d qX11_seed 7 L (.int x :: st) h = if ¬ x = nI 0 then fk_ev d qX11_seed 12 L st h else fk_ev d qX11_seed 10 L st h) ∧
  (∀ (d : Nat) (L st : List Value) (h : fk_H), fk_ev d qX11_seed 10 L st h = fk_ev d qX11_seed 11 L (.int (nI 0) :: st) h) ∧
  (∀ (d : Nat) (L : List Value) (h : fk_H), fk_ev d qX11_seed 11 L [.int (nI 0)] h = some (some (.int (nI 0)), h)) ∧
  (∀ (d : Nat) (L : List Value) (h : fk_H), fk_ev d qX11_seed 11 L [.int (nI 1)] h = some (some (.int (nI 1)), h)) ∧
  (∀ (d : Nat) (L : List Value) (p : Prop) [Decidable p] (h : fk_H), fk_ev d qX11_seed 11 L [.int (fk_b p)] h = some (some (.int (fk_b p)), h)) ∧
  (∀ (d : Nat) (L : List Value) (x : Int32) (h : fk_H), (x = nI 0 ∨ x = nI 1) → fk_ev d qX11_seed 11 L [.int x] h = some (some (.int x), h)) ∧
  (∀ (d : Nat) (a1 : Value) (x : Nat) (st : List Value) (h : fk_H), fk_ev d qX11_seed 12 [.ref x, a1] st h = fk_ev d qX11_seed 13 [.ref x, a1] (.ref x :: st) h) ∧
  (∀ (d : Nat) (L st : List Value) (N : Nat) (y : Nat → Nat → Int32) (l : Nat → Nat → Int64), fk_ev d qX11_seed 13 L (.ref 1 :: st) (fk_E N y l) = fk_ev d qX11_seed 16 L (.ref 33 :: st) (fk_E N y l)) ∧
  (∀ (d : Nat) (a0 : Value) (x : Int32) (st : List Value) (h : fk_H), fk_ev d qX11_seed 16 [a0, .int x] st h = fk_ev d qX11_seed 17 [a0, .int x] (.int x :: st) h) ∧
  (∀ (d : Nat) (L st : List Value) (N : Nat) (y : Nat → Nat → Int32) (l : Nat → Nat → Int64) (c : Nat) (v : Int32), fk_at c 8 → fk_ev d qX11_seed 17 L (.int v :: .ref c :: st) (fk_E N y l) = fk_ev d qX11_seed 20 L st (fk_E N (fk_u y c 4 v) l)) ∧
  (∀ (d : Nat) (L st : List Value) (h : fk_H), fk_ev d qX11_seed 20 L st h = fk_ev d qX11_seed 21 L (.int (nI 1) :: st) h) ∧
  (∀ (d : Nat) (L : List Value) (h : fk_H), fk_ev d qX11_seed 21 L [.int (nI 0)] h = some (some (.int (nI 0)), h)) ∧
  (∀ (d : Nat) (L : List Value) (h : fk_H), fk_ev d qX11_seed 21 L [.int (nI 1)] h = some (some (.int (nI 1)), h)) ∧
  (∀ (d : Nat) (L : List Value) (p : Prop) [Decidable p] (h : fk_H), fk_ev d qX11_seed 21 L [.int (fk_b p)] h = some (some (.int (fk_b p)), h)) ∧
  (∀ (d : Nat) (L : List Value) (x : Int32) (h : fk_H), (x = nI 0 ∨ x = nI 1) → fk_ev d qX11_seed 21 L [.int x] h = some (some (.int x), h)) := ⟨fun d a0 x st h => fk_w_iloadn 1 [a0, .int x] dX11_seed_0 rfl,
  fun d L st h => fk_g_ldcw rfl lc_11_275 (by decide) dX11_seed_1,
  fun d L x0 x1 h => fk_g_calls [.int x0, .int x1] [] rfl lm_11_110 dX11_seed_4 rfl ⟨rfl, by decide⟩ (by simp),
  fun d L x st h => fk_r_if_ne dX11_seed_7 (by decide),
  fun d L st h => fk_w_iconst dX11_seed_10 (by decide),
  fun d L h => fk_r_ret dX11_seed_11 (Or.inr (Or.inl ⟨rfl, by decide⟩)),
  fun d L h => fk_r_ret dX11_seed_11 (Or.inr (Or.inl ⟨rfl, by decide⟩)),
  fun d L p _ h => fk_r_ret dX11_seed_11 (Or.inr (Or.inl ⟨rfl, fk_b_01⟩)),
  fun d L x h hx => fk_r_ret dX11_seed_11 (Or.inr (Or.inl ⟨rfl, hx⟩)),
  fun d a1 x st h => fk_w_aloadn 0 [.ref x, a1] dX11_seed_12 rfl,
  fun d L st N y l => fk_g_getC rfl lf_11_58 (by decide) rfl dX11_seed_13 fk_at_1,
  fun d a0 x st h => fk_w_iloadn 1 [a0, .int x] dX11_seed_16 rfl,
  fun d L st N y l c v hc => fk_g_putI rfl lf_11_371 (by decide) dX11_seed_17 rfl hc,
  fun d L st h => fk_w_iconst dX11_seed_20 (by decide),
  fun d L h => fk_r_ret dX11_seed_21 (Or.inr (Or.inl ⟨rfl, by decide⟩)),
  fun d L h => fk_r_ret dX11_seed_21 (Or.inr (Or.inl ⟨rfl, by decide⟩)),
  fun d L p _ h => fk_r_ret dX11_seed_21 (Or.inr (Or.inl ⟨rfl, fk_b_01⟩)),
  fun d L x h hx => fk_r_ret dX11_seed_21 (Or.inr (Or.inl ⟨rfl, hx⟩))⟩
theorem dX11_keep_0 : decode cX11_keep 0 = .ok (.aload_n 0, 1) := by decide +kernel
theorem dX11_keep_1 : decode cX11_keep 1 = .ok (.getfield 62, 3) := by decide +kernel
theorem dX11_keep_4 : decode cX11_keep 4 = .ok (.aload_n 0, 1) := by decide +kernel
theorem dX11_keep_5 : decode cX11_keep 5 = .ok (.getfield 58, 3) := by decide +kernel
theorem dX11_keep_8 : decode cX11_keep 8 = .ok (.invokevirtual 194, 3) := by decide +kernel
theorem dX11_keep_11 : decode cX11_keep 11 = .ok (.aload_n 0, 1) := by decide +kernel
theorem dX11_keep_12 : decode cX11_keep 12 = .ok (.getfield 75, 3) := by decide +kernel
theorem dX11_keep_15 : decode cX11_keep 15 = .ok (.aload_n 0, 1) := by decide +kernel
theorem dX11_keep_16 : decode cX11_keep 16 = .ok (.getfield 71, 3) := by decide +kernel
theorem dX11_keep_19 : decode cX11_keep 19 = .ok (.invokevirtual 374, 3) := by decide +kernel
theorem dX11_keep_22 : decode cX11_keep 22 = .ok (.aload_n 0, 1) := by decide +kernel
theorem dX11_keep_23 : decode cX11_keep 23 = .ok (.iconst 1, 1) := by decide +kernel
theorem dX11_keep_24 : decode cX11_keep 24 = .ok (.putfield 19, 3) := by decide +kernel
theorem dX11_keep_27 : decode cX11_keep 27 = .ok (.aload_n 0, 1) := by decide +kernel
theorem dX11_keep_28 : decode cX11_keep 28 = .ok (.getfield 58, 3) := by decide +kernel
theorem dX11_keep_31 : decode cX11_keep 31 = .ok (.invokevirtual 187, 3) := by decide +kernel
theorem dX11_keep_34 : decode cX11_keep 34 = .ok (.ireturn, 1) := by decide +kernel
theorem rX11_keep : (∀ (d : Nat) (x : Nat) (st : List Value) (h : fk_H), fk_ev d qX11_keep 0 [.ref x] st h = fk_ev d qX11_keep 1 [.ref x] (.ref x :: st) h) ∧
  (∀ (d : Nat) (L st : List Value) (N : Nat) (y : Nat → Nat → Int32) (l : Nat → Nat → Int64), fk_ev d qX11_keep 1 L (.ref 1 :: st) (fk_E N y l) = fk_ev d qX11_keep 4 L (.ref 100 :: st) (fk_E N y l)) ∧
  (∀ (d : Nat) (x : Nat) (st : List Value) (h : fk_H), fk_ev d qX11_keep 4 [.ref x] st h = fk_ev d qX11_keep 5 [.ref x] (.ref x :: st) h) ∧
  (∀ (d : Nat) (L st : List Value) (N : Nat) (y : Nat → Nat → Int32) (l : Nat → Nat → Int64), fk_ev d qX11_keep 5 L (.ref 1 :: st) (fk_E N y l) = fk_ev d qX11_keep 8 L (.ref 33 :: st) (fk_E N y l)) ∧
  (∀ (d : Nat) (L : List Value) (x0 : Nat)  (N : Nat) (y : Nat → Nat → Int32) (l : Nat → Nat → Int64) (c : Nat), fk_at c 8 → fk_ev (d + 1) qX11_keep 8 L (.ref x0 :: .ref c :: []) (fk_E N y l) = (fk_ev d qX8_copyFrom 0 [.ref c, .ref x0, .null] [] (fk_E N y l)).bind fun o => fk_ev (d + 1) qX11_keep 11 L (o.1.toList ++ []) o.2) ∧
  (∀ (d : Nat) (x : Nat) (st : List Value) (h : fk_H), fk_ev d qX11_keep 11 [.ref x] st h = fk_ev d qX11_keep 12 [.ref x] (.ref x :: st) h) ∧
  (∀ (d : Nat) (L st : List Value) (N : Nat) (y : Nat → Nat → Int32) (l : Nat → Nat → Int64), fk_ev d qX11_keep 12 L (.ref 1 :: st) (fk_E N y l) = fk_ev d qX11_keep 15 L (.ref 236 :: st) (fk_E N y l)) ∧
  (∀ (d : Nat) (x : Nat) (st : List Value) (h : fk_H), fk_ev d qX11_keep 15 [.ref x] st h = fk_ev d qX11_keep 16 [.ref x] (.ref x :: st) h) ∧
  (∀ (d : Nat) (L st : List Value) (N : Nat) (y : Nat → Nat → Int32) (l : Nat → Nat → Int64), fk_ev d qX11_keep 16 L (.ref 1 :: st) (fk_E N y l) = fk_ev d qX11_keep 19 L (.ref 234 :: st) (fk_E N y l)) ∧
  (∀ (d : Nat) (L : List Value) (x0 : Nat)  (N : Nat) (y : Nat → Nat → Int32) (l : Nat → Nat → Int64) (c : Nat), fk_at c 7 → fk_ev (d + 1) qX11_keep 19 L (.ref x0 :: .ref c :: []) (fk_E N y l) = (fk_ev d qX7_copyFrom 0 [.ref c, .ref x0] [] (fk_E N y l)).bind fun o => fk_ev (d + 1) qX11_keep 22 L (o.1.toList ++ []) o.2) ∧
  (∀ (d : Nat) (x : Nat) (st : List Value) (h : fk_H), fk_ev d qX11_keep 22 [.ref x] st h = fk_ev d qX11_keep 23 [.ref x] (.ref x :: st) h) ∧
  (∀ (d : Nat) (L st : List Value) (h : fk_H), fk_ev d qX11_keep 23 L st h = fk_ev d qX11_keep 24 L (.int (nI 1) :: st) h) ∧
  (∀ (d : Nat) (L st : List Value) (N : Nat) (y : Nat → Nat → Int32) (l : Nat → Nat → Int64), fk_ev d qX11_keep 24 L (.int (nI 0) :: .ref 1 :: st) (fk_E N y l) = fk_ev d qX11_keep 27 L st (fk_E N (fk_u y 1 2 (nI 0)) l)) ∧
  (∀ (d : Nat) (L st : List Value) (N : Nat) (y : Nat → Nat → Int32) (l : Nat → Nat → Int64), fk_ev d qX11_keep 24 L (.int (nI 1) :: .ref 1 :: st) (fk_E N y l) = fk_ev d qX11_keep 27 L st (fk_E N (fk_u y 1 2 (nI 1)) l)) ∧
  (∀ (d : Nat) (L st : List Value) (N : Nat) (y : Nat → Nat → Int32) (l : Nat → Nat → Int64) (v : Int32), (v = nI 0 ∨ v = nI 1) → fk_ev d qX11_keep 24 L (.int v :: .ref 1 :: st) (fk_E N y l) = fk_ev d qX11_keep 27 L st (fk_E N (fk_u y 1 2 v) l)) ∧
  (∀ (d : Nat) (x : Nat) (st : List Value) (h : fk_H), fk_ev d qX11_keep 27 [.ref x] st h = fk_ev d qX11_keep 28 [.ref x] (.ref x :: st) h) ∧
  (∀ (d : Nat) (L st : List Value) (N : Nat) (y : Nat → Nat → Int32) (l : Nat → Nat → Int64), fk_ev d qX11_keep 28 L (.ref 1 :: st) (fk_E N y l) = fk_ev d qX11_keep 31 L (.ref 33 :: st) (fk_E N y l)) ∧
  (∀ (d : Nat) (L : List Value)   (N : Nat) (y : Nat → Nat → Int32) (l : Nat → Nat → Int64) (c : Nat), fk_at c 8 → fk_ev (d + 1) qX11_keep 31 L (.ref c :: []) (fk_E N y l) = (fk_ev d qX8_livingInAll 0 [.ref c] [] (fk_E N y l)).bind fun o => fk_ev (d + 1) qX11_keep 34 L (o.1.toList ++ []) o.2) ∧
  (∀ (d : Nat) (L : List Value) (x : Int32) (h : fk_H), fk_ev d qX11_keep 34 L [.int x] h = some (some (.int x), h)) := ⟨fun d  x st h => fk_w_aloadn 0 [.ref x] dX11_keep_0 rfl,
  fun d L st N y l => fk_g_getC rfl lf_11_62 (by decide) rfl dX11_keep_1 fk_at_1,
  fun d  x st h => fk_w_aloadn 0 [.ref x] dX11_keep_4 rfl,
  fun d L st N y l => fk_g_getC rfl lf_11_58 (by decide) rfl dX11_keep_5 fk_at_1,
  fun d L x0 N y l c hc => fk_g_call [.ref x0] [] rfl lm_11_194 dX11_keep_8 rfl ⟨rfl, by decide⟩ (by simp) hc,
  fun d  x st h => fk_w_aloadn 0 [.ref x] dX11_keep_11 rfl,
  fun d L st N y l => fk_g_getC rfl lf_11_75 (by decide) rfl dX11_keep_12 fk_at_1,
  fun d  x st h => fk_w_aloadn 0 [.ref x] dX11_keep_15 rfl,
  fun d L st N y l => fk_g_getC rfl lf_11_71 (by decide) rfl dX11_keep_16 fk_at_1,
  fun d L x0 N y l c hc => fk_g_call [.ref x0] [] rfl lm_11_374 dX11_keep_19 rfl ⟨rfl, by decide⟩ (by simp) hc,
  fun d  x st h => fk_w_aloadn 0 [.ref x] dX11_keep_22 rfl,
  fun d L st h => fk_w_iconst dX11_keep_23 (by decide),
  fun d L st N y l => fk_g_putI rfl lf_11_19 (by decide) dX11_keep_24 rfl fk_at_1,
  fun d L st N y l => fk_g_putI rfl lf_11_19 (by decide) dX11_keep_24 rfl fk_at_1,
  fun d L st N y l v hv => fk_g_putI rfl lf_11_19 (by decide) dX11_keep_24 (by rcases hv with rfl | rfl <;> rfl) fk_at_1,
  fun d  x st h => fk_w_aloadn 0 [.ref x] dX11_keep_27 rfl,
  fun d L st N y l => fk_g_getC rfl lf_11_58 (by decide) rfl dX11_keep_28 fk_at_1,
  fun d L  N y l c hc => fk_g_call [] [] rfl lm_11_187 dX11_keep_31 rfl ⟨rfl, by decide⟩ (by simp) hc,
  fun d L x h => fk_r_ret dX11_keep_34 (Or.inl rfl)⟩
theorem dX11_undo_0 : decode cX11_undo 0 = .ok (.aload_n 0, 1) := by decide +kernel
theorem dX11_undo_1 : decode cX11_undo 1 = .ok (.getfield 19, 3) := by decide +kernel
theorem dX11_undo_4 : decode cX11_undo 4 = .ok (.ifCond .ne 5, 3) := by decide +kernel
theorem dX11_undo_7 : decode cX11_undo 7 = .ok (.iconst 0, 1) := by decide +kernel
theorem dX11_undo_8 : decode cX11_undo 8 = .ok (.ireturn, 1) := by decide +kernel
theorem dX11_undo_9 : decode cX11_undo 9 = .ok (.aload_n 0, 1) := by decide +kernel
theorem dX11_undo_10 : decode cX11_undo 10 = .ok (.getfield 58, 3) := by decide +kernel
theorem dX11_undo_13 : decode cX11_undo 13 = .ok (.aload_n 0, 1) := by decide +kernel
theorem dX11_undo_14 : decode cX11_undo 14 = .ok (.getfield 62, 3) := by decide +kernel
theorem dX11_undo_17 : decode cX11_undo 17 = .ok (.invokevirtual 194, 3) := by decide +kernel
theorem dX11_undo_20 : decode cX11_undo 20 = .ok (.aload_n 0, 1) := by decide +kernel
theorem dX11_undo_21 : decode cX11_undo 21 = .ok (.getfield 71, 3) := by decide +kernel
theorem dX11_undo_24 : decode cX11_undo 24 = .ok (.aload_n 0, 1) := by decide +kernel
theorem dX11_undo_25 : decode cX11_undo 25 = .ok (.getfield 75, 3) := by decide +kernel
theorem dX11_undo_28 : decode cX11_undo 28 = .ok (.invokevirtual 374, 3) := by decide +kernel
theorem dX11_undo_31 : decode cX11_undo 31 = .ok (.iconst 1, 1) := by decide +kernel
theorem dX11_undo_32 : decode cX11_undo 32 = .ok (.ireturn, 1) := by decide +kernel
theorem rX11_undo : (∀ (d : Nat) (x : Nat) (st : List Value) (h : fk_H), fk_ev d qX11_undo 0 [.ref x] st h = fk_ev d qX11_undo 1 [.ref x] (.ref x :: st) h) ∧
  (∀ (d : Nat) (L st : List Value) (N : Nat) (y : Nat → Nat → Int32) (l : Nat → Nat → Int64), fk_ev d qX11_undo 1 L (.ref 1 :: st) (fk_E N y l) = fk_ev d qX11_undo 4 L (.int (y 1 2) :: st) (fk_E N y l)) ∧
  (∀ (d : Nat) (L : List Value) (x : Int32) (st : List Value) (h : fk_H), fk_ev d qX11_undo 4 L (.int x :: st) h = if ¬ x = nI 0 then fk_ev d qX11_undo 9 L st h else fk_ev d qX11_undo 7 L st h) ∧
  (∀ (d : Nat) (L st : List Value) (h : fk_H), fk_ev d qX11_undo 7 L st h = fk_ev d qX11_undo 8 L (.int (nI 0) :: st) h) ∧
  (∀ (d : Nat) (L : List Value) (h : fk_H), fk_ev d qX11_undo 8 L [.int (nI 0)] h = some (some (.int (nI 0)), h)) ∧
  (∀ (d : Nat) (L : List Value) (h : fk_H), fk_ev d qX11_undo 8 L [.int (nI 1)] h = some (some (.int (nI 1)), h)) ∧
  (∀ (d : Nat) (L : List Value) (p : Prop) [Decidable p] (h : fk_H), fk_ev d qX11_undo 8 L [.int (fk_b p)] h = some (some (.int (fk_b p)), h)) ∧
  (∀ (d : Nat) (L : List Value) (x : Int32) (h : fk_H), (x = nI 0 ∨ x = nI 1) → fk_ev d qX11_undo 8 L [.int x] h = some (some (.int x), h)) ∧
  (∀ (d : Nat) (x : Nat) (st : List Value) (h : fk_H), fk_ev d qX11_undo 9 [.ref x] st h = fk_ev d qX11_undo 10 [.ref x] (.ref x :: st) h) ∧
  (∀ (d : Nat) (L st : List Value) (N : Nat) (y : Nat → Nat → Int32) (l : Nat → Nat → Int64), fk_ev d qX11_undo 10 L (.ref 1 :: st) (fk_E N y l) = fk_ev d qX11_undo 13 L (.ref 33 :: st) (fk_E N y l)) ∧
  (∀ (d : Nat) (x : Nat) (st : List Value) (h : fk_H), fk_ev d qX11_undo 13 [.ref x] st h = fk_ev d qX11_undo 14 [.ref x] (.ref x :: st) h) ∧
  (∀ (d : Nat) (L st : List Value) (N : Nat) (y : Nat → Nat → Int32) (l : Nat → Nat → Int64), fk_ev d qX11_undo 14 L (.ref 1 :: st) (fk_E N y l) = fk_ev d qX11_undo 17 L (.ref 100 :: st) (fk_E N y l)) ∧
  (∀ (d : Nat) (L : List Value) (x0 : Nat)  (N : Nat) (y : Nat → Nat → Int32) (l : Nat → Nat → Int64) (c : Nat), fk_at c 8 → fk_ev (d + 1) qX11_undo 17 L (.ref x0 :: .ref c :: []) (fk_E N y l) = (fk_ev d qX8_copyFrom 0 [.ref c, .ref x0, .null] [] (fk_E N y l)).bind fun o => fk_ev (d + 1) qX11_undo 20 L (o.1.toList ++ []) o.2) ∧
  (∀ (d : Nat) (x : Nat) (st : List Value) (h : fk_H), fk_ev d qX11_undo 20 [.ref x] st h = fk_ev d qX11_undo 21 [.ref x] (.ref x :: st) h) ∧
  (∀ (d : Nat) (L st : List Value) (N : Nat) (y : Nat → Nat → Int32) (l : Nat → Nat → Int64), fk_ev d qX11_undo 21 L (.ref 1 :: st) (fk_E N y l) = fk_ev d qX11_undo 24 L (.ref 234 :: st) (fk_E N y l)) ∧
  (∀ (d : Nat) (x : Nat) (st : List Value) (h : fk_H), fk_ev d qX11_undo 24 [.ref x] st h = fk_ev d qX11_undo 25 [.ref x] (.ref x :: st) h) ∧
  (∀ (d : Nat) (L st : List Value) (N : Nat) (y : Nat → Nat → Int32) (l : Nat → Nat → Int64), fk_ev d qX11_undo 25 L (.ref 1 :: st) (fk_E N y l) = fk_ev d qX11_undo 28 L (.ref 236 :: st) (fk_E N y l)) ∧
  (∀ (d : Nat) (L : List Value) (x0 : Nat)  (N : Nat) (y : Nat → Nat → Int32) (l : Nat → Nat → Int64) (c : Nat), fk_at c 7 → fk_ev (d + 1) qX11_undo 28 L (.ref x0 :: .ref c :: []) (fk_E N y l) = (fk_ev d qX7_copyFrom 0 [.ref c, .ref x0] [] (fk_E N y l)).bind fun o => fk_ev (d + 1) qX11_undo 31 L (o.1.toList ++ []) o.2) ∧
  (∀ (d : Nat) (L st : List Value) (h : fk_H), fk_ev d qX11_undo 31 L st h = fk_ev d qX11_undo 32 L (.int (nI 1) :: st) h) ∧
  (∀ (d : Nat) (L : List Value) (h : fk_H), fk_ev d qX11_undo 32 L [.int (nI 0)] h = some (some (.int (nI 0)), h)) ∧
  (∀ (d : Nat) (L : List Value) (h : fk_H), fk_ev d qX11_undo 32 L [.int (nI 1)] h = some (some (.int (nI 1)), h)) ∧
  (∀ (d : Nat) (L : List Value) (p : Prop) [Decidable p] (h : fk_H), fk_ev d qX11_undo 32 L [.int (fk_b p)] h = some (some (.int (fk_b p)), h)) ∧
  (∀ (d : Nat) (L : List Value) (x : Int32) (h : fk_H), (x = nI 0 ∨ x = nI 1) → fk_ev d qX11_undo 32 L [.int x] h = some (some (.int x), h)) := ⟨fun d  x st h => fk_w_aloadn 0 [.ref x] dX11_undo_0 rfl,
  fun d L st N y l => fk_g_getI rfl lf_11_19 (by decide) dX11_undo_1 fk_at_1,
  fun d L x st h => fk_r_if_ne dX11_undo_4 (by decide),
  fun d L st h => fk_w_iconst dX11_undo_7 (by decide),
  fun d L h => fk_r_ret dX11_undo_8 (Or.inr (Or.inl ⟨rfl, by decide⟩)),
  fun d L h => fk_r_ret dX11_undo_8 (Or.inr (Or.inl ⟨rfl, by decide⟩)),
  fun d L p _ h => fk_r_ret dX11_undo_8 (Or.inr (Or.inl ⟨rfl, fk_b_01⟩)),
  fun d L x h hx => fk_r_ret dX11_undo_8 (Or.inr (Or.inl ⟨rfl, hx⟩)),
  fun d  x st h => fk_w_aloadn 0 [.ref x] dX11_undo_9 rfl,
  fun d L st N y l => fk_g_getC rfl lf_11_58 (by decide) rfl dX11_undo_10 fk_at_1,
  fun d  x st h => fk_w_aloadn 0 [.ref x] dX11_undo_13 rfl,
  fun d L st N y l => fk_g_getC rfl lf_11_62 (by decide) rfl dX11_undo_14 fk_at_1,
  fun d L x0 N y l c hc => fk_g_call [.ref x0] [] rfl lm_11_194 dX11_undo_17 rfl ⟨rfl, by decide⟩ (by simp) hc,
  fun d  x st h => fk_w_aloadn 0 [.ref x] dX11_undo_20 rfl,
  fun d L st N y l => fk_g_getC rfl lf_11_71 (by decide) rfl dX11_undo_21 fk_at_1,
  fun d  x st h => fk_w_aloadn 0 [.ref x] dX11_undo_24 rfl,
  fun d L st N y l => fk_g_getC rfl lf_11_75 (by decide) rfl dX11_undo_25 fk_at_1,
  fun d L x0 N y l c hc => fk_g_call [.ref x0] [] rfl lm_11_374 dX11_undo_28 rfl ⟨rfl, by decide⟩ (by simp) hc,
  fun d L st h => fk_w_iconst dX11_undo_31 (by decide),
  fun d L h => fk_r_ret dX11_undo_32 (Or.inr (Or.inl ⟨rfl, by decide⟩)),
  fun d L h => fk_r_ret dX11_undo_32 (Or.inr (Or.inl ⟨rfl, by decide⟩)),
  fun d L p _ h => fk_r_ret dX11_undo_32 (Or.inr (Or.inl ⟨rfl, fk_b_01⟩)),
  fun d L x h hx => fk_r_ret dX11_undo_32 (Or.inr (Or.inl ⟨rfl, hx⟩))⟩
theorem dX11_check_0 : decode cX11_check 0 = .ok (.iload_n 1, 1) := by decide +kernel
theorem dX11_check_1 : decode cX11_check 1 = .ok (.ifCond .lt 22, 3) := by decide +kernel
theorem dX11_check_4 : decode cX11_check 4 = .ok (.iload_n 1, 1) := by decide +kernel
theorem dX11_check_5 : decode cX11_check 5 = .ok (.bipush 20, 2) := by decide +kernel
theorem dX11_check_7 : decode cX11_check 7 = .ok (.if_icmp .gt 16, 3) := by decide +kernel
theorem dX11_check_10 : decode cX11_check 10 = .ok (.iconst 4, 1) := by decide +kernel
theorem dX11_check_11 : decode cX11_check 11 = .ok (.iload_n 1, 1) := by decide +kernel
theorem dX11_check_12 : decode cX11_check 12 = .ok (.imul, 1) := by decide +kernel
theorem dX11_check_13 : decode cX11_check 13 = .ok (.aload_n 0, 1) := by decide +kernel
theorem dX11_check_14 : decode cX11_check 14 = .ok (.getfield 33, 3) := by decide +kernel
theorem dX11_check_17 : decode cX11_check 17 = .ok (.getfield 160, 3) := by decide +kernel
theorem dX11_check_20 : decode cX11_check 20 = .ok (.if_icmp .le 6, 3) := by decide +kernel
theorem dX11_check_23 : decode cX11_check 23 = .ok (.bipush (-2), 2) := by decide +kernel
theorem dX11_check_25 : decode cX11_check 25 = .ok (.ireturn, 1) := by decide +kernel
theorem dX11_check_26 : decode cX11_check 26 = .ok (.iconst (-1), 1) := by decide +kernel
theorem dX11_check_27 : decode cX11_check 27 = .ok (.istore_n 2, 1) := by decide +kernel
theorem dX11_check_28 : decode cX11_check 28 = .ok (.iconst 0, 1) := by decide +kernel
theorem dX11_check_29 : decode cX11_check 29 = .ok (.istore_n 3, 1) := by decide +kernel
theorem dX11_check_30 : decode cX11_check 30 = .ok (.iload_n 3, 1) := by decide +kernel
theorem dX11_check_31 : decode cX11_check 31 = .ok (.iload_n 1, 1) := by decide +kernel
theorem dX11_check_32 : decode cX11_check 32 = .ok (.if_icmp .ge 60, 3) := by decide +kernel
theorem dX11_check_35 : decode cX11_check 35 = .ok (.iload_n 2, 1) := by decide +kernel
theorem dX11_check_36 : decode cX11_check 36 = .ok (.iconst (-1), 1) := by decide +kernel
theorem dX11_check_37 : decode cX11_check 37 = .ok (.if_icmp .ne 55, 3) := by decide +kernel
theorem dX11_check_40 : decode cX11_check 40 = .ok (.aload_n 0, 1) := by decide +kernel
theorem dX11_check_41 : decode cX11_check 41 = .ok (.getfield 58, 3) := by decide +kernel
theorem dX11_check_44 : decode cX11_check 44 = .ok (.iload_n 3, 1) := by decide +kernel
theorem dX11_check_45 : decode cX11_check 45 = .ok (.invokevirtual 135, 3) := by decide +kernel
theorem dX11_check_48 : decode cX11_check 48 = .ok (.ifCond .eq 18, 3) := by decide +kernel
theorem dX11_check_51 : decode cX11_check 51 = .ok (.aload_n 0, 1) := by decide +kernel
theorem dX11_check_52 : decode cX11_check 52 = .ok (.getfield 58, 3) := by decide +kernel
theorem dX11_check_55 : decode cX11_check 55 = .ok (.getfield 139, 3) := by decide +kernel
theorem dX11_check_58 : decode cX11_check 58 = .ok (.iload_n 3, 1) := by decide +kernel
theorem dX11_check_59 : decode cX11_check 59 = .ok (.aaload, 1) := by decide +kernel
theorem dX11_check_60 : decode cX11_check 60 = .ok (.getfield 230, 3) := by decide +kernel
theorem dX11_check_63 : decode cX11_check 63 = .ok (.goto 4, 3) := by decide +kernel
theorem dX11_check_66 : decode cX11_check 66 = .ok (.iconst 0, 1) := by decide +kernel
theorem dX11_check_67 : decode cX11_check 67 = .ok (.istore 4, 2) := by decide +kernel
theorem dX11_check_69 : decode cX11_check 69 = .ok (.aload_n 0, 1) := by decide +kernel
theorem dX11_check_70 : decode cX11_check 70 = .ok (.getfield 33, 3) := by decide +kernel
theorem dX11_check_73 : decode cX11_check 73 = .ok (.iconst 4, 1) := by decide +kernel
theorem dX11_check_74 : decode cX11_check 74 = .ok (.iload_n 3, 1) := by decide +kernel
theorem dX11_check_75 : decode cX11_check 75 = .ok (.imul, 1) := by decide +kernel
theorem dX11_check_76 : decode cX11_check 76 = .ok (.invokevirtual 377, 3) := by decide +kernel
theorem dX11_check_79 : decode cX11_check 79 = .ok (.iload 4, 2) := by decide +kernel
theorem dX11_check_81 : decode cX11_check 81 = .ok (.if_icmp .eq 5, 3) := by decide +kernel
theorem dX11_check_84 : decode cX11_check 84 = .ok (.iload_n 3, 1) := by decide +kernel
theorem dX11_check_85 : decode cX11_check 85 = .ok (.istore_n 2, 1) := by decide +kernel
theorem dX11_check_86 : decode cX11_check 86 = .ok (.iinc 3 1, 3) := by decide +kernel
theorem dX11_check_89 : decode cX11_check 89 = .ok (.goto (-59), 3) := by decide +kernel
theorem dX11_check_92 : decode cX11_check 92 = .ok (.aload_n 0, 1) := by decide +kernel
theorem dX11_check_93 : decode cX11_check 93 = .ok (.getfield 33, 3) := by decide +kernel
theorem dX11_check_96 : decode cX11_check 96 = .ok (.invokevirtual 167, 3) := by decide +kernel
theorem dX11_check_99 : decode cX11_check 99 = .ok (.iload_n 2, 1) := by decide +kernel
theorem dX11_check_100 : decode cX11_check 100 = .ok (.ireturn, 1) := by decide +kernel
theorem rX11_check : (∀ (d : Nat) (a0 a2 a3 a4 : Value) (x : Int32) (st : List Value) (h : fk_H), fk_ev d qX11_check 0 [a0, .int x, a2, a3, a4] st h = fk_ev d qX11_check 1 [a0, .int x, a2, a3, a4] (.int x :: st) h) ∧
  (∀ (d : Nat) (L : List Value) (x : Int32) (st : List Value) (h : fk_H), fk_ev d qX11_check 1 L (.int x :: st) h = if x < nI 0 then fk_ev d qX11_check 23 L st h else fk_ev d qX11_check 4 L st h) ∧
  (∀ (d : Nat) (a0 a2 a3 a4 : Value) (x : Int32) (st : List Value) (h : fk_H), fk_ev d qX11_check 4 [a0, .int x, a2, a3, a4] st h = fk_ev d qX11_check 5 [a0, .int x, a2, a3, a4] (.int x :: st) h) ∧
  (∀ (d : Nat) (L st : List Value) (h : fk_H), fk_ev d qX11_check 5 L st h = fk_ev d qX11_check 7 L (.int (nI 20) :: st) h) ∧
  (∀ (d : Nat) (L : List Value) (x y : Int32) (st : List Value) (h : fk_H), fk_ev d qX11_check 7 L (.int y :: .int x :: st) h = if y < x then fk_ev d qX11_check 23 L st h else fk_ev d qX11_check 10 L st h) ∧
  (∀ (d : Nat) (L st : List Value) (h : fk_H), fk_ev d qX11_check 10 L st h = fk_ev d qX11_check 11 L (.int (nI 4) :: st) h) ∧
  (∀ (d : Nat) (a0 a2 a3 a4 : Value) (x : Int32) (st : List Value) (h : fk_H), fk_ev d qX11_check 11 [a0, .int x, a2, a3, a4] st h = fk_ev d qX11_check 12 [a0, .int x, a2, a3, a4] (.int x :: st) h) ∧
  (∀ (d : Nat) (L : List Value) (x y : Int32) (st : List Value) (h : fk_H), fk_ev d qX11_check 12 L (.int y :: .int x :: st) h = fk_ev d qX11_check 13 L (.int (x * y) :: st) h) ∧
  (∀ (d : Nat) (a1 a2 a3 a4 : Value) (x : Nat) (st : List Value) (h : fk_H), fk_ev d qX11_check 13 [.ref x, a1, a2, a3, a4] st h = fk_ev d qX11_check 14 [.ref x, a1, a2, a3, a4] (.ref x :: st) h) ∧
  (∀ (d : Nat) (L st : List Value) (N : Nat) (y : Nat → Nat → Int32) (l : Nat → Nat → Int64), fk_ev d qX11_check 14 L (.ref 1 :: st) (fk_E N y l) = fk_ev d qX11_check 17 L (.ref 26 :: st) (fk_E N y l)) ∧
  (∀ (d : Nat) (L st : List Value) (N : Nat) (y : Nat → Nat → Int32) (l : Nat → Nat → Int64), fk_ev d qX11_check 17 L (.ref 26 :: st) (fk_E N y l) = fk_ev d qX11_check 20 L (.int (y 26 1) :: st) (fk_E N y l)) ∧
  (∀ (d : Nat) (L : List Value) (x y : Int32) (st : List Value) (h : fk_H), fk_ev d qX11_check 20 L (.int y :: .int x :: st) h = if x ≤ y then fk_ev d qX11_check 26 L st h else fk_ev d qX11_check 23 L st h) ∧
  (∀ (d : Nat) (L st : List Value) (h : fk_H), fk_ev d qX11_check 23 L st h = fk_ev d qX11_check 25 L (.int ((-2 : Int32)) :: st) h) ∧
  (∀ (d : Nat) (L : List Value) (x : Int32) (h : fk_H), fk_ev d qX11_check 25 L [.int x] h = some (some (.int x), h)) ∧
  (∀ (d : Nat) (L st : List Value) (h : fk_H), fk_ev d qX11_check 26 L st h = fk_ev d qX11_check 27 L (.int ((-1 : Int32)) :: st) h) ∧
  (∀ (d : Nat) (a0 a1 a2 a3 a4 : Value) (x : Int32) (st : List Value) (h : fk_H), fk_ev d qX11_check 27 [a0, a1, a2, a3, a4] (.int x :: st) h = fk_ev d qX11_check 28 [a0, a1, .int x, a3, a4] st h) ∧
  (∀ (d : Nat) (L st : List Value) (h : fk_H), fk_ev d qX11_check 28 L st h = fk_ev d qX11_check 29 L (.int (nI 0) :: st) h) ∧
  (∀ (d : Nat) (a0 a1 a2 a3 a4 : Value) (x : Int32) (st : List Value) (h : fk_H), fk_ev d qX11_check 29 [a0, a1, a2, a3, a4] (.int x :: st) h = fk_ev d qX11_check 30 [a0, a1, a2, .int x, a4] st h) ∧
  (∀ (d : Nat) (a0 a2 a3 a4 : Value) (x : Int32) (st : List Value) (h : fk_H), fk_ev d qX11_check 31 [a0, .int x, a2, a3, a4] st h = fk_ev d qX11_check 32 [a0, .int x, a2, a3, a4] (.int x :: st) h) ∧
  (∀ (d : Nat) (L : List Value) (x y : Int32) (st : List Value) (h : fk_H), fk_ev d qX11_check 32 L (.int y :: .int x :: st) h = if y ≤ x then fk_ev d qX11_check 92 L st h else fk_ev d qX11_check 35 L st h) ∧
  (∀ (d : Nat) (a0 a1 a3 a4 : Value) (x : Int32) (st : List Value) (h : fk_H), fk_ev d qX11_check 35 [a0, a1, .int x, a3, a4] st h = fk_ev d qX11_check 36 [a0, a1, .int x, a3, a4] (.int x :: st) h) ∧
  (∀ (d : Nat) (L st : List Value) (h : fk_H), fk_ev d qX11_check 36 L st h = fk_ev d qX11_check 37 L (.int ((-1 : Int32)) :: st) h) ∧
  (∀ (d : Nat) (L : List Value) (x y : Int32) (st : List Value) (h : fk_H), fk_ev d qX11_check 37 L (.int y :: .int x :: st) h = if ¬ x = y then fk_ev d qX11_check 92 L st h else fk_ev d qX11_check 40 L st h) ∧
  (∀ (d : Nat) (a1 a2 a3 a4 : Value) (x : Nat) (st : List Value) (h : fk_H), fk_ev d qX11_check 40 [.ref x, a1, a2, a3, a4] st h = fk_ev d qX11_check 41 [.ref x, a1, a2, a3, a4] (.ref x :: st) h) ∧
  (∀ (d : Nat) (L st : List Value) (N : Nat) (y : Nat → Nat → Int32) (l : Nat → Nat → Int64), fk_ev d qX11_check 41 L (.ref 1 :: st) (fk_E N y l) = fk_ev d qX11_check 44 L (.ref 33 :: st) (fk_E N y l)) ∧
  (∀ (d : Nat) (a0 a1 a2 a4 : Value) (x : Int32) (st : List Value) (h : fk_H), fk_ev d qX11_check 44 [a0, a1, a2, .int x, a4] st h = fk_ev d qX11_check 45 [a0, a1, a2, .int x, a4] (.int x :: st) h) ∧
  (∀ (d : Nat) (L : List Value) (x0 : Int32)  (N : Nat) (y : Nat → Nat → Int32) (l : Nat → Nat → Int64) (c : Nat), fk_at c 8 → fk_ev (d + 1) qX11_check 45 L (.int x0 :: .ref c :: []) (fk_E N y l) = (fk_ev d qX8_isLiving 0 [.ref c, .int x0] [] (fk_E N y l)).bind fun o => fk_ev (d + 1) qX11_check 48 L (o.1.toList ++ []) o.2) ∧
  (∀ (d : Nat) (L : List Value) (x : Int32) (st : List Value) (h : fk_H), fk_ev d qX11_check 48 L (.int x :: st) h = if x = nI 0 then fk_ev d qX11_check 66 L st h else fk_ev d qX11_check 51 L st h) ∧
  (∀ (d : Nat) (a1 a2 a3 a4 : Value) (x : Nat) (st : List Value) (h : fk_H), fk_ev d qX11_check 51 [.ref x, a1, a2, a3, a4] st h = fk_ev d qX11_check 52 [.ref x, a1, a2, a3, a4] (.ref x :: st) h) ∧
  (∀ (d : Nat) (L st : List Value) (N : Nat) (y : Nat → Nat → Int32) (l : Nat → Nat → Int64), fk_ev d qX11_check 52 L (.ref 1 :: st) (fk_E N y l) = fk_ev d qX11_check 55 L (.ref 33 :: st) (fk_E N y l)) ∧
  (∀ (d : Nat) (L st : List Value) (N : Nat) (y : Nat → Nat → Int32) (l : Nat → Nat → Int64) (c : Nat), fk_at c 8 → fk_ev d qX11_check 55 L (.ref c :: st) (fk_E N y l) = fk_ev d qX11_check 58 L (.ref (fk_cr c 0) :: st) (fk_E N y l)) ∧
  (∀ (d : Nat) (a0 a1 a2 a4 : Value) (x : Int32) (st : List Value) (h : fk_H), fk_ev d qX11_check 58 [a0, a1, a2, .int x, a4] st h = fk_ev d qX11_check 59 [a0, a1, a2, .int x, a4] (.int x :: st) h) ∧
  (∀ (d : Nat) (L st : List Value) (N : Nat) (y : Nat → Nat → Int32) (l : Nat → Nat → Int64) (i : Nat), i < 64 → fk_ev d qX11_check 59 L (.int (nI i) :: .ref 34 :: st) (fk_E N y l) = fk_ev d qX11_check 60 L (.ref (34 + 2 + i) :: st) (fk_E N y l)) ∧
  (∀ (d : Nat) (L st : List Value) (N : Nat) (y : Nat → Nat → Int32) (l : Nat → Nat → Int64) (c : Nat), fk_at c 0 → fk_ev d qX11_check 60 L (.ref c :: st) (fk_E N y l) = fk_ev d qX11_check 63 L (.int (y c 5) :: st) (fk_E N y l)) ∧
  (∀ (d : Nat) (L st : List Value) (h : fk_H), fk_ev d qX11_check 63 L st h = fk_ev d qX11_check 67 L st h) ∧
  (∀ (d : Nat) (L st : List Value) (h : fk_H), fk_ev d qX11_check 66 L st h = fk_ev d qX11_check 67 L (.int (nI 0) :: st) h) ∧
  (∀ (d : Nat) (a0 a1 a2 a3 a4 : Value) (x : Int32) (st : List Value) (h : fk_H), fk_ev d qX11_check 67 [a0, a1, a2, a3, a4] (.int x :: st) h = fk_ev d qX11_check 69 [a0, a1, a2, a3, .int x] st h) ∧
  (∀ (d : Nat) (a1 a2 a3 a4 : Value) (x : Nat) (st : List Value) (h : fk_H), fk_ev d qX11_check 69 [.ref x, a1, a2, a3, a4] st h = fk_ev d qX11_check 70 [.ref x, a1, a2, a3, a4] (.ref x :: st) h) ∧
  (∀ (d : Nat) (L st : List Value) (N : Nat) (y : Nat → Nat → Int32) (l : Nat → Nat → Int64), fk_ev d qX11_check 70 L (.ref 1 :: st) (fk_E N y l) = fk_ev d qX11_check 73 L (.ref 26 :: st) (fk_E N y l)) ∧
  (∀ (d : Nat) (L st : List Value) (h : fk_H), fk_ev d qX11_check 73 L st h = fk_ev d qX11_check 74 L (.int (nI 4) :: st) h) ∧
  (∀ (d : Nat) (a0 a1 a2 a4 : Value) (x : Int32) (st : List Value) (h : fk_H), fk_ev d qX11_check 74 [a0, a1, a2, .int x, a4] st h = fk_ev d qX11_check 75 [a0, a1, a2, .int x, a4] (.int x :: st) h) ∧
  (∀ (d : Nat) (L : List Value) (x y : Int32) (st : List Value) (h : fk_H), fk_ev d qX11_check 75 L (.int y :: .int x :: st) h = fk_ev d qX11_check 76 L (.int (x * y) :: st) h) ∧
  (∀ (d : Nat) (L : List Value) (x0 : Int32)  (N : Nat) (y : Nat → Nat → Int32) (l : Nat → Nat → Int64), fk_ev (d + 1) qX11_check 76 L (.int x0 :: .ref 26 :: []) (fk_E N y l) = (fk_ev d qX10_numberAt 0 [.ref 26, .int x0, .null, .null] [] (fk_E N y l)).bind fun o => fk_ev (d + 1) qX11_check 79 L (o.1.toList ++ []) o.2) ∧
  (∀ (d : Nat) (a0 a1 a2 a3 : Value) (x : Int32) (st : List Value) (h : fk_H), fk_ev d qX11_check 79 [a0, a1, a2, a3, .int x] st h = fk_ev d qX11_check 81 [a0, a1, a2, a3, .int x] (.int x :: st) h) ∧
  (∀ (d : Nat) (L : List Value) (x y : Int32) (st : List Value) (h : fk_H), fk_ev d qX11_check 81 L (.int y :: .int x :: st) h = if x = y then fk_ev d qX11_check 86 L st h else fk_ev d qX11_check 84 L st h) ∧
  (∀ (d : Nat) (a0 a1 a2 a4 : Value) (x : Int32) (st : List Value) (h : fk_H), fk_ev d qX11_check 84 [a0, a1, a2, .int x, a4] st h = fk_ev d qX11_check 85 [a0, a1, a2, .int x, a4] (.int x :: st) h) ∧
  (∀ (d : Nat) (a0 a1 a2 a3 a4 : Value) (x : Int32) (st : List Value) (h : fk_H), fk_ev d qX11_check 85 [a0, a1, a2, a3, a4] (.int x :: st) h = fk_ev d qX11_check 86 [a0, a1, .int x, a3, a4] st h) ∧
  (∀ (d : Nat) (a0 a1 a2 a4 : Value) (x : Int32) (st : List Value) (h : fk_H), fk_ev d qX11_check 86 [a0, a1, a2, .int x, a4] st h = fk_ev d qX11_check 89 [a0, a1, a2, .int (x + nI 1), a4] st h) ∧
  (∀ (d : Nat) (L st : List Value) (h : fk_H), fk_ev d qX11_check 89 L st h = fk_ev d qX11_check 30 L st h) ∧
  (∀ (d : Nat) (a1 a2 a3 a4 : Value) (x : Nat) (st : List Value) (h : fk_H), fk_ev d qX11_check 92 [.ref x, a1, a2, a3, a4] st h = fk_ev d qX11_check 93 [.ref x, a1, a2, a3, a4] (.ref x :: st) h) ∧
  (∀ (d : Nat) (L st : List Value) (N : Nat) (y : Nat → Nat → Int32) (l : Nat → Nat → Int64), fk_ev d qX11_check 93 L (.ref 1 :: st) (fk_E N y l) = fk_ev d qX11_check 96 L (.ref 26 :: st) (fk_E N y l)) ∧
  (∀ (d : Nat) (L : List Value)   (N : Nat) (y : Nat → Nat → Int32) (l : Nat → Nat → Int64), fk_ev (d + 1) qX11_check 96 L (.ref 26 :: []) (fk_E N y l) = (fk_ev d qX10_clear 0 [.ref 26] [] (fk_E N y l)).bind fun o => fk_ev (d + 1) qX11_check 99 L (o.1.toList ++ []) o.2) ∧
  (∀ (d : Nat) (a0 a1 a3 a4 : Value) (x : Int32) (st : List Value) (h : fk_H), fk_ev d qX11_check 99 [a0, a1, .int x, a3, a4] st h = fk_ev d qX11_check 100 [a0, a1, .int x, a3, a4] (.int x :: st) h) ∧
  (∀ (d : Nat) (L : List Value) (x : Int32) (h : fk_H), fk_ev d qX11_check 100 L [.int x] h = some (some (.int x), h)) := ⟨fun d a0 a2 a3 a4 x st h => fk_w_iloadn 1 [a0, .int x, a2, a3, a4] dX11_check_0 rfl,
  fun d L x st h => fk_r_if_lt dX11_check_1 (by decide),
  fun d a0 a2 a3 a4 x st h => fk_w_iloadn 1 [a0, .int x, a2, a3, a4] dX11_check_4 rfl,
  fun d L st h => fk_w_bipush dX11_check_5 (by decide),
  fun d L x y st h => fk_r_icmp_gt dX11_check_7 (by decide),
  fun d L st h => fk_w_iconst dX11_check_10 (by decide),
  fun d a0 a2 a3 a4 x st h => fk_w_iloadn 1 [a0, .int x, a2, a3, a4] dX11_check_11 rfl,
  fun d L x y st h => fk_r_imul dX11_check_12,
  fun d a1 a2 a3 a4 x st h => fk_w_aloadn 0 [.ref x, a1, a2, a3, a4] dX11_check_13 rfl,
  fun d L st N y l => fk_g_getC rfl lf_11_33 (by decide) rfl dX11_check_14 fk_at_1,
  fun d L st N y l => fk_g_getI rfl lf_11_160 (by decide) dX11_check_17 fk_at_26,
  fun d L x y st h => fk_r_icmp_le dX11_check_20 (by decide),
  fun d L st h => fk_w_bipush dX11_check_23 (by decide),
  fun d L x h => fk_r_ret dX11_check_25 (Or.inl rfl),
  fun d L st h => fk_w_iconst dX11_check_26 (by decide),
  fun d a0 a1 a2 a3 a4 x st h => fk_w_istoren 2 5 [] [a0, a1, a2, a3, a4] [a0, a1, .int x, a3, a4] dX11_check_27 rfl rfl (by decide) rfl,
  fun d L st h => fk_w_iconst dX11_check_28 (by decide),
  fun d a0 a1 a2 a3 a4 x st h => fk_w_istoren 3 5 [] [a0, a1, a2, a3, a4] [a0, a1, a2, .int x, a4] dX11_check_29 rfl rfl (by decide) rfl,
  fun d a0 a2 a3 a4 x st h => fk_w_iloadn 1 [a0, .int x, a2, a3, a4] dX11_check_31 rfl,
  fun d L x y st h => fk_r_icmp_ge dX11_check_32 (by decide),
  fun d a0 a1 a3 a4 x st h => fk_w_iloadn 2 [a0, a1, .int x, a3, a4] dX11_check_35 rfl,
  fun d L st h => fk_w_iconst dX11_check_36 (by decide),
  fun d L x y st h => fk_r_icmp_ne dX11_check_37 (by decide),
  fun d a1 a2 a3 a4 x st h => fk_w_aloadn 0 [.ref x, a1, a2, a3, a4] dX11_check_40 rfl,
  fun d L st N y l => fk_g_getC rfl lf_11_58 (by decide) rfl dX11_check_41 fk_at_1,
  fun d a0 a1 a2 a4 x st h => fk_w_iloadn 3 [a0, a1, a2, .int x, a4] dX11_check_44 rfl,
  fun d L x0 N y l c hc => fk_g_call [.int x0] [] rfl lm_11_135 dX11_check_45 rfl ⟨rfl, by decide⟩ (by simp) hc,
  fun d L x st h => fk_r_if_eq dX11_check_48 (by decide),
  fun d a1 a2 a3 a4 x st h => fk_w_aloadn 0 [.ref x, a1, a2, a3, a4] dX11_check_51 rfl,
  fun d L st N y l => fk_g_getC rfl lf_11_58 (by decide) rfl dX11_check_52 fk_at_1,
  fun d L st N y l c hc => fk_g_getC rfl lf_11_139 (by decide) rfl dX11_check_55 hc,
  fun d a0 a1 a2 a4 x st h => fk_w_iloadn 3 [a0, a1, a2, .int x, a4] dX11_check_58 rfl,
  fun d L st N y l i hi => fk_h_aald dX11_check_59 fk_at_34 hi (by decide),
  fun d L st N y l c hc => fk_g_getI rfl lf_11_230 (by decide) dX11_check_60 hc,
  fun d L st h => fk_r_goto dX11_check_63 (by decide),
  fun d L st h => fk_w_iconst dX11_check_66 (by decide),
  fun d a0 a1 a2 a3 a4 x st h => fk_w_istore 4 5 [] [a0, a1, a2, a3, a4] [a0, a1, a2, a3, .int x] dX11_check_67 rfl rfl (by decide) rfl,
  fun d a1 a2 a3 a4 x st h => fk_w_aloadn 0 [.ref x, a1, a2, a3, a4] dX11_check_69 rfl,
  fun d L st N y l => fk_g_getC rfl lf_11_33 (by decide) rfl dX11_check_70 fk_at_1,
  fun d L st h => fk_w_iconst dX11_check_73 (by decide),
  fun d a0 a1 a2 a4 x st h => fk_w_iloadn 3 [a0, a1, a2, .int x, a4] dX11_check_74 rfl,
  fun d L x y st h => fk_r_imul dX11_check_75,
  fun d L x0 N y l  => fk_g_call [.int x0] [] rfl lm_11_377 dX11_check_76 rfl ⟨rfl, by decide⟩ (by simp) fk_at_26,
  fun d a0 a1 a2 a3 x st h => fk_w_iload 4 [a0, a1, a2, a3, .int x] dX11_check_79 rfl,
  fun d L x y st h => fk_r_icmp_eq dX11_check_81 (by decide),
  fun d a0 a1 a2 a4 x st h => fk_w_iloadn 3 [a0, a1, a2, .int x, a4] dX11_check_84 rfl,
  fun d a0 a1 a2 a3 a4 x st h => fk_w_istoren 2 5 [] [a0, a1, a2, a3, a4] [a0, a1, .int x, a3, a4] dX11_check_85 rfl rfl (by decide) rfl,
  fun d a0 a1 a2 a4 x st h => fk_w_iinc 3 5 (1) [] [a0, a1, a2, .int x, a4] [a0, a1, a2, .int (x + nI 1), a4] dX11_check_86 rfl rfl rfl (by decide) rfl,
  fun d L st h => fk_r_goto dX11_check_89 (by decide),
  fun d a1 a2 a3 a4 x st h => fk_w_aloadn 0 [.ref x, a1, a2, a3, a4] dX11_check_92 rfl,
  fun d L st N y l => fk_g_getC rfl lf_11_33 (by decide) rfl dX11_check_93 fk_at_1,
  fun d L  N y l  => fk_g_call [] [] rfl lm_11_167 dX11_check_96 rfl ⟨rfl, by decide⟩ (by simp) fk_at_26,
  fun d a0 a1 a3 a4 x st h => fk_w_iloadn 2 [a0, a1, .int x, a3, a4] dX11_check_99 rfl,
  fun d L x h => fk_r_ret dX11_check_100 (Or.inl rfl)⟩
theorem hX11_check_30 : ∀ (d : Nat) (a0 a1 a2 a4 : Value) (x : Int32) (st : List Value) (h : fk_H), fk_ev d qX11_check 30 [a0, a1, a2, .int x, a4] st h = fk_ev d qX11_check 31 [a0, a1, a2, .int x, a4] (.int x :: st) h := fun d a0 a1 a2 a4 x st h => fk_w_iloadn 3 [a0, a1, a2, .int x, a4] dX11_check_30 rfl
theorem dX11_count_0 : decode cX11_count 0 = .ok (.iload_n 1, 1) := by decide +kernel
theorem dX11_count_1 : decode cX11_count 1 = .ok (.tableswitch 135 0 9 #[55, 63, 71, 79, 87, 95, 103, 111, 119, 127], 55) := by decide +kernel
theorem dX11_count_56 : decode cX11_count 56 = .ok (.aload_n 0, 1) := by decide +kernel
theorem dX11_count_57 : decode cX11_count 57 = .ok (.getfield 58, 3) := by decide +kernel
theorem dX11_count_60 : decode cX11_count 60 = .ok (.getfield 380, 3) := by decide +kernel
theorem dX11_count_63 : decode cX11_count 63 = .ok (.ireturn, 1) := by decide +kernel
theorem dX11_count_64 : decode cX11_count 64 = .ok (.aload_n 0, 1) := by decide +kernel
theorem dX11_count_65 : decode cX11_count 65 = .ok (.getfield 58, 3) := by decide +kernel
theorem dX11_count_68 : decode cX11_count 68 = .ok (.getfield 127, 3) := by decide +kernel
theorem dX11_count_71 : decode cX11_count 71 = .ok (.ireturn, 1) := by decide +kernel
theorem dX11_count_72 : decode cX11_count 72 = .ok (.aload_n 0, 1) := by decide +kernel
theorem dX11_count_73 : decode cX11_count 73 = .ok (.getfield 58, 3) := by decide +kernel
theorem dX11_count_76 : decode cX11_count 76 = .ok (.invokevirtual 187, 3) := by decide +kernel
theorem dX11_count_79 : decode cX11_count 79 = .ok (.ireturn, 1) := by decide +kernel
theorem dX11_count_80 : decode cX11_count 80 = .ok (.aload_n 0, 1) := by decide +kernel
theorem dX11_count_81 : decode cX11_count 81 = .ok (.getfield 10, 3) := by decide +kernel
theorem dX11_count_84 : decode cX11_count 84 = .ok (.getfield 170, 3) := by decide +kernel
theorem dX11_count_87 : decode cX11_count 87 = .ok (.ireturn, 1) := by decide +kernel
theorem dX11_count_88 : decode cX11_count 88 = .ok (.aload_n 0, 1) := by decide +kernel
theorem dX11_count_89 : decode cX11_count 89 = .ok (.getfield 33, 3) := by decide +kernel
theorem dX11_count_92 : decode cX11_count 92 = .ok (.getfield 160, 3) := by decide +kernel
theorem dX11_count_95 : decode cX11_count 95 = .ok (.ireturn, 1) := by decide +kernel
theorem dX11_count_96 : decode cX11_count 96 = .ok (.aload_n 0, 1) := by decide +kernel
theorem dX11_count_97 : decode cX11_count 97 = .ok (.getfield 58, 3) := by decide +kernel
theorem dX11_count_100 : decode cX11_count 100 = .ok (.getfield 371, 3) := by decide +kernel
theorem dX11_count_103 : decode cX11_count 103 = .ok (.ireturn, 1) := by decide +kernel
theorem dX11_count_104 : decode cX11_count 104 = .ok (.aload_n 0, 1) := by decide +kernel
theorem dX11_count_105 : decode cX11_count 105 = .ok (.getfield 26, 3) := by decide +kernel
theorem dX11_count_108 : decode cX11_count 108 = .ok (.invokevirtual 383, 3) := by decide +kernel
theorem dX11_count_111 : decode cX11_count 111 = .ok (.ireturn, 1) := by decide +kernel
theorem dX11_count_112 : decode cX11_count 112 = .ok (.aload_n 0, 1) := by decide +kernel
theorem dX11_count_113 : decode cX11_count 113 = .ok (.getfield 58, 3) := by decide +kernel
theorem dX11_count_116 : decode cX11_count 116 = .ok (.getfield 209, 3) := by decide +kernel
theorem dX11_count_119 : decode cX11_count 119 = .ok (.ireturn, 1) := by decide +kernel
theorem dX11_count_120 : decode cX11_count 120 = .ok (.aload_n 0, 1) := by decide +kernel
theorem dX11_count_121 : decode cX11_count 121 = .ok (.getfield 58, 3) := by decide +kernel
theorem dX11_count_124 : decode cX11_count 124 = .ok (.getfield 206, 3) := by decide +kernel
theorem dX11_count_127 : decode cX11_count 127 = .ok (.ireturn, 1) := by decide +kernel
theorem dX11_count_128 : decode cX11_count 128 = .ok (.aload_n 0, 1) := by decide +kernel
theorem dX11_count_129 : decode cX11_count 129 = .ok (.getfield 58, 3) := by decide +kernel
theorem dX11_count_132 : decode cX11_count 132 = .ok (.getfield 203, 3) := by decide +kernel
theorem dX11_count_135 : decode cX11_count 135 = .ok (.ireturn, 1) := by decide +kernel
theorem dX11_count_136 : decode cX11_count 136 = .ok (.aload_n 0, 1) := by decide +kernel
theorem dX11_count_137 : decode cX11_count 137 = .ok (.getfield 26, 3) := by decide +kernel
theorem dX11_count_140 : decode cX11_count 140 = .ok (.iload_n 1, 1) := by decide +kernel
theorem dX11_count_141 : decode cX11_count 141 = .ok (.invokevirtual 386, 3) := by decide +kernel
theorem dX11_count_144 : decode cX11_count 144 = .ok (.ireturn, 1) := by decide +kernel
theorem rX11_count : (∀ (d : Nat) (a0 : Value) (x : Int32) (st : List Value) (h : fk_H), fk_ev d qX11_count 0 [a0, .int x] st h = fk_ev d qX11_count 1 [a0, .int x] (.int x :: st) h) ∧
  (∀ (d : Nat) (L st : List Value) (h : fk_H), fk_ev d qX11_count 1 L (.int (nI 0) :: st) h = fk_ev d qX11_count 56 L st h) ∧
  (∀ (d : Nat) (L st : List Value) (h : fk_H), fk_ev d qX11_count 1 L (.int (nI 1) :: st) h = fk_ev d qX11_count 64 L st h) ∧
  (∀ (d : Nat) (L st : List Value) (h : fk_H), fk_ev d qX11_count 1 L (.int (nI 2) :: st) h = fk_ev d qX11_count 72 L st h) ∧
  (∀ (d : Nat) (L st : List Value) (h : fk_H), fk_ev d qX11_count 1 L (.int (nI 3) :: st) h = fk_ev d qX11_count 80 L st h) ∧
  (∀ (d : Nat) (L st : List Value) (h : fk_H), fk_ev d qX11_count 1 L (.int (nI 4) :: st) h = fk_ev d qX11_count 88 L st h) ∧
  (∀ (d : Nat) (L st : List Value) (h : fk_H), fk_ev d qX11_count 1 L (.int (nI 5) :: st) h = fk_ev d qX11_count 96 L st h) ∧
  (∀ (d : Nat) (L st : List Value) (h : fk_H), fk_ev d qX11_count 1 L (.int (nI 6) :: st) h = fk_ev d qX11_count 104 L st h) ∧
  (∀ (d : Nat) (L st : List Value) (h : fk_H), fk_ev d qX11_count 1 L (.int (nI 7) :: st) h = fk_ev d qX11_count 112 L st h) ∧
  (∀ (d : Nat) (L st : List Value) (h : fk_H), fk_ev d qX11_count 1 L (.int (nI 8) :: st) h = fk_ev d qX11_count 120 L st h) ∧
  (∀ (d : Nat) (L st : List Value) (h : fk_H), fk_ev d qX11_count 1 L (.int (nI 9) :: st) h = fk_ev d qX11_count 128 L st h) ∧
  (∀ (d : Nat) (L : List Value) (x : Int32) (st : List Value) (h : fk_H), (x.toInt < 0 ∨ 9 < x.toInt) → fk_ev d qX11_count 1 L (.int x :: st) h = fk_ev d qX11_count 136 L st h) ∧
  (∀ (d : Nat) (a1 : Value) (x : Nat) (st : List Value) (h : fk_H), fk_ev d qX11_count 56 [.ref x, a1] st h = fk_ev d qX11_count 57 [.ref x, a1] (.ref x :: st) h) ∧
  (∀ (d : Nat) (L st : List Value) (N : Nat) (y : Nat → Nat → Int32) (l : Nat → Nat → Int64), fk_ev d qX11_count 57 L (.ref 1 :: st) (fk_E N y l) = fk_ev d qX11_count 60 L (.ref 33 :: st) (fk_E N y l)) ∧
  (∀ (d : Nat) (L st : List Value) (N : Nat) (y : Nat → Nat → Int32) (l : Nat → Nat → Int64) (c : Nat), fk_at c 8 → fk_ev d qX11_count 60 L (.ref c :: st) (fk_E N y l) = fk_ev d qX11_count 63 L (.int (y c 3) :: st) (fk_E N y l)) ∧
  (∀ (d : Nat) (L : List Value) (x : Int32) (h : fk_H), fk_ev d qX11_count 63 L [.int x] h = some (some (.int x), h)) ∧
  (∀ (d : Nat) (a1 : Value) (x : Nat) (st : List Value) (h : fk_H), fk_ev d qX11_count 64 [.ref x, a1] st h = fk_ev d qX11_count 65 [.ref x, a1] (.ref x :: st) h) ∧
  (∀ (d : Nat) (L st : List Value) (N : Nat) (y : Nat → Nat → Int32) (l : Nat → Nat → Int64), fk_ev d qX11_count 65 L (.ref 1 :: st) (fk_E N y l) = fk_ev d qX11_count 68 L (.ref 33 :: st) (fk_E N y l)) ∧
  (∀ (d : Nat) (L st : List Value) (N : Nat) (y : Nat → Nat → Int32) (l : Nat → Nat → Int64) (c : Nat), fk_at c 8 → fk_ev d qX11_count 68 L (.ref c :: st) (fk_E N y l) = fk_ev d qX11_count 71 L (.int (y c 2) :: st) (fk_E N y l)) ∧
  (∀ (d : Nat) (L : List Value) (x : Int32) (h : fk_H), fk_ev d qX11_count 71 L [.int x] h = some (some (.int x), h)) ∧
  (∀ (d : Nat) (a1 : Value) (x : Nat) (st : List Value) (h : fk_H), fk_ev d qX11_count 72 [.ref x, a1] st h = fk_ev d qX11_count 73 [.ref x, a1] (.ref x :: st) h) ∧
  (∀ (d : Nat) (L st : List Value) (N : Nat) (y : Nat → Nat → Int32) (l : Nat → Nat → Int64), fk_ev d qX11_count 73 L (.ref 1 :: st) (fk_E N y l) = fk_ev d qX11_count 76 L (.ref 33 :: st) (fk_E N y l)) ∧
  (∀ (d : Nat) (L : List Value)   (N : Nat) (y : Nat → Nat → Int32) (l : Nat → Nat → Int64) (c : Nat), fk_at c 8 → fk_ev (d + 1) qX11_count 76 L (.ref c :: []) (fk_E N y l) = (fk_ev d qX8_livingInAll 0 [.ref c] [] (fk_E N y l)).bind fun o => fk_ev (d + 1) qX11_count 79 L (o.1.toList ++ []) o.2) ∧
  (∀ (d : Nat) (L : List Value) (x : Int32) (h : fk_H), fk_ev d qX11_count 79 L [.int x] h = some (some (.int x), h)) ∧
  (∀ (d : Nat) (a1 : Value) (x : Nat) (st : List Value) (h : fk_H), fk_ev d qX11_count 80 [.ref x, a1] st h = fk_ev d qX11_count 81 [.ref x, a1] (.ref x :: st) h) ∧
  (∀ (d : Nat) (L st : List Value) (N : Nat) (y : Nat → Nat → Int32) (l : Nat → Nat → Int64), fk_ev d qX11_count 81 L (.ref 1 :: st) (fk_E N y l) = fk_ev d qX11_count 84 L (.ref (y 1 0).toNatClampNeg :: st) (fk_E N y l)) ∧
  (∀ (d : Nat) (L st : List Value) (N : Nat) (y : Nat → Nat → Int32) (l : Nat → Nat → Int64) (c : Nat), fk_at c 3 → fk_ev d qX11_count 84 L (.ref c :: st) (fk_E N y l) = fk_ev d qX11_count 87 L (.int (y c 8) :: st) (fk_E N y l)) ∧
  (∀ (d : Nat) (L : List Value) (x : Int32) (h : fk_H), fk_ev d qX11_count 87 L [.int x] h = some (some (.int x), h)) ∧
  (∀ (d : Nat) (a1 : Value) (x : Nat) (st : List Value) (h : fk_H), fk_ev d qX11_count 88 [.ref x, a1] st h = fk_ev d qX11_count 89 [.ref x, a1] (.ref x :: st) h) ∧
  (∀ (d : Nat) (L st : List Value) (N : Nat) (y : Nat → Nat → Int32) (l : Nat → Nat → Int64), fk_ev d qX11_count 89 L (.ref 1 :: st) (fk_E N y l) = fk_ev d qX11_count 92 L (.ref 26 :: st) (fk_E N y l)) ∧
  (∀ (d : Nat) (L st : List Value) (N : Nat) (y : Nat → Nat → Int32) (l : Nat → Nat → Int64), fk_ev d qX11_count 92 L (.ref 26 :: st) (fk_E N y l) = fk_ev d qX11_count 95 L (.int (y 26 1) :: st) (fk_E N y l)) ∧
  (∀ (d : Nat) (L : List Value) (x : Int32) (h : fk_H), fk_ev d qX11_count 95 L [.int x] h = some (some (.int x), h)) ∧
  (∀ (d : Nat) (a1 : Value) (x : Nat) (st : List Value) (h : fk_H), fk_ev d qX11_count 96 [.ref x, a1] st h = fk_ev d qX11_count 97 [.ref x, a1] (.ref x :: st) h) ∧
  (∀ (d : Nat) (L st : List Value) (N : Nat) (y : Nat → Nat → Int32) (l : Nat → Nat → Int64), fk_ev d qX11_count 97 L (.ref 1 :: st) (fk_E N y l) = fk_ev d qX11_count 100 L (.ref 33 :: st) (fk_E N y l)) ∧
  (∀ (d : Nat) (L st : List Value) (N : Nat) (y : Nat → Nat → Int32) (l : Nat → Nat → Int64) (c : Nat), fk_at c 8 → fk_ev d qX11_count 100 L (.ref c :: st) (fk_E N y l) = fk_ev d qX11_count 103 L (.int (y c 4) :: st) (fk_E N y l)) ∧
  (∀ (d : Nat) (L : List Value) (x : Int32) (h : fk_H), fk_ev d qX11_count 103 L [.int x] h = some (some (.int x), h)) ∧
  (∀ (d : Nat) (a1 : Value) (x : Nat) (st : List Value) (h : fk_H), fk_ev d qX11_count 104 [.ref x, a1] st h = fk_ev d qX11_count 105 [.ref x, a1] (.ref x :: st) h) ∧
  (∀ (d : Nat) (L st : List Value) (N : Nat) (y : Nat → Nat → Int32) (l : Nat → Nat → Int64), fk_ev d qX11_count 105 L (.ref 1 :: st) (fk_E N y l) = fk_ev d qX11_count 108 L (.ref 18 :: st) (fk_E N y l)) ∧
  (∀ (d : Nat) (L : List Value)   (N : Nat) (y : Nat → Nat → Int32) (l : Nat → Nat → Int64), fk_ev (d + 1) qX11_count 108 L (.ref 18 :: []) (fk_E N y l) = (fk_ev d qX5_toldRoads 0 [.ref 18, .null, .null] [] (fk_E N y l)).bind fun o => fk_ev (d + 1) qX11_count 111 L (o.1.toList ++ []) o.2) ∧
  (∀ (d : Nat) (L : List Value) (x : Int32) (h : fk_H), fk_ev d qX11_count 111 L [.int x] h = some (some (.int x), h)) ∧
  (∀ (d : Nat) (a1 : Value) (x : Nat) (st : List Value) (h : fk_H), fk_ev d qX11_count 112 [.ref x, a1] st h = fk_ev d qX11_count 113 [.ref x, a1] (.ref x :: st) h) ∧
  (∀ (d : Nat) (L st : List Value) (N : Nat) (y : Nat → Nat → Int32) (l : Nat → Nat → Int64), fk_ev d qX11_count 113 L (.ref 1 :: st) (fk_E N y l) = fk_ev d qX11_count 116 L (.ref 33 :: st) (fk_E N y l)) ∧
  (∀ (d : Nat) (L st : List Value) (N : Nat) (y : Nat → Nat → Int32) (l : Nat → Nat → Int64) (c : Nat), fk_at c 8 → fk_ev d qX11_count 116 L (.ref c :: st) (fk_E N y l) = fk_ev d qX11_count 119 L (.int (y c 8) :: st) (fk_E N y l)) ∧
  (∀ (d : Nat) (L : List Value) (x : Int32) (h : fk_H), fk_ev d qX11_count 119 L [.int x] h = some (some (.int x), h)) ∧
  (∀ (d : Nat) (a1 : Value) (x : Nat) (st : List Value) (h : fk_H), fk_ev d qX11_count 120 [.ref x, a1] st h = fk_ev d qX11_count 121 [.ref x, a1] (.ref x :: st) h) ∧
  (∀ (d : Nat) (L st : List Value) (N : Nat) (y : Nat → Nat → Int32) (l : Nat → Nat → Int64), fk_ev d qX11_count 121 L (.ref 1 :: st) (fk_E N y l) = fk_ev d qX11_count 124 L (.ref 33 :: st) (fk_E N y l)) ∧
  (∀ (d : Nat) (L st : List Value) (N : Nat) (y : Nat → Nat → Int32) (l : Nat → Nat → Int64) (c : Nat), fk_at c 8 → fk_ev d qX11_count 124 L (.ref c :: st) (fk_E N y l) = fk_ev d qX11_count 127 L (.int (y c 7) :: st) (fk_E N y l)) ∧
  (∀ (d : Nat) (L : List Value) (x : Int32) (h : fk_H), fk_ev d qX11_count 127 L [.int x] h = some (some (.int x), h)) ∧
  (∀ (d : Nat) (a1 : Value) (x : Nat) (st : List Value) (h : fk_H), fk_ev d qX11_count 128 [.ref x, a1] st h = fk_ev d qX11_count 129 [.ref x, a1] (.ref x :: st) h) ∧
  (∀ (d : Nat) (L st : List Value) (N : Nat) (y : Nat → Nat → Int32) (l : Nat → Nat → Int64), fk_ev d qX11_count 129 L (.ref 1 :: st) (fk_E N y l) = fk_ev d qX11_count 132 L (.ref 33 :: st) (fk_E N y l)) ∧
  (∀ (d : Nat) (L st : List Value) (N : Nat) (y : Nat → Nat → Int32) (l : Nat → Nat → Int64) (c : Nat), fk_at c 8 → fk_ev d qX11_count 132 L (.ref c :: st) (fk_E N y l) = fk_ev d qX11_count 135 L (.int (y c 6) :: st) (fk_E N y l)) ∧
  (∀ (d : Nat) (L : List Value) (x : Int32) (h : fk_H), fk_ev d qX11_count 135 L [.int x] h = some (some (.int x), h)) ∧
  (∀ (d : Nat) (a1 : Value) (x : Nat) (st : List Value) (h : fk_H), fk_ev d qX11_count 136 [.ref x, a1] st h = fk_ev d qX11_count 137 [.ref x, a1] (.ref x :: st) h) ∧
  (∀ (d : Nat) (L st : List Value) (N : Nat) (y : Nat → Nat → Int32) (l : Nat → Nat → Int64), fk_ev d qX11_count 137 L (.ref 1 :: st) (fk_E N y l) = fk_ev d qX11_count 140 L (.ref 18 :: st) (fk_E N y l)) ∧
  (∀ (d : Nat) (a0 : Value) (x : Int32) (st : List Value) (h : fk_H), fk_ev d qX11_count 140 [a0, .int x] st h = fk_ev d qX11_count 141 [a0, .int x] (.int x :: st) h) ∧
  (∀ (d : Nat) (L : List Value) (x0 : Int32)  (N : Nat) (y : Nat → Nat → Int32) (l : Nat → Nat → Int64), fk_ev (d + 1) qX11_count 141 L (.int x0 :: .ref 18 :: []) (fk_E N y l) = (fk_ev d qX5_tell 0 [.ref 18, .int x0, .null] [] (fk_E N y l)).bind fun o => fk_ev (d + 1) qX11_count 144 L (o.1.toList ++ []) o.2) ∧
  (∀ (d : Nat) (L : List Value) (x : Int32) (h : fk_H), fk_ev d qX11_count 144 L [.int x] h = some (some (.int x), h)) := ⟨fun d a0 x st h => fk_w_iloadn 1 [a0, .int x] dX11_count_0 rfl,
  fun d L st h => fk_w_tab (0) (off := 55) dX11_count_1 (by decide) (by decide) (by decide) (by decide),
  fun d L st h => fk_w_tab (1) (off := 63) dX11_count_1 (by decide) (by decide) (by decide) (by decide),
  fun d L st h => fk_w_tab (2) (off := 71) dX11_count_1 (by decide) (by decide) (by decide) (by decide),
  fun d L st h => fk_w_tab (3) (off := 79) dX11_count_1 (by decide) (by decide) (by decide) (by decide),
  fun d L st h => fk_w_tab (4) (off := 87) dX11_count_1 (by decide) (by decide) (by decide) (by decide),
  fun d L st h => fk_w_tab (5) (off := 95) dX11_count_1 (by decide) (by decide) (by decide) (by decide),
  fun d L st h => fk_w_tab (6) (off := 103) dX11_count_1 (by decide) (by decide) (by decide) (by decide),
  fun d L st h => fk_w_tab (7) (off := 111) dX11_count_1 (by decide) (by decide) (by decide) (by decide),
  fun d L st h => fk_w_tab (8) (off := 119) dX11_count_1 (by decide) (by decide) (by decide) (by decide),
  fun d L st h => fk_w_tab (9) (off := 127) dX11_count_1 (by decide) (by decide) (by decide) (by decide),
  fun d L x st h hx => fk_w_tabo dX11_count_1 hx (by decide),
  fun d a1 x st h => fk_w_aloadn 0 [.ref x, a1] dX11_count_56 rfl,
  fun d L st N y l => fk_g_getC rfl lf_11_58 (by decide) rfl dX11_count_57 fk_at_1,
  fun d L st N y l c hc => fk_g_getI rfl lf_11_380 (by decide) dX11_count_60 hc,
  fun d L x h => fk_r_ret dX11_count_63 (Or.inl rfl),
  fun d a1 x st h => fk_w_aloadn 0 [.ref x, a1] dX11_count_64 rfl,
  fun d L st N y l => fk_g_getC rfl lf_11_58 (by decide) rfl dX11_count_65 fk_at_1,
  fun d L st N y l c hc => fk_g_getI rfl lf_11_127 (by decide) dX11_count_68 hc,
  fun d L x h => fk_r_ret dX11_count_71 (Or.inl rfl),
  fun d a1 x st h => fk_w_aloadn 0 [.ref x, a1] dX11_count_72 rfl,
  fun d L st N y l => fk_g_getC rfl lf_11_58 (by decide) rfl dX11_count_73 fk_at_1,
  fun d L  N y l c hc => fk_g_call [] [] rfl lm_11_187 dX11_count_76 rfl ⟨rfl, by decide⟩ (by simp) hc,
  fun d L x h => fk_r_ret dX11_count_79 (Or.inl rfl),
  fun d a1 x st h => fk_w_aloadn 0 [.ref x, a1] dX11_count_80 rfl,
  fun d L st N y l => fk_g_getM rfl lf_11_10 (by decide) dX11_count_81 fk_at_1,
  fun d L st N y l c hc => fk_g_getI rfl lf_11_170 (by decide) dX11_count_84 hc,
  fun d L x h => fk_r_ret dX11_count_87 (Or.inl rfl),
  fun d a1 x st h => fk_w_aloadn 0 [.ref x, a1] dX11_count_88 rfl,
  fun d L st N y l => fk_g_getC rfl lf_11_33 (by decide) rfl dX11_count_89 fk_at_1,
  fun d L st N y l => fk_g_getI rfl lf_11_160 (by decide) dX11_count_92 fk_at_26,
  fun d L x h => fk_r_ret dX11_count_95 (Or.inl rfl),
  fun d a1 x st h => fk_w_aloadn 0 [.ref x, a1] dX11_count_96 rfl,
  fun d L st N y l => fk_g_getC rfl lf_11_58 (by decide) rfl dX11_count_97 fk_at_1,
  fun d L st N y l c hc => fk_g_getI rfl lf_11_371 (by decide) dX11_count_100 hc,
  fun d L x h => fk_r_ret dX11_count_103 (Or.inl rfl),
  fun d a1 x st h => fk_w_aloadn 0 [.ref x, a1] dX11_count_104 rfl,
  fun d L st N y l => fk_g_getC rfl lf_11_26 (by decide) rfl dX11_count_105 fk_at_1,
  fun d L  N y l  => fk_g_call [] [] rfl lm_11_383 dX11_count_108 rfl ⟨rfl, by decide⟩ (by simp) fk_at_18,
  fun d L x h => fk_r_ret dX11_count_111 (Or.inl rfl),
  fun d a1 x st h => fk_w_aloadn 0 [.ref x, a1] dX11_count_112 rfl,
  fun d L st N y l => fk_g_getC rfl lf_11_58 (by decide) rfl dX11_count_113 fk_at_1,
  fun d L st N y l c hc => fk_g_getI rfl lf_11_209 (by decide) dX11_count_116 hc,
  fun d L x h => fk_r_ret dX11_count_119 (Or.inl rfl),
  fun d a1 x st h => fk_w_aloadn 0 [.ref x, a1] dX11_count_120 rfl,
  fun d L st N y l => fk_g_getC rfl lf_11_58 (by decide) rfl dX11_count_121 fk_at_1,
  fun d L st N y l c hc => fk_g_getI rfl lf_11_206 (by decide) dX11_count_124 hc,
  fun d L x h => fk_r_ret dX11_count_127 (Or.inl rfl),
  fun d a1 x st h => fk_w_aloadn 0 [.ref x, a1] dX11_count_128 rfl,
  fun d L st N y l => fk_g_getC rfl lf_11_58 (by decide) rfl dX11_count_129 fk_at_1,
  fun d L st N y l c hc => fk_g_getI rfl lf_11_203 (by decide) dX11_count_132 hc,
  fun d L x h => fk_r_ret dX11_count_135 (Or.inl rfl),
  fun d a1 x st h => fk_w_aloadn 0 [.ref x, a1] dX11_count_136 rfl,
  fun d L st N y l => fk_g_getC rfl lf_11_26 (by decide) rfl dX11_count_137 fk_at_1,
  fun d a0 x st h => fk_w_iloadn 1 [a0, .int x] dX11_count_140 rfl,
  fun d L x0 N y l  => fk_g_call [.int x0] [] rfl lm_11_386 dX11_count_141 rfl ⟨rfl, by decide⟩ (by simp) fk_at_18,
  fun d L x h => fk_r_ret dX11_count_144 (Or.inl rfl)⟩
theorem dX11_within_0 : decode cX11_within 0 = .ok (.iload_n 0, 1) := by decide +kernel
theorem dX11_within_1 : decode cX11_within 1 = .ok (.ifCond .lt 12, 3) := by decide +kernel
theorem dX11_within_4 : decode cX11_within 4 = .ok (.iload_n 0, 1) := by decide +kernel
theorem dX11_within_5 : decode cX11_within 5 = .ok (.iload_n 1, 1) := by decide +kernel
theorem dX11_within_6 : decode cX11_within 6 = .ok (.if_icmp .ge 7, 3) := by decide +kernel
theorem dX11_within_9 : decode cX11_within 9 = .ok (.iconst 1, 1) := by decide +kernel
theorem dX11_within_10 : decode cX11_within 10 = .ok (.goto 4, 3) := by decide +kernel
theorem dX11_within_13 : decode cX11_within 13 = .ok (.iconst 0, 1) := by decide +kernel
theorem dX11_within_14 : decode cX11_within 14 = .ok (.ireturn, 1) := by decide +kernel
theorem rX11_within : (∀ (d : Nat) (a1 : Value) (x : Int32) (st : List Value) (h : fk_H), fk_ev d qX11_within 0 [.int x, a1] st h = fk_ev d qX11_within 1 [.int x, a1] (.int x :: st) h) ∧
  (∀ (d : Nat) (L : List Value) (x : Int32) (st : List Value) (h : fk_H), fk_ev d qX11_within 1 L (.int x :: st) h = if x < nI 0 then fk_ev d qX11_within 13 L st h else fk_ev d qX11_within 4 L st h) ∧
  (∀ (d : Nat) (a1 : Value) (x : Int32) (st : List Value) (h : fk_H), fk_ev d qX11_within 4 [.int x, a1] st h = fk_ev d qX11_within 5 [.int x, a1] (.int x :: st) h) ∧
  (∀ (d : Nat) (a0 : Value) (x : Int32) (st : List Value) (h : fk_H), fk_ev d qX11_within 5 [a0, .int x] st h = fk_ev d qX11_within 6 [a0, .int x] (.int x :: st) h) ∧
  (∀ (d : Nat) (L : List Value) (x y : Int32) (st : List Value) (h : fk_H), fk_ev d qX11_within 6 L (.int y :: .int x :: st) h = if y ≤ x then fk_ev d qX11_within 13 L st h else fk_ev d qX11_within 9 L st h) ∧
  (∀ (d : Nat) (L st : List Value) (h : fk_H), fk_ev d qX11_within 9 L st h = fk_ev d qX11_within 10 L (.int (nI 1) :: st) h) ∧
  (∀ (d : Nat) (L st : List Value) (h : fk_H), fk_ev d qX11_within 10 L st h = fk_ev d qX11_within 14 L st h) ∧
  (∀ (d : Nat) (L st : List Value) (h : fk_H), fk_ev d qX11_within 13 L st h = fk_ev d qX11_within 14 L (.int (nI 0) :: st) h) ∧
  (∀ (d : Nat) (L : List Value) (h : fk_H), fk_ev d qX11_within 14 L [.int (nI 0)] h = some (some (.int (nI 0)), h)) ∧
  (∀ (d : Nat) (L : List Value) (h : fk_H), fk_ev d qX11_within 14 L [.int (nI 1)] h = some (some (.int (nI 1)), h)) ∧
  (∀ (d : Nat) (L : List Value) (p : Prop) [Decidable p] (h : fk_H), fk_ev d qX11_within 14 L [.int (fk_b p)] h = some (some (.int (fk_b p)), h)) ∧
  (∀ (d : Nat) (L : List Value) (x : Int32) (h : fk_H), (x = nI 0 ∨ x = nI 1) → fk_ev d qX11_within 14 L [.int x] h = some (some (.int x), h)) := ⟨fun d a1 x st h => fk_w_iloadn 0 [.int x, a1] dX11_within_0 rfl,
  fun d L x st h => fk_r_if_lt dX11_within_1 (by decide),
  fun d a1 x st h => fk_w_iloadn 0 [.int x, a1] dX11_within_4 rfl,
  fun d a0 x st h => fk_w_iloadn 1 [a0, .int x] dX11_within_5 rfl,
  fun d L x y st h => fk_r_icmp_ge dX11_within_6 (by decide),
  fun d L st h => fk_w_iconst dX11_within_9 (by decide),
  fun d L st h => fk_r_goto dX11_within_10 (by decide),
  fun d L st h => fk_w_iconst dX11_within_13 (by decide),
  fun d L h => fk_r_ret dX11_within_14 (Or.inr (Or.inl ⟨rfl, by decide⟩)),
  fun d L h => fk_r_ret dX11_within_14 (Or.inr (Or.inl ⟨rfl, by decide⟩)),
  fun d L p _ h => fk_r_ret dX11_within_14 (Or.inr (Or.inl ⟨rfl, fk_b_01⟩)),
  fun d L x h hx => fk_r_ret dX11_within_14 (Or.inr (Or.inl ⟨rfl, hx⟩))⟩
theorem dX11_faultAt_0 : decode cX11_faultAt 0 = .ok (.sipush (-1000), 3) := by decide +kernel
theorem dX11_faultAt_3 : decode cX11_faultAt 3 = .ok (.iload_n 0, 1) := by decide +kernel
theorem dX11_faultAt_4 : decode cX11_faultAt 4 = .ok (.imul, 1) := by decide +kernel
theorem dX11_faultAt_5 : decode cX11_faultAt 5 = .ok (.iload_n 1, 1) := by decide +kernel
theorem dX11_faultAt_6 : decode cX11_faultAt 6 = .ok (.isub, 1) := by decide +kernel
theorem dX11_faultAt_7 : decode cX11_faultAt 7 = .ok (.ireturn, 1) := by decide +kernel
theorem rX11_faultAt : (∀ (d : Nat) (L st : List Value) (h : fk_H), fk_ev d qX11_faultAt 0 L st h = fk_ev d qX11_faultAt 3 L (.int ((-1000 : Int32)) :: st) h) ∧
  (∀ (d : Nat) (a1 : Value) (x : Int32) (st : List Value) (h : fk_H), fk_ev d qX11_faultAt 3 [.int x, a1] st h = fk_ev d qX11_faultAt 4 [.int x, a1] (.int x :: st) h) ∧
  (∀ (d : Nat) (L : List Value) (x y : Int32) (st : List Value) (h : fk_H), fk_ev d qX11_faultAt 4 L (.int y :: .int x :: st) h = fk_ev d qX11_faultAt 5 L (.int (x * y) :: st) h) ∧
  (∀ (d : Nat) (a0 : Value) (x : Int32) (st : List Value) (h : fk_H), fk_ev d qX11_faultAt 5 [a0, .int x] st h = fk_ev d qX11_faultAt 6 [a0, .int x] (.int x :: st) h) ∧
  (∀ (d : Nat) (L : List Value) (x y : Int32) (st : List Value) (h : fk_H), fk_ev d qX11_faultAt 6 L (.int y :: .int x :: st) h = fk_ev d qX11_faultAt 7 L (.int (x - y) :: st) h) ∧
  (∀ (d : Nat) (L : List Value) (x : Int32) (h : fk_H), fk_ev d qX11_faultAt 7 L [.int x] h = some (some (.int x), h)) := ⟨fun d L st h => fk_w_sipush dX11_faultAt_0 (by decide),
  fun d a1 x st h => fk_w_iloadn 0 [.int x, a1] dX11_faultAt_3 rfl,
  fun d L x y st h => fk_r_imul dX11_faultAt_4,
  fun d a0 x st h => fk_w_iloadn 1 [a0, .int x] dX11_faultAt_5 rfl,
  fun d L x y st h => fk_r_isub dX11_faultAt_6,
  fun d L x h => fk_r_ret dX11_faultAt_7 (Or.inl rfl)⟩
theorem dX11_canPass_0 : decode cX11_canPass 0 = .ok (.iload_n 1, 1) := by decide +kernel
theorem dX11_canPass_1 : decode cX11_canPass 1 = .ok (.iconst 1, 1) := by decide +kernel
theorem dX11_canPass_2 : decode cX11_canPass 2 = .ok (.if_icmp .lt 28, 3) := by decide +kernel
theorem dX11_canPass_5 : decode cX11_canPass 5 = .ok (.iload_n 1, 1) := by decide +kernel
theorem dX11_canPass_6 : decode cX11_canPass 6 = .ok (.bipush 48, 2) := by decide +kernel
theorem dX11_canPass_8 : decode cX11_canPass 8 = .ok (.if_icmp .gt 22, 3) := by decide +kernel
theorem dX11_canPass_11 : decode cX11_canPass 11 = .ok (.aload_n 0, 1) := by decide +kernel
theorem dX11_canPass_12 : decode cX11_canPass 12 = .ok (.getfield 58, 3) := by decide +kernel
theorem dX11_canPass_15 : decode cX11_canPass 15 = .ok (.getfield 380, 3) := by decide +kernel
theorem dX11_canPass_18 : decode cX11_canPass 18 = .ok (.iload_n 1, 1) := by decide +kernel
theorem dX11_canPass_19 : decode cX11_canPass 19 = .ok (.iadd, 1) := by decide +kernel
theorem dX11_canPass_20 : decode cX11_canPass 20 = .ok (.sipush 999, 3) := by decide +kernel
theorem dX11_canPass_23 : decode cX11_canPass 23 = .ok (.if_icmp .gt 7, 3) := by decide +kernel
theorem dX11_canPass_26 : decode cX11_canPass 26 = .ok (.iconst 1, 1) := by decide +kernel
theorem dX11_canPass_27 : decode cX11_canPass 27 = .ok (.goto 4, 3) := by decide +kernel
theorem dX11_canPass_30 : decode cX11_canPass 30 = .ok (.iconst 0, 1) := by decide +kernel
theorem dX11_canPass_31 : decode cX11_canPass 31 = .ok (.ireturn, 1) := by decide +kernel
theorem rX11_canPass : (∀ (d : Nat) (a0 : Value) (x : Int32) (st : List Value) (h : fk_H), fk_ev d qX11_canPass 0 [a0, .int x] st h = fk_ev d qX11_canPass 1 [a0, .int x] (.int x :: st) h) ∧
  (∀ (d : Nat) (L st : List Value) (h : fk_H), fk_ev d qX11_canPass 1 L st h = fk_ev d qX11_canPass 2 L (.int (nI 1) :: st) h) ∧
  (∀ (d : Nat) (L : List Value) (x y : Int32) (st : List Value) (h : fk_H), fk_ev d qX11_canPass 2 L (.int y :: .int x :: st) h = if x < y then fk_ev d qX11_canPass 30 L st h else fk_ev d qX11_canPass 5 L st h) ∧
  (∀ (d : Nat) (a0 : Value) (x : Int32) (st : List Value) (h : fk_H), fk_ev d qX11_canPass 5 [a0, .int x] st h = fk_ev d qX11_canPass 6 [a0, .int x] (.int x :: st) h) ∧
  (∀ (d : Nat) (L st : List Value) (h : fk_H), fk_ev d qX11_canPass 6 L st h = fk_ev d qX11_canPass 8 L (.int (nI 48) :: st) h) ∧
  (∀ (d : Nat) (L : List Value) (x y : Int32) (st : List Value) (h : fk_H), fk_ev d qX11_canPass 8 L (.int y :: .int x :: st) h = if y < x then fk_ev d qX11_canPass 30 L st h else fk_ev d qX11_canPass 11 L st h) ∧
  (∀ (d : Nat) (a1 : Value) (x : Nat) (st : List Value) (h : fk_H), fk_ev d qX11_canPass 11 [.ref x, a1] st h = fk_ev d qX11_canPass 12 [.ref x, a1] (.ref x :: st) h) ∧
  (∀ (d : Nat) (L st : List Value) (N : Nat) (y : Nat → Nat → Int32) (l : Nat → Nat → Int64), fk_ev d qX11_canPass 12 L (.ref 1 :: st) (fk_E N y l) = fk_ev d qX11_canPass 15 L (.ref 33 :: st) (fk_E N y l)) ∧
  (∀ (d : Nat) (L st : List Value) (N : Nat) (y : Nat → Nat → Int32) (l : Nat → Nat → Int64) (c : Nat), fk_at c 8 → fk_ev d qX11_canPass 15 L (.ref c :: st) (fk_E N y l) = fk_ev d qX11_canPass 18 L (.int (y c 3) :: st) (fk_E N y l)) ∧
  (∀ (d : Nat) (a0 : Value) (x : Int32) (st : List Value) (h : fk_H), fk_ev d qX11_canPass 18 [a0, .int x] st h = fk_ev d qX11_canPass 19 [a0, .int x] (.int x :: st) h) ∧
  (∀ (d : Nat) (L : List Value) (x y : Int32) (st : List Value) (h : fk_H), fk_ev d qX11_canPass 19 L (.int y :: .int x :: st) h = fk_ev d qX11_canPass 20 L (.int (x + y) :: st) h) ∧
  (∀ (d : Nat) (L st : List Value) (h : fk_H), fk_ev d qX11_canPass 20 L st h = fk_ev d qX11_canPass 23 L (.int (nI 999) :: st) h) ∧
  (∀ (d : Nat) (L : List Value) (x y : Int32) (st : List Value) (h : fk_H), fk_ev d qX11_canPass 23 L (.int y :: .int x :: st) h = if y < x then fk_ev d qX11_canPass 30 L st h else fk_ev d qX11_canPass 26 L st h) ∧
  (∀ (d : Nat) (L st : List Value) (h : fk_H), fk_ev d qX11_canPass 26 L st h = fk_ev d qX11_canPass 27 L (.int (nI 1) :: st) h) ∧
  (∀ (d : Nat) (L st : List Value) (h : fk_H), fk_ev d qX11_canPass 27 L st h = fk_ev d qX11_canPass 31 L st h) ∧
  (∀ (d : Nat) (L st : List Value) (h : fk_H), fk_ev d qX11_canPass 30 L st h = fk_ev d qX11_canPass 31 L (.int (nI 0) :: st) h) ∧
  (∀ (d : Nat) (L : List Value) (h : fk_H), fk_ev d qX11_canPass 31 L [.int (nI 0)] h = some (some (.int (nI 0)), h)) ∧
  (∀ (d : Nat) (L : List Value) (h : fk_H), fk_ev d qX11_canPass 31 L [.int (nI 1)] h = some (some (.int (nI 1)), h)) ∧
  (∀ (d : Nat) (L : List Value) (p : Prop) [Decidable p] (h : fk_H), fk_ev d qX11_canPass 31 L [.int (fk_b p)] h = some (some (.int (fk_b p)), h)) ∧
  (∀ (d : Nat) (L : List Value) (x : Int32) (h : fk_H), (x = nI 0 ∨ x = nI 1) → fk_ev d qX11_canPass 31 L [.int x] h = some (some (.int x), h)) := ⟨fun d a0 x st h => fk_w_iloadn 1 [a0, .int x] dX11_canPass_0 rfl,
  fun d L st h => fk_w_iconst dX11_canPass_1 (by decide),
  fun d L x y st h => fk_r_icmp_lt dX11_canPass_2 (by decide),
  fun d a0 x st h => fk_w_iloadn 1 [a0, .int x] dX11_canPass_5 rfl,
  fun d L st h => fk_w_bipush dX11_canPass_6 (by decide),
  fun d L x y st h => fk_r_icmp_gt dX11_canPass_8 (by decide),
  fun d a1 x st h => fk_w_aloadn 0 [.ref x, a1] dX11_canPass_11 rfl,
  fun d L st N y l => fk_g_getC rfl lf_11_58 (by decide) rfl dX11_canPass_12 fk_at_1,
  fun d L st N y l c hc => fk_g_getI rfl lf_11_380 (by decide) dX11_canPass_15 hc,
  fun d a0 x st h => fk_w_iloadn 1 [a0, .int x] dX11_canPass_18 rfl,
  fun d L x y st h => fk_r_iadd dX11_canPass_19,
  fun d L st h => fk_w_sipush dX11_canPass_20 (by decide),
  fun d L x y st h => fk_r_icmp_gt dX11_canPass_23 (by decide),
  fun d L st h => fk_w_iconst dX11_canPass_26 (by decide),
  fun d L st h => fk_r_goto dX11_canPass_27 (by decide),
  fun d L st h => fk_w_iconst dX11_canPass_30 (by decide),
  fun d L h => fk_r_ret dX11_canPass_31 (Or.inr (Or.inl ⟨rfl, by decide⟩)),
  fun d L h => fk_r_ret dX11_canPass_31 (Or.inr (Or.inl ⟨rfl, by decide⟩)),
  fun d L p _ h => fk_r_ret dX11_canPass_31 (Or.inr (Or.inl ⟨rfl, fk_b_01⟩)),
  fun d L x h hx => fk_r_ret dX11_canPass_31 (Or.inr (Or.inl ⟨rfl, hx⟩))⟩
theorem dX11_isTriable_0 : decode cX11_isTriable 0 = .ok (.iload_n 0, 1) := by decide +kernel
theorem dX11_isTriable_1 : decode cX11_isTriable 1 = .ok (.iconst 5, 1) := by decide +kernel
theorem dX11_isTriable_2 : decode cX11_isTriable 2 = .ok (.invokestatic 110, 3) := by decide +kernel
theorem dX11_isTriable_5 : decode cX11_isTriable 5 = .ok (.ifCond .ne 23, 3) := by decide +kernel
theorem dX11_isTriable_8 : decode cX11_isTriable 8 = .ok (.iload_n 0, 1) := by decide +kernel
theorem dX11_isTriable_9 : decode cX11_isTriable 9 = .ok (.bipush 10, 2) := by decide +kernel
theorem dX11_isTriable_11 : decode cX11_isTriable 11 = .ok (.if_icmp .lt 21, 3) := by decide +kernel
theorem dX11_isTriable_14 : decode cX11_isTriable 14 = .ok (.iload_n 0, 1) := by decide +kernel
theorem dX11_isTriable_15 : decode cX11_isTriable 15 = .ok (.bipush 40, 2) := by decide +kernel
theorem dX11_isTriable_17 : decode cX11_isTriable 17 = .ok (.if_icmp .ge 15, 3) := by decide +kernel
theorem dX11_isTriable_20 : decode cX11_isTriable 20 = .ok (.iload_n 0, 1) := by decide +kernel
theorem dX11_isTriable_21 : decode cX11_isTriable 21 = .ok (.bipush 10, 2) := by decide +kernel
theorem dX11_isTriable_23 : decode cX11_isTriable 23 = .ok (.irem, 1) := by decide +kernel
theorem dX11_isTriable_24 : decode cX11_isTriable 24 = .ok (.iconst 4, 1) := by decide +kernel
theorem dX11_isTriable_25 : decode cX11_isTriable 25 = .ok (.if_icmp .ge 7, 3) := by decide +kernel
theorem dX11_isTriable_28 : decode cX11_isTriable 28 = .ok (.iconst 1, 1) := by decide +kernel
theorem dX11_isTriable_29 : decode cX11_isTriable 29 = .ok (.goto 4, 3) := by decide +kernel
theorem dX11_isTriable_32 : decode cX11_isTriable 32 = .ok (.iconst 0, 1) := by decide +kernel
theorem dX11_isTriable_33 : decode cX11_isTriable 33 = .ok (.ireturn, 1) := by decide +kernel
theorem rX11_isTriable : (∀ (d : Nat) (x : Int32) (st : List Value) (h : fk_H), fk_ev d qX11_isTriable 0 [.int x] st h = fk_ev d qX11_isTriable 1 [.int x] (.int x :: st) h) ∧
  (∀ (d : Nat) (L st : List Value) (h : fk_H), fk_ev d qX11_isTriable 1 L st h = fk_ev d qX11_isTriable 2 L (.int (nI 5) :: st) h) ∧
  (∀ (d : Nat) (L : List Value) (x0 : Int32) (x1 : Int32)  (h : fk_H), fk_ev (d + 1) qX11_isTriable 2 L (.int x1 :: .int x0 :: []) h = (fk_ev d qX11_within 0 [.int x0, .int x1] [] h).bind fun o => fk_ev (d + 1) qX11_isTriable 5 L (o.1.toList ++ []) o.2) ∧
  (∀ (d : Nat) (L : List Value) (x : Int32) (st : List Value) (h : fk_H), fk_ev d qX11_isTriable 5 L (.int x :: st) h = if ¬ x = nI 0 then fk_ev d qX11_isTriable 28 L st h else fk_ev d qX11_isTriable 8 L st h) ∧
  (∀ (d : Nat) (x : Int32) (st : List Value) (h : fk_H), fk_ev d qX11_isTriable 8 [.int x] st h = fk_ev d qX11_isTriable 9 [.int x] (.int x :: st) h) ∧
  (∀ (d : Nat) (L st : List Value) (h : fk_H), fk_ev d qX11_isTriable 9 L st h = fk_ev d qX11_isTriable 11 L (.int (nI 10) :: st) h) ∧
  (∀ (d : Nat) (L : List Value) (x y : Int32) (st : List Value) (h : fk_H), fk_ev d qX11_isTriable 11 L (.int y :: .int x :: st) h = if x < y then fk_ev d qX11_isTriable 32 L st h else fk_ev d qX11_isTriable 14 L st h) ∧
  (∀ (d : Nat) (x : Int32) (st : List Value) (h : fk_H), fk_ev d qX11_isTriable 14 [.int x] st h = fk_ev d qX11_isTriable 15 [.int x] (.int x :: st) h) ∧
  (∀ (d : Nat) (L st : List Value) (h : fk_H), fk_ev d qX11_isTriable 15 L st h = fk_ev d qX11_isTriable 17 L (.int (nI 40) :: st) h) ∧
  (∀ (d : Nat) (L : List Value) (x y : Int32) (st : List Value) (h : fk_H), fk_ev d qX11_isTriable 17 L (.int y :: .int x :: st) h = if y ≤ x then fk_ev d qX11_isTriable 32 L st h else fk_ev d qX11_isTriable 20 L st h) ∧
  (∀ (d : Nat) (x : Int32) (st : List Value) (h : fk_H), fk_ev d qX11_isTriable 20 [.int x] st h = fk_ev d qX11_isTriable 21 [.int x] (.int x :: st) h) ∧
  (∀ (d : Nat) (L st : List Value) (h : fk_H), fk_ev d qX11_isTriable 21 L st h = fk_ev d qX11_isTriable 23 L (.int (nI 10) :: st) h) ∧
  (∀ (d : Nat) (L : List Value) (x y : Int32) (st : List Value) (h : fk_H), fk_ev d qX11_isTriable 23 L (.int y :: .int x :: st) h = if y = 0 then none else fk_ev d qX11_isTriable 24 L (.int (x - x / y * y) :: st) h) ∧
  (∀ (d : Nat) (L st : List Value) (h : fk_H), fk_ev d qX11_isTriable 24 L st h = fk_ev d qX11_isTriable 25 L (.int (nI 4) :: st) h) ∧
  (∀ (d : Nat) (L : List Value) (x y : Int32) (st : List Value) (h : fk_H), fk_ev d qX11_isTriable 25 L (.int y :: .int x :: st) h = if y ≤ x then fk_ev d qX11_isTriable 32 L st h else fk_ev d qX11_isTriable 28 L st h) ∧
  (∀ (d : Nat) (L st : List Value) (h : fk_H), fk_ev d qX11_isTriable 28 L st h = fk_ev d qX11_isTriable 29 L (.int (nI 1) :: st) h) ∧
  (∀ (d : Nat) (L st : List Value) (h : fk_H), fk_ev d qX11_isTriable 29 L st h = fk_ev d qX11_isTriable 33 L st h) ∧
  (∀ (d : Nat) (L st : List Value) (h : fk_H), fk_ev d qX11_isTriable 32 L st h = fk_ev d qX11_isTriable 33 L (.int (nI 0) :: st) h) ∧
  (∀ (d : Nat) (L : List Value) (h : fk_H), fk_ev d qX11_isTriable 33 L [.int (nI 0)] h = some (some (.int (nI 0)), h)) ∧
  (∀ (d : Nat) (L : List Value) (h : fk_H), fk_ev d qX11_isTriable 33 L [.int (nI 1)] h = some (some (.int (nI 1)), h)) ∧
  (∀ (d : Nat) (L : List Value) (p : Prop) [Decidable p] (h : fk_H), fk_ev d qX11_isTriable 33 L [.int (fk_b p)] h = some (some (.int (fk_b p)), h)) ∧
  (∀ (d : Nat) (L : List Value) (x : Int32) (h : fk_H), (x = nI 0 ∨ x = nI 1) → fk_ev d qX11_isTriable 33 L [.int x] h = some (some (.int x), h)) := ⟨fun d  x st h => fk_w_iloadn 0 [.int x] dX11_isTriable_0 rfl,
  fun d L st h => fk_w_iconst dX11_isTriable_1 (by decide),
  fun d L x0 x1 h => fk_g_calls [.int x0, .int x1] [] rfl lm_11_110 dX11_isTriable_2 rfl ⟨rfl, by decide⟩ (by simp),
  fun d L x st h => fk_r_if_ne dX11_isTriable_5 (by decide),
  fun d  x st h => fk_w_iloadn 0 [.int x] dX11_isTriable_8 rfl,
  fun d L st h => fk_w_bipush dX11_isTriable_9 (by decide),
  fun d L x y st h => fk_r_icmp_lt dX11_isTriable_11 (by decide),
  fun d  x st h => fk_w_iloadn 0 [.int x] dX11_isTriable_14 rfl,
  fun d L st h => fk_w_bipush dX11_isTriable_15 (by decide),
  fun d L x y st h => fk_r_icmp_ge dX11_isTriable_17 (by decide),
  fun d  x st h => fk_w_iloadn 0 [.int x] dX11_isTriable_20 rfl,
  fun d L st h => fk_w_bipush dX11_isTriable_21 (by decide),
  fun d L x y st h => fk_r_irem dX11_isTriable_23,
  fun d L st h => fk_w_iconst dX11_isTriable_24 (by decide),
  fun d L x y st h => fk_r_icmp_ge dX11_isTriable_25 (by decide),
  fun d L st h => fk_w_iconst dX11_isTriable_28 (by decide),
  fun d L st h => fk_r_goto dX11_isTriable_29 (by decide),
  fun d L st h => fk_w_iconst dX11_isTriable_32 (by decide),
  fun d L h => fk_r_ret dX11_isTriable_33 (Or.inr (Or.inl ⟨rfl, by decide⟩)),
  fun d L h => fk_r_ret dX11_isTriable_33 (Or.inr (Or.inl ⟨rfl, by decide⟩)),
  fun d L p _ h => fk_r_ret dX11_isTriable_33 (Or.inr (Or.inl ⟨rfl, fk_b_01⟩)),
  fun d L x h hx => fk_r_ret dX11_isTriable_33 (Or.inr (Or.inl ⟨rfl, hx⟩))⟩
theorem dX11_isSettled_0 : decode cX11_isSettled 0 = .ok (.iload_n 1, 1) := by decide +kernel
theorem dX11_isSettled_1 : decode cX11_isSettled 1 = .ok (.bipush 32, 2) := by decide +kernel
theorem dX11_isSettled_3 : decode cX11_isSettled 3 = .ok (.invokestatic 110, 3) := by decide +kernel
theorem dX11_isSettled_6 : decode cX11_isSettled 6 = .ok (.ifCond .eq 30, 3) := by decide +kernel
theorem dX11_isSettled_9 : decode cX11_isSettled 9 = .ok (.iload_n 2, 1) := by decide +kernel
theorem dX11_isSettled_10 : decode cX11_isSettled 10 = .ok (.bipush 32, 2) := by decide +kernel
theorem dX11_isSettled_12 : decode cX11_isSettled 12 = .ok (.invokestatic 110, 3) := by decide +kernel
theorem dX11_isSettled_15 : decode cX11_isSettled 15 = .ok (.ifCond .eq 21, 3) := by decide +kernel
theorem dX11_isSettled_18 : decode cX11_isSettled 18 = .ok (.aload_n 0, 1) := by decide +kernel
theorem dX11_isSettled_19 : decode cX11_isSettled 19 = .ok (.getfield 103, 3) := by decide +kernel
theorem dX11_isSettled_22 : decode cX11_isSettled 22 = .ok (.iload_n 1, 1) := by decide +kernel
theorem dX11_isSettled_23 : decode cX11_isSettled 23 = .ok (.iaload, 1) := by decide +kernel
theorem dX11_isSettled_24 : decode cX11_isSettled 24 = .ok (.ifCond .eq 12, 3) := by decide +kernel
theorem dX11_isSettled_27 : decode cX11_isSettled 27 = .ok (.aload_n 0, 1) := by decide +kernel
theorem dX11_isSettled_28 : decode cX11_isSettled 28 = .ok (.getfield 107, 3) := by decide +kernel
theorem dX11_isSettled_31 : decode cX11_isSettled 31 = .ok (.iload_n 2, 1) := by decide +kernel
theorem dX11_isSettled_32 : decode cX11_isSettled 32 = .ok (.iaload, 1) := by decide +kernel
theorem dX11_isSettled_33 : decode cX11_isSettled 33 = .ok (.ifCond .ne 5, 3) := by decide +kernel
theorem dX11_isSettled_36 : decode cX11_isSettled 36 = .ok (.iconst 0, 1) := by decide +kernel
theorem dX11_isSettled_37 : decode cX11_isSettled 37 = .ok (.ireturn, 1) := by decide +kernel
theorem dX11_isSettled_38 : decode cX11_isSettled 38 = .ok (.iload_n 1, 1) := by decide +kernel
theorem dX11_isSettled_39 : decode cX11_isSettled 39 = .ok (.iload_n 2, 1) := by decide +kernel
theorem dX11_isSettled_40 : decode cX11_isSettled 40 = .ok (.if_icmp .ne 14, 3) := by decide +kernel
theorem dX11_isSettled_43 : decode cX11_isSettled 43 = .ok (.aload_n 0, 1) := by decide +kernel
theorem dX11_isSettled_44 : decode cX11_isSettled 44 = .ok (.getfield 103, 3) := by decide +kernel
theorem dX11_isSettled_47 : decode cX11_isSettled 47 = .ok (.iload_n 1, 1) := by decide +kernel
theorem dX11_isSettled_48 : decode cX11_isSettled 48 = .ok (.iaload, 1) := by decide +kernel
theorem dX11_isSettled_49 : decode cX11_isSettled 49 = .ok (.iconst 2, 1) := by decide +kernel
theorem dX11_isSettled_50 : decode cX11_isSettled 50 = .ok (.idiv, 1) := by decide +kernel
theorem dX11_isSettled_51 : decode cX11_isSettled 51 = .ok (.goto 9, 3) := by decide +kernel
theorem dX11_isSettled_54 : decode cX11_isSettled 54 = .ok (.aload_n 0, 1) := by decide +kernel
theorem dX11_isSettled_55 : decode cX11_isSettled 55 = .ok (.getfield 103, 3) := by decide +kernel
theorem dX11_isSettled_58 : decode cX11_isSettled 58 = .ok (.iload_n 1, 1) := by decide +kernel
theorem dX11_isSettled_59 : decode cX11_isSettled 59 = .ok (.iaload, 1) := by decide +kernel
theorem dX11_isSettled_60 : decode cX11_isSettled 60 = .ok (.istore_n 3, 1) := by decide +kernel
theorem dX11_isSettled_61 : decode cX11_isSettled 61 = .ok (.iload_n 1, 1) := by decide +kernel
theorem dX11_isSettled_62 : decode cX11_isSettled 62 = .ok (.iload_n 2, 1) := by decide +kernel
theorem dX11_isSettled_63 : decode cX11_isSettled 63 = .ok (.if_icmp .ne 14, 3) := by decide +kernel
theorem dX11_isSettled_66 : decode cX11_isSettled 66 = .ok (.aload_n 0, 1) := by decide +kernel
theorem dX11_isSettled_67 : decode cX11_isSettled 67 = .ok (.getfield 107, 3) := by decide +kernel
theorem dX11_isSettled_70 : decode cX11_isSettled 70 = .ok (.iload_n 2, 1) := by decide +kernel
theorem dX11_isSettled_71 : decode cX11_isSettled 71 = .ok (.iaload, 1) := by decide +kernel
theorem dX11_isSettled_72 : decode cX11_isSettled 72 = .ok (.iconst 2, 1) := by decide +kernel
theorem dX11_isSettled_73 : decode cX11_isSettled 73 = .ok (.idiv, 1) := by decide +kernel
theorem dX11_isSettled_74 : decode cX11_isSettled 74 = .ok (.goto 9, 3) := by decide +kernel
theorem dX11_isSettled_77 : decode cX11_isSettled 77 = .ok (.aload_n 0, 1) := by decide +kernel
theorem dX11_isSettled_78 : decode cX11_isSettled 78 = .ok (.getfield 107, 3) := by decide +kernel
theorem dX11_isSettled_81 : decode cX11_isSettled 81 = .ok (.iload_n 2, 1) := by decide +kernel
theorem dX11_isSettled_82 : decode cX11_isSettled 82 = .ok (.iaload, 1) := by decide +kernel
theorem dX11_isSettled_83 : decode cX11_isSettled 83 = .ok (.istore 4, 2) := by decide +kernel
theorem dX11_isSettled_85 : decode cX11_isSettled 85 = .ok (.iconst 0, 1) := by decide +kernel
theorem dX11_isSettled_86 : decode cX11_isSettled 86 = .ok (.istore 5, 2) := by decide +kernel
theorem dX11_isSettled_88 : decode cX11_isSettled 88 = .ok (.iload 5, 2) := by decide +kernel
theorem dX11_isSettled_90 : decode cX11_isSettled 90 = .ok (.bipush 32, 2) := by decide +kernel
theorem dX11_isSettled_92 : decode cX11_isSettled 92 = .ok (.if_icmp .ge 78, 3) := by decide +kernel
theorem dX11_isSettled_95 : decode cX11_isSettled 95 = .ok (.iload 5, 2) := by decide +kernel
theorem dX11_isSettled_97 : decode cX11_isSettled 97 = .ok (.iload_n 2, 1) := by decide +kernel
theorem dX11_isSettled_98 : decode cX11_isSettled 98 = .ok (.if_icmp .ne 15, 3) := by decide +kernel
theorem dX11_isSettled_101 : decode cX11_isSettled 101 = .ok (.aload_n 0, 1) := by decide +kernel
theorem dX11_isSettled_102 : decode cX11_isSettled 102 = .ok (.getfield 103, 3) := by decide +kernel
theorem dX11_isSettled_105 : decode cX11_isSettled 105 = .ok (.iload 5, 2) := by decide +kernel
theorem dX11_isSettled_107 : decode cX11_isSettled 107 = .ok (.iaload, 1) := by decide +kernel
theorem dX11_isSettled_108 : decode cX11_isSettled 108 = .ok (.iconst 2, 1) := by decide +kernel
theorem dX11_isSettled_109 : decode cX11_isSettled 109 = .ok (.idiv, 1) := by decide +kernel
theorem dX11_isSettled_110 : decode cX11_isSettled 110 = .ok (.goto 10, 3) := by decide +kernel
theorem dX11_isSettled_113 : decode cX11_isSettled 113 = .ok (.aload_n 0, 1) := by decide +kernel
theorem dX11_isSettled_114 : decode cX11_isSettled 114 = .ok (.getfield 103, 3) := by decide +kernel
theorem dX11_isSettled_117 : decode cX11_isSettled 117 = .ok (.iload 5, 2) := by decide +kernel
theorem dX11_isSettled_119 : decode cX11_isSettled 119 = .ok (.iaload, 1) := by decide +kernel
theorem dX11_isSettled_120 : decode cX11_isSettled 120 = .ok (.istore 6, 2) := by decide +kernel
theorem dX11_isSettled_122 : decode cX11_isSettled 122 = .ok (.iload 5, 2) := by decide +kernel
theorem dX11_isSettled_124 : decode cX11_isSettled 124 = .ok (.iload_n 1, 1) := by decide +kernel
theorem dX11_isSettled_125 : decode cX11_isSettled 125 = .ok (.if_icmp .ne 15, 3) := by decide +kernel
theorem dX11_isSettled_128 : decode cX11_isSettled 128 = .ok (.aload_n 0, 1) := by decide +kernel
theorem dX11_isSettled_129 : decode cX11_isSettled 129 = .ok (.getfield 107, 3) := by decide +kernel
theorem dX11_isSettled_132 : decode cX11_isSettled 132 = .ok (.iload 5, 2) := by decide +kernel
theorem dX11_isSettled_134 : decode cX11_isSettled 134 = .ok (.iaload, 1) := by decide +kernel
theorem dX11_isSettled_135 : decode cX11_isSettled 135 = .ok (.iconst 2, 1) := by decide +kernel
theorem dX11_isSettled_136 : decode cX11_isSettled 136 = .ok (.idiv, 1) := by decide +kernel
theorem dX11_isSettled_137 : decode cX11_isSettled 137 = .ok (.goto 10, 3) := by decide +kernel
theorem dX11_isSettled_140 : decode cX11_isSettled 140 = .ok (.aload_n 0, 1) := by decide +kernel
theorem dX11_isSettled_141 : decode cX11_isSettled 141 = .ok (.getfield 107, 3) := by decide +kernel
theorem dX11_isSettled_144 : decode cX11_isSettled 144 = .ok (.iload 5, 2) := by decide +kernel
theorem dX11_isSettled_146 : decode cX11_isSettled 146 = .ok (.iaload, 1) := by decide +kernel
theorem dX11_isSettled_147 : decode cX11_isSettled 147 = .ok (.istore 7, 2) := by decide +kernel
theorem dX11_isSettled_149 : decode cX11_isSettled 149 = .ok (.iload 6, 2) := by decide +kernel
theorem dX11_isSettled_151 : decode cX11_isSettled 151 = .ok (.iload_n 3, 1) := by decide +kernel
theorem dX11_isSettled_152 : decode cX11_isSettled 152 = .ok (.if_icmp .gt 10, 3) := by decide +kernel
theorem dX11_isSettled_155 : decode cX11_isSettled 155 = .ok (.iload 7, 2) := by decide +kernel
theorem dX11_isSettled_157 : decode cX11_isSettled 157 = .ok (.iload 4, 2) := by decide +kernel
theorem dX11_isSettled_159 : decode cX11_isSettled 159 = .ok (.if_icmp .le 5, 3) := by decide +kernel
theorem dX11_isSettled_162 : decode cX11_isSettled 162 = .ok (.iconst 0, 1) := by decide +kernel
theorem dX11_isSettled_163 : decode cX11_isSettled 163 = .ok (.ireturn, 1) := by decide +kernel
theorem dX11_isSettled_164 : decode cX11_isSettled 164 = .ok (.iinc 5 1, 3) := by decide +kernel
theorem dX11_isSettled_167 : decode cX11_isSettled 167 = .ok (.goto (-79), 3) := by decide +kernel
theorem dX11_isSettled_170 : decode cX11_isSettled 170 = .ok (.iconst 1, 1) := by decide +kernel
theorem dX11_isSettled_171 : decode cX11_isSettled 171 = .ok (.ireturn, 1) := by decide +kernel
theorem rX11_isSettled : (∀ (d : Nat) (a0 a2 a3 a4 a5 a6 a7 : Value) (x : Int32) (st : List Value) (h : fk_H), fk_ev d qX11_isSettled 0 [a0, .int x, a2, a3, a4, a5, a6, a7] st h = fk_ev d qX11_isSettled 1 [a0, .int x, a2, a3, a4, a5, a6, a7] (.int x :: st) h) ∧
  (∀ (d : Nat) (L st : List Value) (h : fk_H), fk_ev d qX11_isSettled 1 L st h = fk_ev d qX11_isSettled 3 L (.int (nI 32) :: st) h) ∧
  (∀ (d : Nat) (L : List Value) (x0 : Int32) (x1 : Int32)  (h : fk_H), fk_ev (d + 1) qX11_isSettled 3 L (.int x1 :: .int x0 :: []) h = (fk_ev d qX11_within 0 [.int x0, .int x1] [] h).bind fun o => fk_ev (d + 1) qX11_isSettled 6 L (o.1.toList ++ []) o.2) ∧
  (∀ (d : Nat) (L : List Value) (x : Int32) (st : List Value) (h : fk_H), fk_ev d qX11_isSettled 6 L (.int x :: st) h = if x = nI 0 then fk_ev d qX11_isSettled 36 L st h else fk_ev d qX11_isSettled 9 L st h) ∧
  (∀ (d : Nat) (a0 a1 a3 a4 a5 a6 a7 : Value) (x : Int32) (st : List Value) (h : fk_H), fk_ev d qX11_isSettled 9 [a0, a1, .int x, a3, a4, a5, a6, a7] st h = fk_ev d qX11_isSettled 10 [a0, a1, .int x, a3, a4, a5, a6, a7] (.int x :: st) h) ∧
  (∀ (d : Nat) (L st : List Value) (h : fk_H), fk_ev d qX11_isSettled 10 L st h = fk_ev d qX11_isSettled 12 L (.int (nI 32) :: st) h) ∧
  (∀ (d : Nat) (L : List Value) (x0 : Int32) (x1 : Int32)  (h : fk_H), fk_ev (d + 1) qX11_isSettled 12 L (.int x1 :: .int x0 :: []) h = (fk_ev d qX11_within 0 [.int x0, .int x1] [] h).bind fun o => fk_ev (d + 1) qX11_isSettled 15 L (o.1.toList ++ []) o.2) ∧
  (∀ (d : Nat) (L : List Value) (x : Int32) (st : List Value) (h : fk_H), fk_ev d qX11_isSettled 15 L (.int x :: st) h = if x = nI 0 then fk_ev d qX11_isSettled 36 L st h else fk_ev d qX11_isSettled 18 L st h) ∧
  (∀ (d : Nat) (a1 a2 a3 a4 a5 a6 a7 : Value) (x : Nat) (st : List Value) (h : fk_H), fk_ev d qX11_isSettled 18 [.ref x, a1, a2, a3, a4, a5, a6, a7] st h = fk_ev d qX11_isSettled 19 [.ref x, a1, a2, a3, a4, a5, a6, a7] (.ref x :: st) h) ∧
  (∀ (d : Nat) (L st : List Value) (N : Nat) (y : Nat → Nat → Int32) (l : Nat → Nat → Int64), fk_ev d qX11_isSettled 19 L (.ref 1 :: st) (fk_E N y l) = fk_ev d qX11_isSettled 22 L (.ref 244 :: st) (fk_E N y l)) ∧
  (∀ (d : Nat) (a0 a2 a3 a4 a5 a6 a7 : Value) (x : Int32) (st : List Value) (h : fk_H), fk_ev d qX11_isSettled 22 [a0, .int x, a2, a3, a4, a5, a6, a7] st h = fk_ev d qX11_isSettled 23 [a0, .int x, a2, a3, a4, a5, a6, a7] (.int x :: st) h) ∧
  (∀ (d : Nat) (L st : List Value) (N : Nat) (y : Nat → Nat → Int32) (l : Nat → Nat → Int64) (i : Nat), i < 32 → fk_ev d qX11_isSettled 23 L (.int (nI i) :: .ref 244 :: st) (fk_E N y l) = fk_ev d qX11_isSettled 24 L (.int (y 244 i) :: st) (fk_E N y l)) ∧
  (∀ (d : Nat) (L : List Value) (x : Int32) (st : List Value) (h : fk_H), fk_ev d qX11_isSettled 24 L (.int x :: st) h = if x = nI 0 then fk_ev d qX11_isSettled 36 L st h else fk_ev d qX11_isSettled 27 L st h) ∧
  (∀ (d : Nat) (a1 a2 a3 a4 a5 a6 a7 : Value) (x : Nat) (st : List Value) (h : fk_H), fk_ev d qX11_isSettled 27 [.ref x, a1, a2, a3, a4, a5, a6, a7] st h = fk_ev d qX11_isSettled 28 [.ref x, a1, a2, a3, a4, a5, a6, a7] (.ref x :: st) h) ∧
  (∀ (d : Nat) (L st : List Value) (N : Nat) (y : Nat → Nat → Int32) (l : Nat → Nat → Int64), fk_ev d qX11_isSettled 28 L (.ref 1 :: st) (fk_E N y l) = fk_ev d qX11_isSettled 31 L (.ref 245 :: st) (fk_E N y l)) ∧
  (∀ (d : Nat) (a0 a1 a3 a4 a5 a6 a7 : Value) (x : Int32) (st : List Value) (h : fk_H), fk_ev d qX11_isSettled 31 [a0, a1, .int x, a3, a4, a5, a6, a7] st h = fk_ev d qX11_isSettled 32 [a0, a1, .int x, a3, a4, a5, a6, a7] (.int x :: st) h) ∧
  (∀ (d : Nat) (L st : List Value) (N : Nat) (y : Nat → Nat → Int32) (l : Nat → Nat → Int64) (i : Nat), i < 32 → fk_ev d qX11_isSettled 32 L (.int (nI i) :: .ref 245 :: st) (fk_E N y l) = fk_ev d qX11_isSettled 33 L (.int (y 245 i) :: st) (fk_E N y l)) ∧
  (∀ (d : Nat) (L : List Value) (x : Int32) (st : List Value) (h : fk_H), fk_ev d qX11_isSettled 33 L (.int x :: st) h = if ¬ x = nI 0 then fk_ev d qX11_isSettled 38 L st h else fk_ev d qX11_isSettled 36 L st h) ∧
  (∀ (d : Nat) (L st : List Value) (h : fk_H), fk_ev d qX11_isSettled 36 L st h = fk_ev d qX11_isSettled 37 L (.int (nI 0) :: st) h) ∧
  (∀ (d : Nat) (L : List Value) (h : fk_H), fk_ev d qX11_isSettled 37 L [.int (nI 0)] h = some (some (.int (nI 0)), h)) ∧
  (∀ (d : Nat) (L : List Value) (h : fk_H), fk_ev d qX11_isSettled 37 L [.int (nI 1)] h = some (some (.int (nI 1)), h)) ∧
  (∀ (d : Nat) (L : List Value) (p : Prop) [Decidable p] (h : fk_H), fk_ev d qX11_isSettled 37 L [.int (fk_b p)] h = some (some (.int (fk_b p)), h)) ∧
  (∀ (d : Nat) (L : List Value) (x : Int32) (h : fk_H), (x = nI 0 ∨ x = nI 1) → fk_ev d qX11_isSettled 37 L [.int x] h = some (some (.int x), h)) ∧
  (∀ (d : Nat) (a0 a2 a3 a4 a5 a6 a7 : Value) (x : Int32) (st : List Value) (h : fk_H), fk_ev d qX11_isSettled 38 [a0, .int x, a2, a3, a4, a5, a6, a7] st h = fk_ev d qX11_isSettled 39 [a0, .int x, a2, a3, a4, a5, a6, a7] (.int x :: st) h) ∧
  (∀ (d : Nat) (a0 a1 a3 a4 a5 a6 a7 : Value) (x : Int32) (st : List Value) (h : fk_H), fk_ev d qX11_isSettled 39 [a0, a1, .int x, a3, a4, a5, a6, a7] st h = fk_ev d qX11_isSettled 40 [a0, a1, .int x, a3, a4, a5, a6, a7] (.int x :: st) h) ∧
  (∀ (d : Nat) (L : List Value) (x y : Int32) (st : List Value) (h : fk_H), fk_ev d qX11_isSettled 40 L (.int y :: .int x :: st) h = if ¬ x = y then fk_ev d qX11_isSettled 54 L st h else fk_ev d qX11_isSettled 43 L st h) ∧
  (∀ (d : Nat) (a1 a2 a3 a4 a5 a6 a7 : Value) (x : Nat) (st : List Value) (h : fk_H), fk_ev d qX11_isSettled 43 [.ref x, a1, a2, a3, a4, a5, a6, a7] st h = fk_ev d qX11_isSettled 44 [.ref x, a1, a2, a3, a4, a5, a6, a7] (.ref x :: st) h) ∧
  (∀ (d : Nat) (L st : List Value) (N : Nat) (y : Nat → Nat → Int32) (l : Nat → Nat → Int64), fk_ev d qX11_isSettled 44 L (.ref 1 :: st) (fk_E N y l) = fk_ev d qX11_isSettled 47 L (.ref 244 :: st) (fk_E N y l)) ∧
  (∀ (d : Nat) (a0 a2 a3 a4 a5 a6 a7 : Value) (x : Int32) (st : List Value) (h : fk_H), fk_ev d qX11_isSettled 47 [a0, .int x, a2, a3, a4, a5, a6, a7] st h = fk_ev d qX11_isSettled 48 [a0, .int x, a2, a3, a4, a5, a6, a7] (.int x :: st) h) ∧
  (∀ (d : Nat) (L st : List Value) (N : Nat) (y : Nat → Nat → Int32) (l : Nat → Nat → Int64) (i : Nat), i < 32 → fk_ev d qX11_isSettled 48 L (.int (nI i) :: .ref 244 :: st) (fk_E N y l) = fk_ev d qX11_isSettled 49 L (.int (y 244 i) :: st) (fk_E N y l)) ∧
  (∀ (d : Nat) (L st : List Value) (h : fk_H), fk_ev d qX11_isSettled 49 L st h = fk_ev d qX11_isSettled 50 L (.int (nI 2) :: st) h) ∧
  (∀ (d : Nat) (L : List Value) (x y : Int32) (st : List Value) (h : fk_H), fk_ev d qX11_isSettled 50 L (.int y :: .int x :: st) h = if y = 0 then none else fk_ev d qX11_isSettled 51 L (.int (x / y) :: st) h) ∧
  (∀ (d : Nat) (L st : List Value) (h : fk_H), fk_ev d qX11_isSettled 51 L st h = fk_ev d qX11_isSettled 60 L st h) ∧
  (∀ (d : Nat) (a1 a2 a3 a4 a5 a6 a7 : Value) (x : Nat) (st : List Value) (h : fk_H), fk_ev d qX11_isSettled 54 [.ref x, a1, a2, a3, a4, a5, a6, a7] st h = fk_ev d qX11_isSettled 55 [.ref x, a1, a2, a3, a4, a5, a6, a7] (.ref x :: st) h) ∧
  (∀ (d : Nat) (L st : List Value) (N : Nat) (y : Nat → Nat → Int32) (l : Nat → Nat → Int64), fk_ev d qX11_isSettled 55 L (.ref 1 :: st) (fk_E N y l) = fk_ev d qX11_isSettled 58 L (.ref 244 :: st) (fk_E N y l)) ∧
  (∀ (d : Nat) (a0 a2 a3 a4 a5 a6 a7 : Value) (x : Int32) (st : List Value) (h : fk_H), fk_ev d qX11_isSettled 58 [a0, .int x, a2, a3, a4, a5, a6, a7] st h = fk_ev d qX11_isSettled 59 [a0, .int x, a2, a3, a4, a5, a6, a7] (.int x :: st) h) ∧
  (∀ (d : Nat) (L st : List Value) (N : Nat) (y : Nat → Nat → Int32) (l : Nat → Nat → Int64) (i : Nat), i < 32 → fk_ev d qX11_isSettled 59 L (.int (nI i) :: .ref 244 :: st) (fk_E N y l) = fk_ev d qX11_isSettled 60 L (.int (y 244 i) :: st) (fk_E N y l)) ∧
  (∀ (d : Nat) (a0 a1 a2 a3 a4 a5 a6 a7 : Value) (x : Int32) (st : List Value) (h : fk_H), fk_ev d qX11_isSettled 60 [a0, a1, a2, a3, a4, a5, a6, a7] (.int x :: st) h = fk_ev d qX11_isSettled 61 [a0, a1, a2, .int x, a4, a5, a6, a7] st h) ∧
  (∀ (d : Nat) (a0 a2 a3 a4 a5 a6 a7 : Value) (x : Int32) (st : List Value) (h : fk_H), fk_ev d qX11_isSettled 61 [a0, .int x, a2, a3, a4, a5, a6, a7] st h = fk_ev d qX11_isSettled 62 [a0, .int x, a2, a3, a4, a5, a6, a7] (.int x :: st) h) ∧
  (∀ (d : Nat) (a0 a1 a3 a4 a5 a6 a7 : Value) (x : Int32) (st : List Value) (h : fk_H), fk_ev d qX11_isSettled 62 [a0, a1, .int x, a3, a4, a5, a6, a7] st h = fk_ev d qX11_isSettled 63 [a0, a1, .int x, a3, a4, a5, a6, a7] (.int x :: st) h) ∧
  (∀ (d : Nat) (L : List Value) (x y : Int32) (st : List Value) (h : fk_H), fk_ev d qX11_isSettled 63 L (.int y :: .int x :: st) h = if ¬ x = y then fk_ev d qX11_isSettled 77 L st h else fk_ev d qX11_isSettled 66 L st h) ∧
  (∀ (d : Nat) (a1 a2 a3 a4 a5 a6 a7 : Value) (x : Nat) (st : List Value) (h : fk_H), fk_ev d qX11_isSettled 66 [.ref x, a1, a2, a3, a4, a5, a6, a7] st h = fk_ev d qX11_isSettled 67 [.ref x, a1, a2, a3, a4, a5, a6, a7] (.ref x :: st) h) ∧
  (∀ (d : Nat) (L st : List Value) (N : Nat) (y : Nat → Nat → Int32) (l : Nat → Nat → Int64), fk_ev d qX11_isSettled 67 L (.ref 1 :: st) (fk_E N y l) = fk_ev d qX11_isSettled 70 L (.ref 245 :: st) (fk_E N y l)) ∧
  (∀ (d : Nat) (a0 a1 a3 a4 a5 a6 a7 : Value) (x : Int32) (st : List Value) (h : fk_H), fk_ev d qX11_isSettled 70 [a0, a1, .int x, a3, a4, a5, a6, a7] st h = fk_ev d qX11_isSettled 71 [a0, a1, .int x, a3, a4, a5, a6, a7] (.int x :: st) h) ∧
  (∀ (d : Nat) (L st : List Value) (N : Nat) (y : Nat → Nat → Int32) (l : Nat → Nat → Int64) (i : Nat), i < 32 → fk_ev d qX11_isSettled 71 L (.int (nI i) :: .ref 245 :: st) (fk_E N y l) = fk_ev d qX11_isSettled 72 L (.int (y 245 i) :: st) (fk_E N y l)) ∧
  (∀ (d : Nat) (L st : List Value) (h : fk_H), fk_ev d qX11_isSettled 72 L st h = fk_ev d qX11_isSettled 73 L (.int (nI 2) :: st) h) ∧
  (∀ (d : Nat) (L : List Value) (x y : Int32) (st : List Value) (h : fk_H), fk_ev d qX11_isSettled 73 L (.int y :: .int x :: st) h = if y = 0 then none else fk_ev d qX11_isSettled 74 L (.int (x / y) :: st) h) ∧
  (∀ (d : Nat) (L st : List Value) (h : fk_H), fk_ev d qX11_isSettled 74 L st h = fk_ev d qX11_isSettled 83 L st h) ∧
  (∀ (d : Nat) (a1 a2 a3 a4 a5 a6 a7 : Value) (x : Nat) (st : List Value) (h : fk_H), fk_ev d qX11_isSettled 77 [.ref x, a1, a2, a3, a4, a5, a6, a7] st h = fk_ev d qX11_isSettled 78 [.ref x, a1, a2, a3, a4, a5, a6, a7] (.ref x :: st) h) ∧
  (∀ (d : Nat) (L st : List Value) (N : Nat) (y : Nat → Nat → Int32) (l : Nat → Nat → Int64), fk_ev d qX11_isSettled 78 L (.ref 1 :: st) (fk_E N y l) = fk_ev d qX11_isSettled 81 L (.ref 245 :: st) (fk_E N y l)) ∧
  (∀ (d : Nat) (a0 a1 a3 a4 a5 a6 a7 : Value) (x : Int32) (st : List Value) (h : fk_H), fk_ev d qX11_isSettled 81 [a0, a1, .int x, a3, a4, a5, a6, a7] st h = fk_ev d qX11_isSettled 82 [a0, a1, .int x, a3, a4, a5, a6, a7] (.int x :: st) h) ∧
  (∀ (d : Nat) (L st : List Value) (N : Nat) (y : Nat → Nat → Int32) (l : Nat → Nat → Int64) (i : Nat), i < 32 → fk_ev d qX11_isSettled 82 L (.int (nI i) :: .ref 245 :: st) (fk_E N y l) = fk_ev d qX11_isSettled 83 L (.int (y 245 i) :: st) (fk_E N y l)) ∧
  (∀ (d : Nat) (a0 a1 a2 a3 a4 a5 a6 a7 : Value) (x : Int32) (st : List Value) (h : fk_H), fk_ev d qX11_isSettled 83 [a0, a1, a2, a3, a4, a5, a6, a7] (.int x :: st) h = fk_ev d qX11_isSettled 85 [a0, a1, a2, a3, .int x, a5, a6, a7] st h) ∧
  (∀ (d : Nat) (L st : List Value) (h : fk_H), fk_ev d qX11_isSettled 85 L st h = fk_ev d qX11_isSettled 86 L (.int (nI 0) :: st) h) ∧
  (∀ (d : Nat) (a0 a1 a2 a3 a4 a5 a6 a7 : Value) (x : Int32) (st : List Value) (h : fk_H), fk_ev d qX11_isSettled 86 [a0, a1, a2, a3, a4, a5, a6, a7] (.int x :: st) h = fk_ev d qX11_isSettled 88 [a0, a1, a2, a3, a4, .int x, a6, a7] st h) ∧
  (∀ (d : Nat) (L st : List Value) (h : fk_H), fk_ev d qX11_isSettled 90 L st h = fk_ev d qX11_isSettled 92 L (.int (nI 32) :: st) h) ∧
  (∀ (d : Nat) (L : List Value) (x y : Int32) (st : List Value) (h : fk_H), fk_ev d qX11_isSettled 92 L (.int y :: .int x :: st) h = if y ≤ x then fk_ev d qX11_isSettled 170 L st h else fk_ev d qX11_isSettled 95 L st h) ∧
  (∀ (d : Nat) (a0 a1 a2 a3 a4 a6 a7 : Value) (x : Int32) (st : List Value) (h : fk_H), fk_ev d qX11_isSettled 95 [a0, a1, a2, a3, a4, .int x, a6, a7] st h = fk_ev d qX11_isSettled 97 [a0, a1, a2, a3, a4, .int x, a6, a7] (.int x :: st) h) ∧
  (∀ (d : Nat) (a0 a1 a3 a4 a5 a6 a7 : Value) (x : Int32) (st : List Value) (h : fk_H), fk_ev d qX11_isSettled 97 [a0, a1, .int x, a3, a4, a5, a6, a7] st h = fk_ev d qX11_isSettled 98 [a0, a1, .int x, a3, a4, a5, a6, a7] (.int x :: st) h) ∧
  (∀ (d : Nat) (L : List Value) (x y : Int32) (st : List Value) (h : fk_H), fk_ev d qX11_isSettled 98 L (.int y :: .int x :: st) h = if ¬ x = y then fk_ev d qX11_isSettled 113 L st h else fk_ev d qX11_isSettled 101 L st h) ∧
  (∀ (d : Nat) (a1 a2 a3 a4 a5 a6 a7 : Value) (x : Nat) (st : List Value) (h : fk_H), fk_ev d qX11_isSettled 101 [.ref x, a1, a2, a3, a4, a5, a6, a7] st h = fk_ev d qX11_isSettled 102 [.ref x, a1, a2, a3, a4, a5, a6, a7] (.ref x :: st) h) ∧
  (∀ (d : Nat) (L st : List Value) (N : Nat) (y : Nat → Nat → Int32) (l : Nat → Nat → Int64), fk_ev d qX11_isSettled 102 L (.ref 1 :: st) (fk_E N y l) = fk_ev d qX11_isSettled 105 L (.ref 244 :: st) (fk_E N y l)) ∧
  (∀ (d : Nat) (a0 a1 a2 a3 a4 a6 a7 : Value) (x : Int32) (st : List Value) (h : fk_H), fk_ev d qX11_isSettled 105 [a0, a1, a2, a3, a4, .int x, a6, a7] st h = fk_ev d qX11_isSettled 107 [a0, a1, a2, a3, a4, .int x, a6, a7] (.int x :: st) h) ∧
  (∀ (d : Nat) (L st : List Value) (N : Nat) (y : Nat → Nat → Int32) (l : Nat → Nat → Int64) (i : Nat), i < 32 → fk_ev d qX11_isSettled 107 L (.int (nI i) :: .ref 244 :: st) (fk_E N y l) = fk_ev d qX11_isSettled 108 L (.int (y 244 i) :: st) (fk_E N y l)) ∧
  (∀ (d : Nat) (L st : List Value) (h : fk_H), fk_ev d qX11_isSettled 108 L st h = fk_ev d qX11_isSettled 109 L (.int (nI 2) :: st) h) ∧
  (∀ (d : Nat) (L : List Value) (x y : Int32) (st : List Value) (h : fk_H), fk_ev d qX11_isSettled 109 L (.int y :: .int x :: st) h = if y = 0 then none else fk_ev d qX11_isSettled 110 L (.int (x / y) :: st) h) ∧
  (∀ (d : Nat) (L st : List Value) (h : fk_H), fk_ev d qX11_isSettled 110 L st h = fk_ev d qX11_isSettled 120 L st h) ∧
  (∀ (d : Nat) (a1 a2 a3 a4 a5 a6 a7 : Value) (x : Nat) (st : List Value) (h : fk_H), fk_ev d qX11_isSettled 113 [.ref x, a1, a2, a3, a4, a5, a6, a7] st h = fk_ev d qX11_isSettled 114 [.ref x, a1, a2, a3, a4, a5, a6, a7] (.ref x :: st) h) ∧
  (∀ (d : Nat) (L st : List Value) (N : Nat) (y : Nat → Nat → Int32) (l : Nat → Nat → Int64), fk_ev d qX11_isSettled 114 L (.ref 1 :: st) (fk_E N y l) = fk_ev d qX11_isSettled 117 L (.ref 244 :: st) (fk_E N y l)) ∧
  (∀ (d : Nat) (a0 a1 a2 a3 a4 a6 a7 : Value) (x : Int32) (st : List Value) (h : fk_H), fk_ev d qX11_isSettled 117 [a0, a1, a2, a3, a4, .int x, a6, a7] st h = fk_ev d qX11_isSettled 119 [a0, a1, a2, a3, a4, .int x, a6, a7] (.int x :: st) h) ∧
  (∀ (d : Nat) (L st : List Value) (N : Nat) (y : Nat → Nat → Int32) (l : Nat → Nat → Int64) (i : Nat), i < 32 → fk_ev d qX11_isSettled 119 L (.int (nI i) :: .ref 244 :: st) (fk_E N y l) = fk_ev d qX11_isSettled 120 L (.int (y 244 i) :: st) (fk_E N y l)) ∧
  (∀ (d : Nat) (a0 a1 a2 a3 a4 a5 a6 a7 : Value) (x : Int32) (st : List Value) (h : fk_H), fk_ev d qX11_isSettled 120 [a0, a1, a2, a3, a4, a5, a6, a7] (.int x :: st) h = fk_ev d qX11_isSettled 122 [a0, a1, a2, a3, a4, a5, .int x, a7] st h) ∧
  (∀ (d : Nat) (a0 a1 a2 a3 a4 a6 a7 : Value) (x : Int32) (st : List Value) (h : fk_H), fk_ev d qX11_isSettled 122 [a0, a1, a2, a3, a4, .int x, a6, a7] st h = fk_ev d qX11_isSettled 124 [a0, a1, a2, a3, a4, .int x, a6, a7] (.int x :: st) h) ∧
  (∀ (d : Nat) (a0 a2 a3 a4 a5 a6 a7 : Value) (x : Int32) (st : List Value) (h : fk_H), fk_ev d qX11_isSettled 124 [a0, .int x, a2, a3, a4, a5, a6, a7] st h = fk_ev d qX11_isSettled 125 [a0, .int x, a2, a3, a4, a5, a6, a7] (.int x :: st) h) ∧
  (∀ (d : Nat) (L : List Value) (x y : Int32) (st : List Value) (h : fk_H), fk_ev d qX11_isSettled 125 L (.int y :: .int x :: st) h = if ¬ x = y then fk_ev d qX11_isSettled 140 L st h else fk_ev d qX11_isSettled 128 L st h) ∧
  (∀ (d : Nat) (a1 a2 a3 a4 a5 a6 a7 : Value) (x : Nat) (st : List Value) (h : fk_H), fk_ev d qX11_isSettled 128 [.ref x, a1, a2, a3, a4, a5, a6, a7] st h = fk_ev d qX11_isSettled 129 [.ref x, a1, a2, a3, a4, a5, a6, a7] (.ref x :: st) h) ∧
  (∀ (d : Nat) (L st : List Value) (N : Nat) (y : Nat → Nat → Int32) (l : Nat → Nat → Int64), fk_ev d qX11_isSettled 129 L (.ref 1 :: st) (fk_E N y l) = fk_ev d qX11_isSettled 132 L (.ref 245 :: st) (fk_E N y l)) ∧
  (∀ (d : Nat) (a0 a1 a2 a3 a4 a6 a7 : Value) (x : Int32) (st : List Value) (h : fk_H), fk_ev d qX11_isSettled 132 [a0, a1, a2, a3, a4, .int x, a6, a7] st h = fk_ev d qX11_isSettled 134 [a0, a1, a2, a3, a4, .int x, a6, a7] (.int x :: st) h) ∧
  (∀ (d : Nat) (L st : List Value) (N : Nat) (y : Nat → Nat → Int32) (l : Nat → Nat → Int64) (i : Nat), i < 32 → fk_ev d qX11_isSettled 134 L (.int (nI i) :: .ref 245 :: st) (fk_E N y l) = fk_ev d qX11_isSettled 135 L (.int (y 245 i) :: st) (fk_E N y l)) ∧
  (∀ (d : Nat) (L st : List Value) (h : fk_H), fk_ev d qX11_isSettled 135 L st h = fk_ev d qX11_isSettled 136 L (.int (nI 2) :: st) h) ∧
  (∀ (d : Nat) (L : List Value) (x y : Int32) (st : List Value) (h : fk_H), fk_ev d qX11_isSettled 136 L (.int y :: .int x :: st) h = if y = 0 then none else fk_ev d qX11_isSettled 137 L (.int (x / y) :: st) h) ∧
  (∀ (d : Nat) (L st : List Value) (h : fk_H), fk_ev d qX11_isSettled 137 L st h = fk_ev d qX11_isSettled 147 L st h) ∧
  (∀ (d : Nat) (a1 a2 a3 a4 a5 a6 a7 : Value) (x : Nat) (st : List Value) (h : fk_H), fk_ev d qX11_isSettled 140 [.ref x, a1, a2, a3, a4, a5, a6, a7] st h = fk_ev d qX11_isSettled 141 [.ref x, a1, a2, a3, a4, a5, a6, a7] (.ref x :: st) h) ∧
  (∀ (d : Nat) (L st : List Value) (N : Nat) (y : Nat → Nat → Int32) (l : Nat → Nat → Int64), fk_ev d qX11_isSettled 141 L (.ref 1 :: st) (fk_E N y l) = fk_ev d qX11_isSettled 144 L (.ref 245 :: st) (fk_E N y l)) ∧
  (∀ (d : Nat) (a0 a1 a2 a3 a4 a6 a7 : Value) (x : Int32) (st : List Value) (h : fk_H), fk_ev d qX11_isSettled 144 [a0, a1, a2, a3, a4, .int x, a6, a7] st h = fk_ev d qX11_isSettled 146 [a0, a1, a2, a3, a4, .int x, a6, a7] (.int x :: st) h) ∧
  (∀ (d : Nat) (L st : List Value) (N : Nat) (y : Nat → Nat → Int32) (l : Nat → Nat → Int64) (i : Nat), i < 32 → fk_ev d qX11_isSettled 146 L (.int (nI i) :: .ref 245 :: st) (fk_E N y l) = fk_ev d qX11_isSettled 147 L (.int (y 245 i) :: st) (fk_E N y l)) ∧
  (∀ (d : Nat) (a0 a1 a2 a3 a4 a5 a6 a7 : Value) (x : Int32) (st : List Value) (h : fk_H), fk_ev d qX11_isSettled 147 [a0, a1, a2, a3, a4, a5, a6, a7] (.int x :: st) h = fk_ev d qX11_isSettled 149 [a0, a1, a2, a3, a4, a5, a6, .int x] st h) ∧
  (∀ (d : Nat) (a0 a1 a2 a3 a4 a5 a7 : Value) (x : Int32) (st : List Value) (h : fk_H), fk_ev d qX11_isSettled 149 [a0, a1, a2, a3, a4, a5, .int x, a7] st h = fk_ev d qX11_isSettled 151 [a0, a1, a2, a3, a4, a5, .int x, a7] (.int x :: st) h) ∧
  (∀ (d : Nat) (a0 a1 a2 a4 a5 a6 a7 : Value) (x : Int32) (st : List Value) (h : fk_H), fk_ev d qX11_isSettled 151 [a0, a1, a2, .int x, a4, a5, a6, a7] st h = fk_ev d qX11_isSettled 152 [a0, a1, a2, .int x, a4, a5, a6, a7] (.int x :: st) h) ∧
  (∀ (d : Nat) (L : List Value) (x y : Int32) (st : List Value) (h : fk_H), fk_ev d qX11_isSettled 152 L (.int y :: .int x :: st) h = if y < x then fk_ev d qX11_isSettled 162 L st h else fk_ev d qX11_isSettled 155 L st h) ∧
  (∀ (d : Nat) (a0 a1 a2 a3 a4 a5 a6 : Value) (x : Int32) (st : List Value) (h : fk_H), fk_ev d qX11_isSettled 155 [a0, a1, a2, a3, a4, a5, a6, .int x] st h = fk_ev d qX11_isSettled 157 [a0, a1, a2, a3, a4, a5, a6, .int x] (.int x :: st) h) ∧
  (∀ (d : Nat) (a0 a1 a2 a3 a5 a6 a7 : Value) (x : Int32) (st : List Value) (h : fk_H), fk_ev d qX11_isSettled 157 [a0, a1, a2, a3, .int x, a5, a6, a7] st h = fk_ev d qX11_isSettled 159 [a0, a1, a2, a3, .int x, a5, a6, a7] (.int x :: st) h) ∧
  (∀ (d : Nat) (L : List Value) (x y : Int32) (st : List Value) (h : fk_H), fk_ev d qX11_isSettled 159 L (.int y :: .int x :: st) h = if x ≤ y then fk_ev d qX11_isSettled 164 L st h else fk_ev d qX11_isSettled 162 L st h) ∧
  (∀ (d : Nat) (L st : List Value) (h : fk_H), fk_ev d qX11_isSettled 162 L st h = fk_ev d qX11_isSettled 163 L (.int (nI 0) :: st) h) ∧
  (∀ (d : Nat) (L : List Value) (h : fk_H), fk_ev d qX11_isSettled 163 L [.int (nI 0)] h = some (some (.int (nI 0)), h)) ∧
  (∀ (d : Nat) (L : List Value) (h : fk_H), fk_ev d qX11_isSettled 163 L [.int (nI 1)] h = some (some (.int (nI 1)), h)) ∧
  (∀ (d : Nat) (L : List Value) (p : Prop) [Decidable p] (h : fk_H), fk_ev d qX11_isSettled 163 L [.int (fk_b p)] h = some (some (.int (fk_b p)), h)) ∧
  (∀ (d : Nat) (L : List Value) (x : Int32) (h : fk_H), (x = nI 0 ∨ x = nI 1) → fk_ev d qX11_isSettled 163 L [.int x] h = some (some (.int x), h)) ∧
  (∀ (d : Nat) (a0 a1 a2 a3 a4 a6 a7 : Value) (x : Int32) (st : List Value) (h : fk_H), fk_ev d qX11_isSettled 164 [a0, a1, a2, a3, a4, .int x, a6, a7] st h = fk_ev d qX11_isSettled 167 [a0, a1, a2, a3, a4, .int (x + nI 1), a6, a7] st h) ∧
  (∀ (d : Nat) (L st : List Value) (h : fk_H), fk_ev d qX11_isSettled 167 L st h = fk_ev d qX11_isSettled 88 L st h) ∧
  (∀ (d : Nat) (L st : List Value) (h : fk_H), fk_ev d qX11_isSettled 170 L st h = fk_ev d qX11_isSettled 171 L (.int (nI 1) :: st) h) ∧
  (∀ (d : Nat) (L : List Value) (h : fk_H), fk_ev d qX11_isSettled 171 L [.int (nI 0)] h = some (some (.int (nI 0)), h)) ∧
  (∀ (d : Nat) (L : List Value) (h : fk_H), fk_ev d qX11_isSettled 171 L [.int (nI 1)] h = some (some (.int (nI 1)), h)) ∧
  (∀ (d : Nat) (L : List Value) (p : Prop) [Decidable p] (h : fk_H), fk_ev d qX11_isSettled 171 L [.int (fk_b p)] h = some (some (.int (fk_b p)), h)) ∧
  (∀ (d : Nat) (L : List Value) (x : Int32) (h : fk_H), (x = nI 0 ∨ x = nI 1) → fk_ev d qX11_isSettled 171 L [.int x] h = some (some (.int x), h)) := ⟨fun d a0 a2 a3 a4 a5 a6 a7 x st h => fk_w_iloadn 1 [a0, .int x, a2, a3, a4, a5, a6, a7] dX11_isSettled_0 rfl,
  fun d L st h => fk_w_bipush dX11_isSettled_1 (by decide),
  fun d L x0 x1 h => fk_g_calls [.int x0, .int x1] [] rfl lm_11_110 dX11_isSettled_3 rfl ⟨rfl, by decide⟩ (by simp),
  fun d L x st h => fk_r_if_eq dX11_isSettled_6 (by decide),
  fun d a0 a1 a3 a4 a5 a6 a7 x st h => fk_w_iloadn 2 [a0, a1, .int x, a3, a4, a5, a6, a7] dX11_isSettled_9 rfl,
  fun d L st h => fk_w_bipush dX11_isSettled_10 (by decide),
  fun d L x0 x1 h => fk_g_calls [.int x0, .int x1] [] rfl lm_11_110 dX11_isSettled_12 rfl ⟨rfl, by decide⟩ (by simp),
  fun d L x st h => fk_r_if_eq dX11_isSettled_15 (by decide),
  fun d a1 a2 a3 a4 a5 a6 a7 x st h => fk_w_aloadn 0 [.ref x, a1, a2, a3, a4, a5, a6, a7] dX11_isSettled_18 rfl,
  fun d L st N y l => fk_g_getC rfl lf_11_103 (by decide) rfl dX11_isSettled_19 fk_at_1,
  fun d a0 a2 a3 a4 a5 a6 a7 x st h => fk_w_iloadn 1 [a0, .int x, a2, a3, a4, a5, a6, a7] dX11_isSettled_22 rfl,
  fun d L st N y l i hi => fk_g_iald fk_at_244 fk_ln_244 (by decide) dX11_isSettled_23 hi,
  fun d L x st h => fk_r_if_eq dX11_isSettled_24 (by decide),
  fun d a1 a2 a3 a4 a5 a6 a7 x st h => fk_w_aloadn 0 [.ref x, a1, a2, a3, a4, a5, a6, a7] dX11_isSettled_27 rfl,
  fun d L st N y l => fk_g_getC rfl lf_11_107 (by decide) rfl dX11_isSettled_28 fk_at_1,
  fun d a0 a1 a3 a4 a5 a6 a7 x st h => fk_w_iloadn 2 [a0, a1, .int x, a3, a4, a5, a6, a7] dX11_isSettled_31 rfl,
  fun d L st N y l i hi => fk_g_iald fk_at_245 fk_ln_245 (by decide) dX11_isSettled_32 hi,
  fun d L x st h => fk_r_if_ne dX11_isSettled_33 (by decide),
  fun d L st h => fk_w_iconst dX11_isSettled_36 (by decide),
  fun d L h => fk_r_ret dX11_isSettled_37 (Or.inr (Or.inl ⟨rfl, by decide⟩)),
  fun d L h => fk_r_ret dX11_isSettled_37 (Or.inr (Or.inl ⟨rfl, by decide⟩)),
  fun d L p _ h => fk_r_ret dX11_isSettled_37 (Or.inr (Or.inl ⟨rfl, fk_b_01⟩)),
  fun d L x h hx => fk_r_ret dX11_isSettled_37 (Or.inr (Or.inl ⟨rfl, hx⟩)),
  fun d a0 a2 a3 a4 a5 a6 a7 x st h => fk_w_iloadn 1 [a0, .int x, a2, a3, a4, a5, a6, a7] dX11_isSettled_38 rfl,
  fun d a0 a1 a3 a4 a5 a6 a7 x st h => fk_w_iloadn 2 [a0, a1, .int x, a3, a4, a5, a6, a7] dX11_isSettled_39 rfl,
  fun d L x y st h => fk_r_icmp_ne dX11_isSettled_40 (by decide),
  fun d a1 a2 a3 a4 a5 a6 a7 x st h => fk_w_aloadn 0 [.ref x, a1, a2, a3, a4, a5, a6, a7] dX11_isSettled_43 rfl,
  fun d L st N y l => fk_g_getC rfl lf_11_103 (by decide) rfl dX11_isSettled_44 fk_at_1,
  fun d a0 a2 a3 a4 a5 a6 a7 x st h => fk_w_iloadn 1 [a0, .int x, a2, a3, a4, a5, a6, a7] dX11_isSettled_47 rfl,
  fun d L st N y l i hi => fk_g_iald fk_at_244 fk_ln_244 (by decide) dX11_isSettled_48 hi,
  fun d L st h => fk_w_iconst dX11_isSettled_49 (by decide),
  fun d L x y st h => fk_r_idiv dX11_isSettled_50,
  fun d L st h => fk_r_goto dX11_isSettled_51 (by decide),
  fun d a1 a2 a3 a4 a5 a6 a7 x st h => fk_w_aloadn 0 [.ref x, a1, a2, a3, a4, a5, a6, a7] dX11_isSettled_54 rfl,
  fun d L st N y l => fk_g_getC rfl lf_11_103 (by decide) rfl dX11_isSettled_55 fk_at_1,
  fun d a0 a2 a3 a4 a5 a6 a7 x st h => fk_w_iloadn 1 [a0, .int x, a2, a3, a4, a5, a6, a7] dX11_isSettled_58 rfl,
  fun d L st N y l i hi => fk_g_iald fk_at_244 fk_ln_244 (by decide) dX11_isSettled_59 hi,
  fun d a0 a1 a2 a3 a4 a5 a6 a7 x st h => fk_w_istoren 3 8 [] [a0, a1, a2, a3, a4, a5, a6, a7] [a0, a1, a2, .int x, a4, a5, a6, a7] dX11_isSettled_60 rfl rfl (by decide) rfl,
  fun d a0 a2 a3 a4 a5 a6 a7 x st h => fk_w_iloadn 1 [a0, .int x, a2, a3, a4, a5, a6, a7] dX11_isSettled_61 rfl,
  fun d a0 a1 a3 a4 a5 a6 a7 x st h => fk_w_iloadn 2 [a0, a1, .int x, a3, a4, a5, a6, a7] dX11_isSettled_62 rfl,
  fun d L x y st h => fk_r_icmp_ne dX11_isSettled_63 (by decide),
  fun d a1 a2 a3 a4 a5 a6 a7 x st h => fk_w_aloadn 0 [.ref x, a1, a2, a3, a4, a5, a6, a7] dX11_isSettled_66 rfl,
  fun d L st N y l => fk_g_getC rfl lf_11_107 (by decide) rfl dX11_isSettled_67 fk_at_1,
  fun d a0 a1 a3 a4 a5 a6 a7 x st h => fk_w_iloadn 2 [a0, a1, .int x, a3, a4, a5, a6, a7] dX11_isSettled_70 rfl,
  fun d L st N y l i hi => fk_g_iald fk_at_245 fk_ln_245 (by decide) dX11_isSettled_71 hi,
  fun d L st h => fk_w_iconst dX11_isSettled_72 (by decide),
  fun d L x y st h => fk_r_idiv dX11_isSettled_73,
  fun d L st h => fk_r_goto dX11_isSettled_74 (by decide),
  fun d a1 a2 a3 a4 a5 a6 a7 x st h => fk_w_aloadn 0 [.ref x, a1, a2, a3, a4, a5, a6, a7] dX11_isSettled_77 rfl,
  fun d L st N y l => fk_g_getC rfl lf_11_107 (by decide) rfl dX11_isSettled_78 fk_at_1,
  fun d a0 a1 a3 a4 a5 a6 a7 x st h => fk_w_iloadn 2 [a0, a1, .int x, a3, a4, a5, a6, a7] dX11_isSettled_81 rfl,
  fun d L st N y l i hi => fk_g_iald fk_at_245 fk_ln_245 (by decide) dX11_isSettled_82 hi,
  fun d a0 a1 a2 a3 a4 a5 a6 a7 x st h => fk_w_istore 4 8 [] [a0, a1, a2, a3, a4, a5, a6, a7] [a0, a1, a2, a3, .int x, a5, a6, a7] dX11_isSettled_83 rfl rfl (by decide) rfl,
  fun d L st h => fk_w_iconst dX11_isSettled_85 (by decide),
  fun d a0 a1 a2 a3 a4 a5 a6 a7 x st h => fk_w_istore 5 8 [] [a0, a1, a2, a3, a4, a5, a6, a7] [a0, a1, a2, a3, a4, .int x, a6, a7] dX11_isSettled_86 rfl rfl (by decide) rfl,
  fun d L st h => fk_w_bipush dX11_isSettled_90 (by decide),
  fun d L x y st h => fk_r_icmp_ge dX11_isSettled_92 (by decide),
  fun d a0 a1 a2 a3 a4 a6 a7 x st h => fk_w_iload 5 [a0, a1, a2, a3, a4, .int x, a6, a7] dX11_isSettled_95 rfl,
  fun d a0 a1 a3 a4 a5 a6 a7 x st h => fk_w_iloadn 2 [a0, a1, .int x, a3, a4, a5, a6, a7] dX11_isSettled_97 rfl,
  fun d L x y st h => fk_r_icmp_ne dX11_isSettled_98 (by decide),
  fun d a1 a2 a3 a4 a5 a6 a7 x st h => fk_w_aloadn 0 [.ref x, a1, a2, a3, a4, a5, a6, a7] dX11_isSettled_101 rfl,
  fun d L st N y l => fk_g_getC rfl lf_11_103 (by decide) rfl dX11_isSettled_102 fk_at_1,
  fun d a0 a1 a2 a3 a4 a6 a7 x st h => fk_w_iload 5 [a0, a1, a2, a3, a4, .int x, a6, a7] dX11_isSettled_105 rfl,
  fun d L st N y l i hi => fk_g_iald fk_at_244 fk_ln_244 (by decide) dX11_isSettled_107 hi,
  fun d L st h => fk_w_iconst dX11_isSettled_108 (by decide),
  fun d L x y st h => fk_r_idiv dX11_isSettled_109,
  fun d L st h => fk_r_goto dX11_isSettled_110 (by decide),
  fun d a1 a2 a3 a4 a5 a6 a7 x st h => fk_w_aloadn 0 [.ref x, a1, a2, a3, a4, a5, a6, a7] dX11_isSettled_113 rfl,
  fun d L st N y l => fk_g_getC rfl lf_11_103 (by decide) rfl dX11_isSettled_114 fk_at_1,
  fun d a0 a1 a2 a3 a4 a6 a7 x st h => fk_w_iload 5 [a0, a1, a2, a3, a4, .int x, a6, a7] dX11_isSettled_117 rfl,
  fun d L st N y l i hi => fk_g_iald fk_at_244 fk_ln_244 (by decide) dX11_isSettled_119 hi,
  fun d a0 a1 a2 a3 a4 a5 a6 a7 x st h => fk_w_istore 6 8 [] [a0, a1, a2, a3, a4, a5, a6, a7] [a0, a1, a2, a3, a4, a5, .int x, a7] dX11_isSettled_120 rfl rfl (by decide) rfl,
  fun d a0 a1 a2 a3 a4 a6 a7 x st h => fk_w_iload 5 [a0, a1, a2, a3, a4, .int x, a6, a7] dX11_isSettled_122 rfl,
  fun d a0 a2 a3 a4 a5 a6 a7 x st h => fk_w_iloadn 1 [a0, .int x, a2, a3, a4, a5, a6, a7] dX11_isSettled_124 rfl,
  fun d L x y st h => fk_r_icmp_ne dX11_isSettled_125 (by decide),
  fun d a1 a2 a3 a4 a5 a6 a7 x st h => fk_w_aloadn 0 [.ref x, a1, a2, a3, a4, a5, a6, a7] dX11_isSettled_128 rfl,
  fun d L st N y l => fk_g_getC rfl lf_11_107 (by decide) rfl dX11_isSettled_129 fk_at_1,
  fun d a0 a1 a2 a3 a4 a6 a7 x st h => fk_w_iload 5 [a0, a1, a2, a3, a4, .int x, a6, a7] dX11_isSettled_132 rfl,
  fun d L st N y l i hi => fk_g_iald fk_at_245 fk_ln_245 (by decide) dX11_isSettled_134 hi,
  fun d L st h => fk_w_iconst dX11_isSettled_135 (by decide),
  fun d L x y st h => fk_r_idiv dX11_isSettled_136,
  fun d L st h => fk_r_goto dX11_isSettled_137 (by decide),
  fun d a1 a2 a3 a4 a5 a6 a7 x st h => fk_w_aloadn 0 [.ref x, a1, a2, a3, a4, a5, a6, a7] dX11_isSettled_140 rfl,
  fun d L st N y l => fk_g_getC rfl lf_11_107 (by decide) rfl dX11_isSettled_141 fk_at_1,
  fun d a0 a1 a2 a3 a4 a6 a7 x st h => fk_w_iload 5 [a0, a1, a2, a3, a4, .int x, a6, a7] dX11_isSettled_144 rfl,
  fun d L st N y l i hi => fk_g_iald fk_at_245 fk_ln_245 (by decide) dX11_isSettled_146 hi,
  fun d a0 a1 a2 a3 a4 a5 a6 a7 x st h => fk_w_istore 7 8 [] [a0, a1, a2, a3, a4, a5, a6, a7] [a0, a1, a2, a3, a4, a5, a6, .int x] dX11_isSettled_147 rfl rfl (by decide) rfl,
  fun d a0 a1 a2 a3 a4 a5 a7 x st h => fk_w_iload 6 [a0, a1, a2, a3, a4, a5, .int x, a7] dX11_isSettled_149 rfl,
  fun d a0 a1 a2 a4 a5 a6 a7 x st h => fk_w_iloadn 3 [a0, a1, a2, .int x, a4, a5, a6, a7] dX11_isSettled_151 rfl,
  fun d L x y st h => fk_r_icmp_gt dX11_isSettled_152 (by decide),
  fun d a0 a1 a2 a3 a4 a5 a6 x st h => fk_w_iload 7 [a0, a1, a2, a3, a4, a5, a6, .int x] dX11_isSettled_155 rfl,
  fun d a0 a1 a2 a3 a5 a6 a7 x st h => fk_w_iload 4 [a0, a1, a2, a3, .int x, a5, a6, a7] dX11_isSettled_157 rfl,
  fun d L x y st h => fk_r_icmp_le dX11_isSettled_159 (by decide),
  fun d L st h => fk_w_iconst dX11_isSettled_162 (by decide),
  fun d L h => fk_r_ret dX11_isSettled_163 (Or.inr (Or.inl ⟨rfl, by decide⟩)),
  fun d L h => fk_r_ret dX11_isSettled_163 (Or.inr (Or.inl ⟨rfl, by decide⟩)),
  fun d L p _ h => fk_r_ret dX11_isSettled_163 (Or.inr (Or.inl ⟨rfl, fk_b_01⟩)),
  fun d L x h hx => fk_r_ret dX11_isSettled_163 (Or.inr (Or.inl ⟨rfl, hx⟩)),
  fun d a0 a1 a2 a3 a4 a6 a7 x st h => fk_w_iinc 5 8 (1) [] [a0, a1, a2, a3, a4, .int x, a6, a7] [a0, a1, a2, a3, a4, .int (x + nI 1), a6, a7] dX11_isSettled_164 rfl rfl rfl (by decide) rfl,
  fun d L st h => fk_r_goto dX11_isSettled_167 (by decide),
  fun d L st h => fk_w_iconst dX11_isSettled_170 (by decide),
  fun d L h => fk_r_ret dX11_isSettled_171 (Or.inr (Or.inl ⟨rfl, by decide⟩)),
  fun d L h => fk_r_ret dX11_isSettled_171 (Or.inr (Or.inl ⟨rfl, by decide⟩)),
  fun d L p _ h => fk_r_ret dX11_isSettled_171 (Or.inr (Or.inl ⟨rfl, fk_b_01⟩)),
  fun d L x h hx => fk_r_ret dX11_isSettled_171 (Or.inr (Or.inl ⟨rfl, hx⟩))⟩
theorem hX11_isSettled_88 : ∀ (d : Nat) (a0 a1 a2 a3 a4 a6 a7 : Value) (x : Int32) (st : List Value) (h : fk_H), fk_ev d qX11_isSettled 88 [a0, a1, a2, a3, a4, .int x, a6, a7] st h = fk_ev d qX11_isSettled 90 [a0, a1, a2, a3, a4, .int x, a6, a7] (.int x :: st) h := fun d a0 a1 a2 a3 a4 a6 a7 x st h => fk_w_iload 5 [a0, a1, a2, a3, a4, .int x, a6, a7] dX11_isSettled_88 rfl
theorem dX11_seenHour_0 : decode cX11_seenHour 0 = .ok (.aload_n 0, 1) := by decide +kernel
theorem dX11_seenHour_1 : decode cX11_seenHour 1 = .ok (.getfield 33, 3) := by decide +kernel
theorem dX11_seenHour_4 : decode cX11_seenHour 4 = .ok (.iconst 3, 1) := by decide +kernel
theorem dX11_seenHour_5 : decode cX11_seenHour 5 = .ok (.iload_n 1, 1) := by decide +kernel
theorem dX11_seenHour_6 : decode cX11_seenHour 6 = .ok (.imul, 1) := by decide +kernel
theorem dX11_seenHour_7 : decode cX11_seenHour 7 = .ok (.invokevirtual 389, 3) := by decide +kernel
theorem dX11_seenHour_10 : decode cX11_seenHour 10 = .ok (.sipush 256, 3) := by decide +kernel
theorem dX11_seenHour_13 : decode cX11_seenHour 13 = .ok (.imul, 1) := by decide +kernel
theorem dX11_seenHour_14 : decode cX11_seenHour 14 = .ok (.aload_n 0, 1) := by decide +kernel
theorem dX11_seenHour_15 : decode cX11_seenHour 15 = .ok (.getfield 33, 3) := by decide +kernel
theorem dX11_seenHour_18 : decode cX11_seenHour 18 = .ok (.iconst 3, 1) := by decide +kernel
theorem dX11_seenHour_19 : decode cX11_seenHour 19 = .ok (.iload_n 1, 1) := by decide +kernel
theorem dX11_seenHour_20 : decode cX11_seenHour 20 = .ok (.imul, 1) := by decide +kernel
theorem dX11_seenHour_21 : decode cX11_seenHour 21 = .ok (.iconst 1, 1) := by decide +kernel
theorem dX11_seenHour_22 : decode cX11_seenHour 22 = .ok (.iadd, 1) := by decide +kernel
theorem dX11_seenHour_23 : decode cX11_seenHour 23 = .ok (.invokevirtual 389, 3) := by decide +kernel
theorem dX11_seenHour_26 : decode cX11_seenHour 26 = .ok (.iadd, 1) := by decide +kernel
theorem dX11_seenHour_27 : decode cX11_seenHour 27 = .ok (.ireturn, 1) := by decide +kernel
theorem rX11_seenHour : (∀ (d : Nat) (a1 : Value) (x : Nat) (st : List Value) (h : fk_H), fk_ev d qX11_seenHour 0 [.ref x, a1] st h = fk_ev d qX11_seenHour 1 [.ref x, a1] (.ref x :: st) h) ∧
  (∀ (d : Nat) (L st : List Value) (N : Nat) (y : Nat → Nat → Int32) (l : Nat → Nat → Int64), fk_ev d qX11_seenHour 1 L (.ref 1 :: st) (fk_E N y l) = fk_ev d qX11_seenHour 4 L (.ref 26 :: st) (fk_E N y l)) ∧
  (∀ (d : Nat) (L st : List Value) (h : fk_H), fk_ev d qX11_seenHour 4 L st h = fk_ev d qX11_seenHour 5 L (.int (nI 3) :: st) h) ∧
  (∀ (d : Nat) (a0 : Value) (x : Int32) (st : List Value) (h : fk_H), fk_ev d qX11_seenHour 5 [a0, .int x] st h = fk_ev d qX11_seenHour 6 [a0, .int x] (.int x :: st) h) ∧
  (∀ (d : Nat) (L : List Value) (x y : Int32) (st : List Value) (h : fk_H), fk_ev d qX11_seenHour 6 L (.int y :: .int x :: st) h = fk_ev d qX11_seenHour 7 L (.int (x * y) :: st) h) ∧
  (∀ (d : Nat) (L : List Value) (x0 : Int32)  (N : Nat) (y : Nat → Nat → Int32) (l : Nat → Nat → Int64), fk_ev (d + 1) qX11_seenHour 7 L (.int x0 :: .ref 26 :: []) (fk_E N y l) = (fk_ev d qX10_byteAt 0 [.ref 26, .int x0] [] (fk_E N y l)).bind fun o => fk_ev (d + 1) qX11_seenHour 10 L (o.1.toList ++ []) o.2) ∧
  (∀ (d : Nat) (L st : List Value) (h : fk_H), fk_ev d qX11_seenHour 10 L st h = fk_ev d qX11_seenHour 13 L (.int (nI 256) :: st) h) ∧
  (∀ (d : Nat) (L : List Value) (x y : Int32) (st : List Value) (h : fk_H), fk_ev d qX11_seenHour 13 L (.int y :: .int x :: st) h = fk_ev d qX11_seenHour 14 L (.int (x * y) :: st) h) ∧
  (∀ (d : Nat) (a1 : Value) (x : Nat) (st : List Value) (h : fk_H), fk_ev d qX11_seenHour 14 [.ref x, a1] st h = fk_ev d qX11_seenHour 15 [.ref x, a1] (.ref x :: st) h) ∧
  (∀ (d : Nat) (L st : List Value) (N : Nat) (y : Nat → Nat → Int32) (l : Nat → Nat → Int64), fk_ev d qX11_seenHour 15 L (.ref 1 :: st) (fk_E N y l) = fk_ev d qX11_seenHour 18 L (.ref 26 :: st) (fk_E N y l)) ∧
  (∀ (d : Nat) (L st : List Value) (h : fk_H), fk_ev d qX11_seenHour 18 L st h = fk_ev d qX11_seenHour 19 L (.int (nI 3) :: st) h) ∧
  (∀ (d : Nat) (a0 : Value) (x : Int32) (st : List Value) (h : fk_H), fk_ev d qX11_seenHour 19 [a0, .int x] st h = fk_ev d qX11_seenHour 20 [a0, .int x] (.int x :: st) h) ∧
  (∀ (d : Nat) (L : List Value) (x y : Int32) (st : List Value) (h : fk_H), fk_ev d qX11_seenHour 20 L (.int y :: .int x :: st) h = fk_ev d qX11_seenHour 21 L (.int (x * y) :: st) h) ∧
  (∀ (d : Nat) (L st : List Value) (h : fk_H), fk_ev d qX11_seenHour 21 L st h = fk_ev d qX11_seenHour 22 L (.int (nI 1) :: st) h) ∧
  (∀ (d : Nat) (L : List Value) (x y : Int32) (st : List Value) (h : fk_H), fk_ev d qX11_seenHour 22 L (.int y :: .int x :: st) h = fk_ev d qX11_seenHour 23 L (.int (x + y) :: st) h) ∧
  (∀ (d : Nat) (L : List Value) (x0 : Int32) (w0 : Value) (N : Nat) (y : Nat → Nat → Int32) (l : Nat → Nat → Int64), fk_ev (d + 1) qX11_seenHour 23 L (.int x0 :: .ref 26 :: [w0]) (fk_E N y l) = (fk_ev d qX10_byteAt 0 [.ref 26, .int x0] [] (fk_E N y l)).bind fun o => fk_ev (d + 1) qX11_seenHour 26 L (o.1.toList ++ [w0]) o.2) ∧
  (∀ (d : Nat) (L : List Value) (x y : Int32) (st : List Value) (h : fk_H), fk_ev d qX11_seenHour 26 L (.int y :: .int x :: st) h = fk_ev d qX11_seenHour 27 L (.int (x + y) :: st) h) ∧
  (∀ (d : Nat) (L : List Value) (x : Int32) (h : fk_H), fk_ev d qX11_seenHour 27 L [.int x] h = some (some (.int x), h)) := ⟨fun d a1 x st h => fk_w_aloadn 0 [.ref x, a1] dX11_seenHour_0 rfl,
  fun d L st N y l => fk_g_getC rfl lf_11_33 (by decide) rfl dX11_seenHour_1 fk_at_1,
  fun d L st h => fk_w_iconst dX11_seenHour_4 (by decide),
  fun d a0 x st h => fk_w_iloadn 1 [a0, .int x] dX11_seenHour_5 rfl,
  fun d L x y st h => fk_r_imul dX11_seenHour_6,
  fun d L x0 N y l  => fk_g_call [.int x0] [] rfl lm_11_389 dX11_seenHour_7 rfl ⟨rfl, by decide⟩ (by simp) fk_at_26,
  fun d L st h => fk_w_sipush dX11_seenHour_10 (by decide),
  fun d L x y st h => fk_r_imul dX11_seenHour_13,
  fun d a1 x st h => fk_w_aloadn 0 [.ref x, a1] dX11_seenHour_14 rfl,
  fun d L st N y l => fk_g_getC rfl lf_11_33 (by decide) rfl dX11_seenHour_15 fk_at_1,
  fun d L st h => fk_w_iconst dX11_seenHour_18 (by decide),
  fun d a0 x st h => fk_w_iloadn 1 [a0, .int x] dX11_seenHour_19 rfl,
  fun d L x y st h => fk_r_imul dX11_seenHour_20,
  fun d L st h => fk_w_iconst dX11_seenHour_21 (by decide),
  fun d L x y st h => fk_r_iadd dX11_seenHour_22,
  fun d L x0 w0 N y l  => fk_g_call [.int x0] [w0] rfl lm_11_389 dX11_seenHour_23 rfl ⟨rfl, by decide⟩ (by simp) fk_at_26,
  fun d L x y st h => fk_r_iadd dX11_seenHour_26,
  fun d L x h => fk_r_ret dX11_seenHour_27 (Or.inl rfl)⟩
theorem dX11_seenPlace_0 : decode cX11_seenPlace 0 = .ok (.aload_n 0, 1) := by decide +kernel
theorem dX11_seenPlace_1 : decode cX11_seenPlace 1 = .ok (.getfield 33, 3) := by decide +kernel
theorem dX11_seenPlace_4 : decode cX11_seenPlace 4 = .ok (.iconst 3, 1) := by decide +kernel
theorem dX11_seenPlace_5 : decode cX11_seenPlace 5 = .ok (.iload_n 1, 1) := by decide +kernel
theorem dX11_seenPlace_6 : decode cX11_seenPlace 6 = .ok (.imul, 1) := by decide +kernel
theorem dX11_seenPlace_7 : decode cX11_seenPlace 7 = .ok (.iconst 2, 1) := by decide +kernel
theorem dX11_seenPlace_8 : decode cX11_seenPlace 8 = .ok (.iadd, 1) := by decide +kernel
theorem dX11_seenPlace_9 : decode cX11_seenPlace 9 = .ok (.invokevirtual 389, 3) := by decide +kernel
theorem dX11_seenPlace_12 : decode cX11_seenPlace 12 = .ok (.ireturn, 1) := by decide +kernel
theorem rX11_seenPlace : (∀ (d : Nat) (a1 : Value) (x : Nat) (st : List Value) (h : fk_H), fk_ev d qX11_seenPlace 0 [.ref x, a1] st h = fk_ev d qX11_seenPlace 1 [.ref x, a1] (.ref x :: st) h) ∧
  (∀ (d : Nat) (L st : List Value) (N : Nat) (y : Nat → Nat → Int32) (l : Nat → Nat → Int64), fk_ev d qX11_seenPlace 1 L (.ref 1 :: st) (fk_E N y l) = fk_ev d qX11_seenPlace 4 L (.ref 26 :: st) (fk_E N y l)) ∧
  (∀ (d : Nat) (L st : List Value) (h : fk_H), fk_ev d qX11_seenPlace 4 L st h = fk_ev d qX11_seenPlace 5 L (.int (nI 3) :: st) h) ∧
  (∀ (d : Nat) (a0 : Value) (x : Int32) (st : List Value) (h : fk_H), fk_ev d qX11_seenPlace 5 [a0, .int x] st h = fk_ev d qX11_seenPlace 6 [a0, .int x] (.int x :: st) h) ∧
  (∀ (d : Nat) (L : List Value) (x y : Int32) (st : List Value) (h : fk_H), fk_ev d qX11_seenPlace 6 L (.int y :: .int x :: st) h = fk_ev d qX11_seenPlace 7 L (.int (x * y) :: st) h) ∧
  (∀ (d : Nat) (L st : List Value) (h : fk_H), fk_ev d qX11_seenPlace 7 L st h = fk_ev d qX11_seenPlace 8 L (.int (nI 2) :: st) h) ∧
  (∀ (d : Nat) (L : List Value) (x y : Int32) (st : List Value) (h : fk_H), fk_ev d qX11_seenPlace 8 L (.int y :: .int x :: st) h = fk_ev d qX11_seenPlace 9 L (.int (x + y) :: st) h) ∧
  (∀ (d : Nat) (L : List Value) (x0 : Int32)  (N : Nat) (y : Nat → Nat → Int32) (l : Nat → Nat → Int64), fk_ev (d + 1) qX11_seenPlace 9 L (.int x0 :: .ref 26 :: []) (fk_E N y l) = (fk_ev d qX10_byteAt 0 [.ref 26, .int x0] [] (fk_E N y l)).bind fun o => fk_ev (d + 1) qX11_seenPlace 12 L (o.1.toList ++ []) o.2) ∧
  (∀ (d : Nat) (L : List Value) (x : Int32) (h : fk_H), fk_ev d qX11_seenPlace 12 L [.int x] h = some (some (.int x), h)) := ⟨fun d a1 x st h => fk_w_aloadn 0 [.ref x, a1] dX11_seenPlace_0 rfl,
  fun d L st N y l => fk_g_getC rfl lf_11_33 (by decide) rfl dX11_seenPlace_1 fk_at_1,
  fun d L st h => fk_w_iconst dX11_seenPlace_4 (by decide),
  fun d a0 x st h => fk_w_iloadn 1 [a0, .int x] dX11_seenPlace_5 rfl,
  fun d L x y st h => fk_r_imul dX11_seenPlace_6,
  fun d L st h => fk_w_iconst dX11_seenPlace_7 (by decide),
  fun d L x y st h => fk_r_iadd dX11_seenPlace_8,
  fun d L x0 N y l  => fk_g_call [.int x0] [] rfl lm_11_389 dX11_seenPlace_9 rfl ⟨rfl, by decide⟩ (by simp) fk_at_26,
  fun d L x h => fk_r_ret dX11_seenPlace_12 (Or.inl rfl)⟩
theorem dX11_wasSeen_0 : decode cX11_wasSeen 0 = .ok (.iconst 0, 1) := by decide +kernel
theorem dX11_wasSeen_1 : decode cX11_wasSeen 1 = .ok (.istore_n 3, 1) := by decide +kernel
theorem dX11_wasSeen_2 : decode cX11_wasSeen 2 = .ok (.iload_n 3, 1) := by decide +kernel
theorem dX11_wasSeen_3 : decode cX11_wasSeen 3 = .ok (.iload_n 2, 1) := by decide +kernel
theorem dX11_wasSeen_4 : decode cX11_wasSeen 4 = .ok (.if_icmp .ge 36, 3) := by decide +kernel
theorem dX11_wasSeen_7 : decode cX11_wasSeen 7 = .ok (.aload_n 0, 1) := by decide +kernel
theorem dX11_wasSeen_8 : decode cX11_wasSeen 8 = .ok (.getfield 71, 3) := by decide +kernel
theorem dX11_wasSeen_11 : decode cX11_wasSeen 11 = .ok (.aload_n 0, 1) := by decide +kernel
theorem dX11_wasSeen_12 : decode cX11_wasSeen 12 = .ok (.getfield 58, 3) := by decide +kernel
theorem dX11_wasSeen_15 : decode cX11_wasSeen 15 = .ok (.iload_n 1, 1) := by decide +kernel
theorem dX11_wasSeen_16 : decode cX11_wasSeen 16 = .ok (.aload_n 0, 1) := by decide +kernel
theorem dX11_wasSeen_17 : decode cX11_wasSeen 17 = .ok (.iload_n 3, 1) := by decide +kernel
theorem dX11_wasSeen_18 : decode cX11_wasSeen 18 = .ok (.invokevirtual 313, 3) := by decide +kernel
theorem dX11_wasSeen_21 : decode cX11_wasSeen 21 = .ok (.invokevirtual 265, 3) := by decide +kernel
theorem dX11_wasSeen_24 : decode cX11_wasSeen 24 = .ok (.aload_n 0, 1) := by decide +kernel
theorem dX11_wasSeen_25 : decode cX11_wasSeen 25 = .ok (.iload_n 3, 1) := by decide +kernel
theorem dX11_wasSeen_26 : decode cX11_wasSeen 26 = .ok (.invokevirtual 310, 3) := by decide +kernel
theorem dX11_wasSeen_29 : decode cX11_wasSeen 29 = .ok (.if_icmp .eq 5, 3) := by decide +kernel
theorem dX11_wasSeen_32 : decode cX11_wasSeen 32 = .ok (.iconst 0, 1) := by decide +kernel
theorem dX11_wasSeen_33 : decode cX11_wasSeen 33 = .ok (.ireturn, 1) := by decide +kernel
theorem dX11_wasSeen_34 : decode cX11_wasSeen 34 = .ok (.iinc 3 1, 3) := by decide +kernel
theorem dX11_wasSeen_37 : decode cX11_wasSeen 37 = .ok (.goto (-35), 3) := by decide +kernel
theorem dX11_wasSeen_40 : decode cX11_wasSeen 40 = .ok (.iconst 1, 1) := by decide +kernel
theorem dX11_wasSeen_41 : decode cX11_wasSeen 41 = .ok (.ireturn, 1) := by decide +kernel
theorem rX11_wasSeen : (∀ (d : Nat) (L st : List Value) (h : fk_H), fk_ev d qX11_wasSeen 0 L st h = fk_ev d qX11_wasSeen 1 L (.int (nI 0) :: st) h) ∧
  (∀ (d : Nat) (a0 a1 a2 a3 : Value) (x : Int32) (st : List Value) (h : fk_H), fk_ev d qX11_wasSeen 1 [a0, a1, a2, a3] (.int x :: st) h = fk_ev d qX11_wasSeen 2 [a0, a1, a2, .int x] st h) ∧
  (∀ (d : Nat) (a0 a1 a3 : Value) (x : Int32) (st : List Value) (h : fk_H), fk_ev d qX11_wasSeen 3 [a0, a1, .int x, a3] st h = fk_ev d qX11_wasSeen 4 [a0, a1, .int x, a3] (.int x :: st) h) ∧
  (∀ (d : Nat) (L : List Value) (x y : Int32) (st : List Value) (h : fk_H), fk_ev d qX11_wasSeen 4 L (.int y :: .int x :: st) h = if y ≤ x then fk_ev d qX11_wasSeen 40 L st h else fk_ev d qX11_wasSeen 7 L st h) ∧
  (∀ (d : Nat) (a1 a2 a3 : Value) (x : Nat) (st : List Value) (h : fk_H), fk_ev d qX11_wasSeen 7 [.ref x, a1, a2, a3] st h = fk_ev d qX11_wasSeen 8 [.ref x, a1, a2, a3] (.ref x :: st) h) ∧
  (∀ (d : Nat) (L st : List Value) (N : Nat) (y : Nat → Nat → Int32) (l : Nat → Nat → Int64), fk_ev d qX11_wasSeen 8 L (.ref 1 :: st) (fk_E N y l) = fk_ev d qX11_wasSeen 11 L (.ref 234 :: st) (fk_E N y l)) ∧
  (∀ (d : Nat) (a1 a2 a3 : Value) (x : Nat) (st : List Value) (h : fk_H), fk_ev d qX11_wasSeen 11 [.ref x, a1, a2, a3] st h = fk_ev d qX11_wasSeen 12 [.ref x, a1, a2, a3] (.ref x :: st) h) ∧
  (∀ (d : Nat) (L st : List Value) (N : Nat) (y : Nat → Nat → Int32) (l : Nat → Nat → Int64), fk_ev d qX11_wasSeen 12 L (.ref 1 :: st) (fk_E N y l) = fk_ev d qX11_wasSeen 15 L (.ref 33 :: st) (fk_E N y l)) ∧
  (∀ (d : Nat) (a0 a2 a3 : Value) (x : Int32) (st : List Value) (h : fk_H), fk_ev d qX11_wasSeen 15 [a0, .int x, a2, a3] st h = fk_ev d qX11_wasSeen 16 [a0, .int x, a2, a3] (.int x :: st) h) ∧
  (∀ (d : Nat) (a1 a2 a3 : Value) (x : Nat) (st : List Value) (h : fk_H), fk_ev d qX11_wasSeen 16 [.ref x, a1, a2, a3] st h = fk_ev d qX11_wasSeen 17 [.ref x, a1, a2, a3] (.ref x :: st) h) ∧
  (∀ (d : Nat) (a0 a1 a2 : Value) (x : Int32) (st : List Value) (h : fk_H), fk_ev d qX11_wasSeen 17 [a0, a1, a2, .int x] st h = fk_ev d qX11_wasSeen 18 [a0, a1, a2, .int x] (.int x :: st) h) ∧
  (∀ (d : Nat) (L : List Value) (x0 : Int32) (w0 w1 w2 : Value) (N : Nat) (y : Nat → Nat → Int32) (l : Nat → Nat → Int64), fk_ev (d + 1) qX11_wasSeen 18 L (.int x0 :: .ref 1 :: [w0, w1, w2]) (fk_E N y l) = (fk_ev d qX11_seenHour 0 [.ref 1, .int x0] [] (fk_E N y l)).bind fun o => fk_ev (d + 1) qX11_wasSeen 21 L (o.1.toList ++ [w0, w1, w2]) o.2) ∧
  (∀ (d : Nat) (L : List Value) (x0 : Nat) (x1 : Int32) (x2 : Int32)  (N : Nat) (y : Nat → Nat → Int32) (l : Nat → Nat → Int64) (c : Nat), fk_at c 7 → fk_ev (d + 1) qX11_wasSeen 21 L (.int x2 :: .int x1 :: .ref x0 :: .ref c :: []) (fk_E N y l) = (fk_ev d qX7_whereWas 0 [.ref c, .ref x0, .int x1, .int x2, .null, .null] [] (fk_E N y l)).bind fun o => fk_ev (d + 1) qX11_wasSeen 24 L (o.1.toList ++ []) o.2) ∧
  (∀ (d : Nat) (a1 a2 a3 : Value) (x : Nat) (st : List Value) (h : fk_H), fk_ev d qX11_wasSeen 24 [.ref x, a1, a2, a3] st h = fk_ev d qX11_wasSeen 25 [.ref x, a1, a2, a3] (.ref x :: st) h) ∧
  (∀ (d : Nat) (a0 a1 a2 : Value) (x : Int32) (st : List Value) (h : fk_H), fk_ev d qX11_wasSeen 25 [a0, a1, a2, .int x] st h = fk_ev d qX11_wasSeen 26 [a0, a1, a2, .int x] (.int x :: st) h) ∧
  (∀ (d : Nat) (L : List Value) (x0 : Int32) (w0 : Value) (N : Nat) (y : Nat → Nat → Int32) (l : Nat → Nat → Int64), fk_ev (d + 1) qX11_wasSeen 26 L (.int x0 :: .ref 1 :: [w0]) (fk_E N y l) = (fk_ev d qX11_seenPlace 0 [.ref 1, .int x0] [] (fk_E N y l)).bind fun o => fk_ev (d + 1) qX11_wasSeen 29 L (o.1.toList ++ [w0]) o.2) ∧
  (∀ (d : Nat) (L : List Value) (x y : Int32) (st : List Value) (h : fk_H), fk_ev d qX11_wasSeen 29 L (.int y :: .int x :: st) h = if x = y then fk_ev d qX11_wasSeen 34 L st h else fk_ev d qX11_wasSeen 32 L st h) ∧
  (∀ (d : Nat) (L st : List Value) (h : fk_H), fk_ev d qX11_wasSeen 32 L st h = fk_ev d qX11_wasSeen 33 L (.int (nI 0) :: st) h) ∧
  (∀ (d : Nat) (L : List Value) (h : fk_H), fk_ev d qX11_wasSeen 33 L [.int (nI 0)] h = some (some (.int (nI 0)), h)) ∧
  (∀ (d : Nat) (L : List Value) (h : fk_H), fk_ev d qX11_wasSeen 33 L [.int (nI 1)] h = some (some (.int (nI 1)), h)) ∧
  (∀ (d : Nat) (L : List Value) (p : Prop) [Decidable p] (h : fk_H), fk_ev d qX11_wasSeen 33 L [.int (fk_b p)] h = some (some (.int (fk_b p)), h)) ∧
  (∀ (d : Nat) (L : List Value) (x : Int32) (h : fk_H), (x = nI 0 ∨ x = nI 1) → fk_ev d qX11_wasSeen 33 L [.int x] h = some (some (.int x), h)) ∧
  (∀ (d : Nat) (a0 a1 a2 : Value) (x : Int32) (st : List Value) (h : fk_H), fk_ev d qX11_wasSeen 34 [a0, a1, a2, .int x] st h = fk_ev d qX11_wasSeen 37 [a0, a1, a2, .int (x + nI 1)] st h) ∧
  (∀ (d : Nat) (L st : List Value) (h : fk_H), fk_ev d qX11_wasSeen 37 L st h = fk_ev d qX11_wasSeen 2 L st h) ∧
  (∀ (d : Nat) (L st : List Value) (h : fk_H), fk_ev d qX11_wasSeen 40 L st h = fk_ev d qX11_wasSeen 41 L (.int (nI 1) :: st) h) ∧
  (∀ (d : Nat) (L : List Value) (h : fk_H), fk_ev d qX11_wasSeen 41 L [.int (nI 0)] h = some (some (.int (nI 0)), h)) ∧
  (∀ (d : Nat) (L : List Value) (h : fk_H), fk_ev d qX11_wasSeen 41 L [.int (nI 1)] h = some (some (.int (nI 1)), h)) ∧
  (∀ (d : Nat) (L : List Value) (p : Prop) [Decidable p] (h : fk_H), fk_ev d qX11_wasSeen 41 L [.int (fk_b p)] h = some (some (.int (fk_b p)), h)) ∧
  (∀ (d : Nat) (L : List Value) (x : Int32) (h : fk_H), (x = nI 0 ∨ x = nI 1) → fk_ev d qX11_wasSeen 41 L [.int x] h = some (some (.int x), h)) := ⟨fun d L st h => fk_w_iconst dX11_wasSeen_0 (by decide),
  fun d a0 a1 a2 a3 x st h => fk_w_istoren 3 4 [] [a0, a1, a2, a3] [a0, a1, a2, .int x] dX11_wasSeen_1 rfl rfl (by decide) rfl,
  fun d a0 a1 a3 x st h => fk_w_iloadn 2 [a0, a1, .int x, a3] dX11_wasSeen_3 rfl,
  fun d L x y st h => fk_r_icmp_ge dX11_wasSeen_4 (by decide),
  fun d a1 a2 a3 x st h => fk_w_aloadn 0 [.ref x, a1, a2, a3] dX11_wasSeen_7 rfl,
  fun d L st N y l => fk_g_getC rfl lf_11_71 (by decide) rfl dX11_wasSeen_8 fk_at_1,
  fun d a1 a2 a3 x st h => fk_w_aloadn 0 [.ref x, a1, a2, a3] dX11_wasSeen_11 rfl,
  fun d L st N y l => fk_g_getC rfl lf_11_58 (by decide) rfl dX11_wasSeen_12 fk_at_1,
  fun d a0 a2 a3 x st h => fk_w_iloadn 1 [a0, .int x, a2, a3] dX11_wasSeen_15 rfl,
  fun d a1 a2 a3 x st h => fk_w_aloadn 0 [.ref x, a1, a2, a3] dX11_wasSeen_16 rfl,
  fun d a0 a1 a2 x st h => fk_w_iloadn 3 [a0, a1, a2, .int x] dX11_wasSeen_17 rfl,
  fun d L x0 w0 w1 w2 N y l  => fk_g_call [.int x0] [w0, w1, w2] rfl lm_11_313 dX11_wasSeen_18 rfl ⟨rfl, by decide⟩ (by simp) fk_at_1,
  fun d L x0 x1 x2 N y l c hc => fk_g_call [.ref x0, .int x1, .int x2] [] rfl lm_11_265 dX11_wasSeen_21 rfl ⟨rfl, by decide⟩ (by simp) hc,
  fun d a1 a2 a3 x st h => fk_w_aloadn 0 [.ref x, a1, a2, a3] dX11_wasSeen_24 rfl,
  fun d a0 a1 a2 x st h => fk_w_iloadn 3 [a0, a1, a2, .int x] dX11_wasSeen_25 rfl,
  fun d L x0 w0 N y l  => fk_g_call [.int x0] [w0] rfl lm_11_310 dX11_wasSeen_26 rfl ⟨rfl, by decide⟩ (by simp) fk_at_1,
  fun d L x y st h => fk_r_icmp_eq dX11_wasSeen_29 (by decide),
  fun d L st h => fk_w_iconst dX11_wasSeen_32 (by decide),
  fun d L h => fk_r_ret dX11_wasSeen_33 (Or.inr (Or.inl ⟨rfl, by decide⟩)),
  fun d L h => fk_r_ret dX11_wasSeen_33 (Or.inr (Or.inl ⟨rfl, by decide⟩)),
  fun d L p _ h => fk_r_ret dX11_wasSeen_33 (Or.inr (Or.inl ⟨rfl, fk_b_01⟩)),
  fun d L x h hx => fk_r_ret dX11_wasSeen_33 (Or.inr (Or.inl ⟨rfl, hx⟩)),
  fun d a0 a1 a2 x st h => fk_w_iinc 3 4 (1) [] [a0, a1, a2, .int x] [a0, a1, a2, .int (x + nI 1)] dX11_wasSeen_34 rfl rfl rfl (by decide) rfl,
  fun d L st h => fk_r_goto dX11_wasSeen_37 (by decide),
  fun d L st h => fk_w_iconst dX11_wasSeen_40 (by decide),
  fun d L h => fk_r_ret dX11_wasSeen_41 (Or.inr (Or.inl ⟨rfl, by decide⟩)),
  fun d L h => fk_r_ret dX11_wasSeen_41 (Or.inr (Or.inl ⟨rfl, by decide⟩)),
  fun d L p _ h => fk_r_ret dX11_wasSeen_41 (Or.inr (Or.inl ⟨rfl, fk_b_01⟩)),
  fun d L x h hx => fk_r_ret dX11_wasSeen_41 (Or.inr (Or.inl ⟨rfl, hx⟩))⟩
theorem hX11_wasSeen_2 : ∀ (d : Nat) (a0 a1 a2 : Value) (x : Int32) (st : List Value) (h : fk_H), fk_ev d qX11_wasSeen 2 [a0, a1, a2, .int x] st h = fk_ev d qX11_wasSeen 3 [a0, a1, a2, .int x] (.int x :: st) h := fun d a0 a1 a2 x st h => fk_w_iloadn 3 [a0, a1, a2, .int x] dX11_wasSeen_2 rfl
theorem dX11_isSo_0 : decode cX11_isSo 0 = .ok (.iload_n 3, 1) := by decide +kernel
theorem dX11_isSo_1 : decode cX11_isSo 1 = .ok (.aload_n 0, 1) := by decide +kernel
theorem dX11_isSo_2 : decode cX11_isSo 2 = .ok (.getfield 58, 3) := by decide +kernel
theorem dX11_isSo_5 : decode cX11_isSo 5 = .ok (.getfield 380, 3) := by decide +kernel
theorem dX11_isSo_8 : decode cX11_isSo 8 = .ok (.if_icmp .gt 20, 3) := by decide +kernel
theorem dX11_isSo_11 : decode cX11_isSo 11 = .ok (.aload_n 0, 1) := by decide +kernel
theorem dX11_isSo_12 : decode cX11_isSo 12 = .ok (.getfield 71, 3) := by decide +kernel
theorem dX11_isSo_15 : decode cX11_isSo 15 = .ok (.aload_n 0, 1) := by decide +kernel
theorem dX11_isSo_16 : decode cX11_isSo 16 = .ok (.getfield 58, 3) := by decide +kernel
theorem dX11_isSo_19 : decode cX11_isSo 19 = .ok (.iload_n 3, 1) := by decide +kernel
theorem dX11_isSo_20 : decode cX11_isSo 20 = .ok (.invokevirtual 316, 3) := by decide +kernel
theorem dX11_isSo_23 : decode cX11_isSo 23 = .ok (.ifCond .ne 5, 3) := by decide +kernel
theorem dX11_isSo_26 : decode cX11_isSo 26 = .ok (.iconst 1, 1) := by decide +kernel
theorem dX11_isSo_27 : decode cX11_isSo 27 = .ok (.ireturn, 1) := by decide +kernel
theorem dX11_isSo_28 : decode cX11_isSo 28 = .ok (.aload_n 0, 1) := by decide +kernel
theorem dX11_isSo_29 : decode cX11_isSo 29 = .ok (.getfield 71, 3) := by decide +kernel
theorem dX11_isSo_32 : decode cX11_isSo 32 = .ok (.aload_n 0, 1) := by decide +kernel
theorem dX11_isSo_33 : decode cX11_isSo 33 = .ok (.getfield 58, 3) := by decide +kernel
theorem dX11_isSo_36 : decode cX11_isSo 36 = .ok (.iload_n 1, 1) := by decide +kernel
theorem dX11_isSo_37 : decode cX11_isSo 37 = .ok (.iload_n 3, 1) := by decide +kernel
theorem dX11_isSo_38 : decode cX11_isSo 38 = .ok (.invokevirtual 265, 3) := by decide +kernel
theorem dX11_isSo_41 : decode cX11_isSo 41 = .ok (.iload_n 2, 1) := by decide +kernel
theorem dX11_isSo_42 : decode cX11_isSo 42 = .ok (.if_icmp .ne 7, 3) := by decide +kernel
theorem dX11_isSo_45 : decode cX11_isSo 45 = .ok (.iconst 1, 1) := by decide +kernel
theorem dX11_isSo_46 : decode cX11_isSo 46 = .ok (.goto 4, 3) := by decide +kernel
theorem dX11_isSo_49 : decode cX11_isSo 49 = .ok (.iconst 0, 1) := by decide +kernel
theorem dX11_isSo_50 : decode cX11_isSo 50 = .ok (.ireturn, 1) := by decide +kernel
theorem rX11_isSo : (∀ (d : Nat) (a0 a1 a2 : Value) (x : Int32) (st : List Value) (h : fk_H), fk_ev d qX11_isSo 0 [a0, a1, a2, .int x] st h = fk_ev d qX11_isSo 1 [a0, a1, a2, .int x] (.int x :: st) h) ∧
  (∀ (d : Nat) (a1 a2 a3 : Value) (x : Nat) (st : List Value) (h : fk_H), fk_ev d qX11_isSo 1 [.ref x, a1, a2, a3] st h = fk_ev d qX11_isSo 2 [.ref x, a1, a2, a3] (.ref x :: st) h) ∧
  (∀ (d : Nat) (L st : List Value) (N : Nat) (y : Nat → Nat → Int32) (l : Nat → Nat → Int64), fk_ev d qX11_isSo 2 L (.ref 1 :: st) (fk_E N y l) = fk_ev d qX11_isSo 5 L (.ref 33 :: st) (fk_E N y l)) ∧
  (∀ (d : Nat) (L st : List Value) (N : Nat) (y : Nat → Nat → Int32) (l : Nat → Nat → Int64) (c : Nat), fk_at c 8 → fk_ev d qX11_isSo 5 L (.ref c :: st) (fk_E N y l) = fk_ev d qX11_isSo 8 L (.int (y c 3) :: st) (fk_E N y l)) ∧
  (∀ (d : Nat) (L : List Value) (x y : Int32) (st : List Value) (h : fk_H), fk_ev d qX11_isSo 8 L (.int y :: .int x :: st) h = if y < x then fk_ev d qX11_isSo 28 L st h else fk_ev d qX11_isSo 11 L st h) ∧
  (∀ (d : Nat) (a1 a2 a3 : Value) (x : Nat) (st : List Value) (h : fk_H), fk_ev d qX11_isSo 11 [.ref x, a1, a2, a3] st h = fk_ev d qX11_isSo 12 [.ref x, a1, a2, a3] (.ref x :: st) h) ∧
  (∀ (d : Nat) (L st : List Value) (N : Nat) (y : Nat → Nat → Int32) (l : Nat → Nat → Int64), fk_ev d qX11_isSo 12 L (.ref 1 :: st) (fk_E N y l) = fk_ev d qX11_isSo 15 L (.ref 234 :: st) (fk_E N y l)) ∧
  (∀ (d : Nat) (a1 a2 a3 : Value) (x : Nat) (st : List Value) (h : fk_H), fk_ev d qX11_isSo 15 [.ref x, a1, a2, a3] st h = fk_ev d qX11_isSo 16 [.ref x, a1, a2, a3] (.ref x :: st) h) ∧
  (∀ (d : Nat) (L st : List Value) (N : Nat) (y : Nat → Nat → Int32) (l : Nat → Nat → Int64), fk_ev d qX11_isSo 16 L (.ref 1 :: st) (fk_E N y l) = fk_ev d qX11_isSo 19 L (.ref 33 :: st) (fk_E N y l)) ∧
  (∀ (d : Nat) (a0 a1 a2 : Value) (x : Int32) (st : List Value) (h : fk_H), fk_ev d qX11_isSo 19 [a0, a1, a2, .int x] st h = fk_ev d qX11_isSo 20 [a0, a1, a2, .int x] (.int x :: st) h) ∧
  (∀ (d : Nat) (L : List Value) (x0 : Nat) (x1 : Int32)  (N : Nat) (y : Nat → Nat → Int32) (l : Nat → Nat → Int64) (c : Nat), fk_at c 7 → fk_ev (d + 1) qX11_isSo 20 L (.int x1 :: .ref x0 :: .ref c :: []) (fk_E N y l) = (fk_ev d qX7_isRemembered 0 [.ref c, .ref x0, .int x1] [] (fk_E N y l)).bind fun o => fk_ev (d + 1) qX11_isSo 23 L (o.1.toList ++ []) o.2) ∧
  (∀ (d : Nat) (L : List Value) (x : Int32) (st : List Value) (h : fk_H), fk_ev d qX11_isSo 23 L (.int x :: st) h = if ¬ x = nI 0 then fk_ev d qX11_isSo 28 L st h else fk_ev d qX11_isSo 26 L st h) ∧
  (∀ (d : Nat) (L st : List Value) (h : fk_H), fk_ev d qX11_isSo 26 L st h = fk_ev d qX11_isSo 27 L (.int (nI 1) :: st) h) ∧
  (∀ (d : Nat) (L : List Value) (h : fk_H), fk_ev d qX11_isSo 27 L [.int (nI 0)] h = some (some (.int (nI 0)), h)) ∧
  (∀ (d : Nat) (L : List Value) (h : fk_H), fk_ev d qX11_isSo 27 L [.int (nI 1)] h = some (some (.int (nI 1)), h)) ∧
  (∀ (d : Nat) (L : List Value) (p : Prop) [Decidable p] (h : fk_H), fk_ev d qX11_isSo 27 L [.int (fk_b p)] h = some (some (.int (fk_b p)), h)) ∧
  (∀ (d : Nat) (L : List Value) (x : Int32) (h : fk_H), (x = nI 0 ∨ x = nI 1) → fk_ev d qX11_isSo 27 L [.int x] h = some (some (.int x), h)) ∧
  (∀ (d : Nat) (a1 a2 a3 : Value) (x : Nat) (st : List Value) (h : fk_H), fk_ev d qX11_isSo 28 [.ref x, a1, a2, a3] st h = fk_ev d qX11_isSo 29 [.ref x, a1, a2, a3] (.ref x :: st) h) ∧
  (∀ (d : Nat) (L st : List Value) (N : Nat) (y : Nat → Nat → Int32) (l : Nat → Nat → Int64), fk_ev d qX11_isSo 29 L (.ref 1 :: st) (fk_E N y l) = fk_ev d qX11_isSo 32 L (.ref 234 :: st) (fk_E N y l)) ∧
  (∀ (d : Nat) (a1 a2 a3 : Value) (x : Nat) (st : List Value) (h : fk_H), fk_ev d qX11_isSo 32 [.ref x, a1, a2, a3] st h = fk_ev d qX11_isSo 33 [.ref x, a1, a2, a3] (.ref x :: st) h) ∧
  (∀ (d : Nat) (L st : List Value) (N : Nat) (y : Nat → Nat → Int32) (l : Nat → Nat → Int64), fk_ev d qX11_isSo 33 L (.ref 1 :: st) (fk_E N y l) = fk_ev d qX11_isSo 36 L (.ref 33 :: st) (fk_E N y l)) ∧
  (∀ (d : Nat) (a0 a2 a3 : Value) (x : Int32) (st : List Value) (h : fk_H), fk_ev d qX11_isSo 36 [a0, .int x, a2, a3] st h = fk_ev d qX11_isSo 37 [a0, .int x, a2, a3] (.int x :: st) h) ∧
  (∀ (d : Nat) (a0 a1 a2 : Value) (x : Int32) (st : List Value) (h : fk_H), fk_ev d qX11_isSo 37 [a0, a1, a2, .int x] st h = fk_ev d qX11_isSo 38 [a0, a1, a2, .int x] (.int x :: st) h) ∧
  (∀ (d : Nat) (L : List Value) (x0 : Nat) (x1 : Int32) (x2 : Int32)  (N : Nat) (y : Nat → Nat → Int32) (l : Nat → Nat → Int64) (c : Nat), fk_at c 7 → fk_ev (d + 1) qX11_isSo 38 L (.int x2 :: .int x1 :: .ref x0 :: .ref c :: []) (fk_E N y l) = (fk_ev d qX7_whereWas 0 [.ref c, .ref x0, .int x1, .int x2, .null, .null] [] (fk_E N y l)).bind fun o => fk_ev (d + 1) qX11_isSo 41 L (o.1.toList ++ []) o.2) ∧
  (∀ (d : Nat) (a0 a1 a3 : Value) (x : Int32) (st : List Value) (h : fk_H), fk_ev d qX11_isSo 41 [a0, a1, .int x, a3] st h = fk_ev d qX11_isSo 42 [a0, a1, .int x, a3] (.int x :: st) h) ∧
  (∀ (d : Nat) (L : List Value) (x y : Int32) (st : List Value) (h : fk_H), fk_ev d qX11_isSo 42 L (.int y :: .int x :: st) h = if ¬ x = y then fk_ev d qX11_isSo 49 L st h else fk_ev d qX11_isSo 45 L st h) ∧
  (∀ (d : Nat) (L st : List Value) (h : fk_H), fk_ev d qX11_isSo 45 L st h = fk_ev d qX11_isSo 46 L (.int (nI 1) :: st) h) ∧
  (∀ (d : Nat) (L st : List Value) (h : fk_H), fk_ev d qX11_isSo 46 L st h = fk_ev d qX11_isSo 50 L st h) ∧
  (∀ (d : Nat) (L st : List Value) (h : fk_H), fk_ev d qX11_isSo 49 L st h = fk_ev d qX11_isSo 50 L (.int (nI 0) :: st) h) ∧
  (∀ (d : Nat) (L : List Value) (h : fk_H), fk_ev d qX11_isSo 50 L [.int (nI 0)] h = some (some (.int (nI 0)), h)) ∧
  (∀ (d : Nat) (L : List Value) (h : fk_H), fk_ev d qX11_isSo 50 L [.int (nI 1)] h = some (some (.int (nI 1)), h)) ∧
  (∀ (d : Nat) (L : List Value) (p : Prop) [Decidable p] (h : fk_H), fk_ev d qX11_isSo 50 L [.int (fk_b p)] h = some (some (.int (fk_b p)), h)) ∧
  (∀ (d : Nat) (L : List Value) (x : Int32) (h : fk_H), (x = nI 0 ∨ x = nI 1) → fk_ev d qX11_isSo 50 L [.int x] h = some (some (.int x), h)) := ⟨fun d a0 a1 a2 x st h => fk_w_iloadn 3 [a0, a1, a2, .int x] dX11_isSo_0 rfl,
  fun d a1 a2 a3 x st h => fk_w_aloadn 0 [.ref x, a1, a2, a3] dX11_isSo_1 rfl,
  fun d L st N y l => fk_g_getC rfl lf_11_58 (by decide) rfl dX11_isSo_2 fk_at_1,
  fun d L st N y l c hc => fk_g_getI rfl lf_11_380 (by decide) dX11_isSo_5 hc,
  fun d L x y st h => fk_r_icmp_gt dX11_isSo_8 (by decide),
  fun d a1 a2 a3 x st h => fk_w_aloadn 0 [.ref x, a1, a2, a3] dX11_isSo_11 rfl,
  fun d L st N y l => fk_g_getC rfl lf_11_71 (by decide) rfl dX11_isSo_12 fk_at_1,
  fun d a1 a2 a3 x st h => fk_w_aloadn 0 [.ref x, a1, a2, a3] dX11_isSo_15 rfl,
  fun d L st N y l => fk_g_getC rfl lf_11_58 (by decide) rfl dX11_isSo_16 fk_at_1,
  fun d a0 a1 a2 x st h => fk_w_iloadn 3 [a0, a1, a2, .int x] dX11_isSo_19 rfl,
  fun d L x0 x1 N y l c hc => fk_g_call [.ref x0, .int x1] [] rfl lm_11_316 dX11_isSo_20 rfl ⟨rfl, by decide⟩ (by simp) hc,
  fun d L x st h => fk_r_if_ne dX11_isSo_23 (by decide),
  fun d L st h => fk_w_iconst dX11_isSo_26 (by decide),
  fun d L h => fk_r_ret dX11_isSo_27 (Or.inr (Or.inl ⟨rfl, by decide⟩)),
  fun d L h => fk_r_ret dX11_isSo_27 (Or.inr (Or.inl ⟨rfl, by decide⟩)),
  fun d L p _ h => fk_r_ret dX11_isSo_27 (Or.inr (Or.inl ⟨rfl, fk_b_01⟩)),
  fun d L x h hx => fk_r_ret dX11_isSo_27 (Or.inr (Or.inl ⟨rfl, hx⟩)),
  fun d a1 a2 a3 x st h => fk_w_aloadn 0 [.ref x, a1, a2, a3] dX11_isSo_28 rfl,
  fun d L st N y l => fk_g_getC rfl lf_11_71 (by decide) rfl dX11_isSo_29 fk_at_1,
  fun d a1 a2 a3 x st h => fk_w_aloadn 0 [.ref x, a1, a2, a3] dX11_isSo_32 rfl,
  fun d L st N y l => fk_g_getC rfl lf_11_58 (by decide) rfl dX11_isSo_33 fk_at_1,
  fun d a0 a2 a3 x st h => fk_w_iloadn 1 [a0, .int x, a2, a3] dX11_isSo_36 rfl,
  fun d a0 a1 a2 x st h => fk_w_iloadn 3 [a0, a1, a2, .int x] dX11_isSo_37 rfl,
  fun d L x0 x1 x2 N y l c hc => fk_g_call [.ref x0, .int x1, .int x2] [] rfl lm_11_265 dX11_isSo_38 rfl ⟨rfl, by decide⟩ (by simp) hc,
  fun d a0 a1 a3 x st h => fk_w_iloadn 2 [a0, a1, .int x, a3] dX11_isSo_41 rfl,
  fun d L x y st h => fk_r_icmp_ne dX11_isSo_42 (by decide),
  fun d L st h => fk_w_iconst dX11_isSo_45 (by decide),
  fun d L st h => fk_r_goto dX11_isSo_46 (by decide),
  fun d L st h => fk_w_iconst dX11_isSo_49 (by decide),
  fun d L h => fk_r_ret dX11_isSo_50 (Or.inr (Or.inl ⟨rfl, by decide⟩)),
  fun d L h => fk_r_ret dX11_isSo_50 (Or.inr (Or.inl ⟨rfl, by decide⟩)),
  fun d L p _ h => fk_r_ret dX11_isSo_50 (Or.inr (Or.inl ⟨rfl, fk_b_01⟩)),
  fun d L x h hx => fk_r_ret dX11_isSo_50 (Or.inr (Or.inl ⟨rfl, hx⟩))⟩
theorem dJ7_fill_53178_0 : decode cJ7_fill_53178 0 = .ok (.iconst 0, 1) := by decide +kernel
theorem dJ7_fill_53178_1 : decode cJ7_fill_53178 1 = .ok (.istore_n 2, 1) := by decide +kernel
theorem dJ7_fill_53178_2 : decode cJ7_fill_53178 2 = .ok (.aload_n 0, 1) := by decide +kernel
theorem dJ7_fill_53178_3 : decode cJ7_fill_53178 3 = .ok (.arraylength, 1) := by decide +kernel
theorem dJ7_fill_53178_4 : decode cJ7_fill_53178 4 = .ok (.istore_n 3, 1) := by decide +kernel
theorem dJ7_fill_53178_5 : decode cJ7_fill_53178 5 = .ok (.iload_n 2, 1) := by decide +kernel
theorem dJ7_fill_53178_6 : decode cJ7_fill_53178 6 = .ok (.iload_n 3, 1) := by decide +kernel
theorem dJ7_fill_53178_7 : decode cJ7_fill_53178 7 = .ok (.if_icmp .ge 13, 3) := by decide +kernel
theorem dJ7_fill_53178_10 : decode cJ7_fill_53178 10 = .ok (.aload_n 0, 1) := by decide +kernel
theorem dJ7_fill_53178_11 : decode cJ7_fill_53178 11 = .ok (.iload_n 2, 1) := by decide +kernel
theorem dJ7_fill_53178_12 : decode cJ7_fill_53178 12 = .ok (.iload_n 1, 1) := by decide +kernel
theorem dJ7_fill_53178_13 : decode cJ7_fill_53178 13 = .ok (.iastore, 1) := by decide +kernel
theorem dJ7_fill_53178_14 : decode cJ7_fill_53178 14 = .ok (.iinc 2 1, 3) := by decide +kernel
theorem dJ7_fill_53178_17 : decode cJ7_fill_53178 17 = .ok (.goto (-12), 3) := by decide +kernel
theorem dJ7_fill_53178_20 : decode cJ7_fill_53178 20 = .ok (.return_, 1) := by decide +kernel
theorem rJ7_fill_53178 : (∀ (d : Nat) (L st : List Value) (h : fk_H), fk_ev d qJ7_fill_53178 0 L st h = fk_ev d qJ7_fill_53178 1 L (.int (nI 0) :: st) h) ∧
  (∀ (d : Nat) (a0 a1 a2 a3 : Value) (x : Int32) (st : List Value) (h : fk_H), fk_ev d qJ7_fill_53178 1 [a0, a1, a2, a3] (.int x :: st) h = fk_ev d qJ7_fill_53178 2 [a0, a1, .int x, a3] st h) ∧
  (∀ (d : Nat) (a1 a2 a3 : Value) (x : Nat) (st : List Value) (h : fk_H), fk_ev d qJ7_fill_53178 2 [.ref x, a1, a2, a3] st h = fk_ev d qJ7_fill_53178 3 [.ref x, a1, a2, a3] (.ref x :: st) h) ∧
  (∀ (d : Nat) (L st : List Value) (N : Nat) (y : Nat → Nat → Int32) (l : Nat → Nat → Int64) (c : Nat), fk_at c 20 → fk_ev d qJ7_fill_53178 3 L (.ref c :: st) (fk_E N y l) = fk_ev d qJ7_fill_53178 4 L (.int (nI (fk_shp c).2) :: st) (fk_E N y l)) ∧
  (∀ (d : Nat) (a0 a1 a2 a3 : Value) (x : Int32) (st : List Value) (h : fk_H), fk_ev d qJ7_fill_53178 4 [a0, a1, a2, a3] (.int x :: st) h = fk_ev d qJ7_fill_53178 5 [a0, a1, a2, .int x] st h) ∧
  (∀ (d : Nat) (a0 a1 a2 : Value) (x : Int32) (st : List Value) (h : fk_H), fk_ev d qJ7_fill_53178 6 [a0, a1, a2, .int x] st h = fk_ev d qJ7_fill_53178 7 [a0, a1, a2, .int x] (.int x :: st) h) ∧
  (∀ (d : Nat) (L : List Value) (x y : Int32) (st : List Value) (h : fk_H), fk_ev d qJ7_fill_53178 7 L (.int y :: .int x :: st) h = if y ≤ x then fk_ev d qJ7_fill_53178 20 L st h else fk_ev d qJ7_fill_53178 10 L st h) ∧
  (∀ (d : Nat) (a1 a2 a3 : Value) (x : Nat) (st : List Value) (h : fk_H), fk_ev d qJ7_fill_53178 10 [.ref x, a1, a2, a3] st h = fk_ev d qJ7_fill_53178 11 [.ref x, a1, a2, a3] (.ref x :: st) h) ∧
  (∀ (d : Nat) (a0 a1 a3 : Value) (x : Int32) (st : List Value) (h : fk_H), fk_ev d qJ7_fill_53178 11 [a0, a1, .int x, a3] st h = fk_ev d qJ7_fill_53178 12 [a0, a1, .int x, a3] (.int x :: st) h) ∧
  (∀ (d : Nat) (a0 a2 a3 : Value) (x : Int32) (st : List Value) (h : fk_H), fk_ev d qJ7_fill_53178 12 [a0, .int x, a2, a3] st h = fk_ev d qJ7_fill_53178 13 [a0, .int x, a2, a3] (.int x :: st) h) ∧
  (∀ (d : Nat) (L st : List Value) (N : Nat) (y : Nat → Nat → Int32) (l : Nat → Nat → Int64) (c i : Nat) (v : Int32), fk_at c 20 → i < (fk_shp c).2 → (fk_shp c).2 < 2 ^ 31 → fk_ev d qJ7_fill_53178 13 L (.int v :: .int (nI i) :: .ref c :: st) (fk_E N y l) = fk_ev d qJ7_fill_53178 14 L st (fk_E N (fk_u y c i v) l)) ∧
  (∀ (d : Nat) (a0 a1 a3 : Value) (x : Int32) (st : List Value) (h : fk_H), fk_ev d qJ7_fill_53178 14 [a0, a1, .int x, a3] st h = fk_ev d qJ7_fill_53178 17 [a0, a1, .int (x + nI 1), a3] st h) ∧
  (∀ (d : Nat) (L st : List Value) (h : fk_H), fk_ev d qJ7_fill_53178 17 L st h = fk_ev d qJ7_fill_53178 5 L st h) ∧
  (∀ (d : Nat) (L : List Value) (h : fk_H), fk_ev d qJ7_fill_53178 20 L [] h = some (none, h)) := ⟨fun d L st h => fk_w_iconst dJ7_fill_53178_0 (by decide),
  fun d a0 a1 a2 a3 x st h => fk_w_istoren 2 4 [] [a0, a1, a2, a3] [a0, a1, .int x, a3] dJ7_fill_53178_1 rfl rfl (by decide) rfl,
  fun d a1 a2 a3 x st h => fk_w_aloadn 0 [.ref x, a1, a2, a3] dJ7_fill_53178_2 rfl,
  fun d L st N y l c hc => fk_h_alen dJ7_fill_53178_3 hc,
  fun d a0 a1 a2 a3 x st h => fk_w_istoren 3 4 [] [a0, a1, a2, a3] [a0, a1, a2, .int x] dJ7_fill_53178_4 rfl rfl (by decide) rfl,
  fun d a0 a1 a2 x st h => fk_w_iloadn 3 [a0, a1, a2, .int x] dJ7_fill_53178_6 rfl,
  fun d L x y st h => fk_r_icmp_ge dJ7_fill_53178_7 (by decide),
  fun d a1 a2 a3 x st h => fk_w_aloadn 0 [.ref x, a1, a2, a3] dJ7_fill_53178_10 rfl,
  fun d a0 a1 a3 x st h => fk_w_iloadn 2 [a0, a1, .int x, a3] dJ7_fill_53178_11 rfl,
  fun d a0 a2 a3 x st h => fk_w_iloadn 1 [a0, .int x, a2, a3] dJ7_fill_53178_12 rfl,
  fun d L st N y l c i v hc hi hl => fk_h_iast dJ7_fill_53178_13 hc hi hl,
  fun d a0 a1 a3 x st h => fk_w_iinc 2 4 (1) [] [a0, a1, .int x, a3] [a0, a1, .int (x + nI 1), a3] dJ7_fill_53178_14 rfl rfl rfl (by decide) rfl,
  fun d L st h => fk_r_goto dJ7_fill_53178_17 (by decide),
  fun d L h => fk_r_vret dJ7_fill_53178_20 rfl⟩
theorem hJ7_fill_53178_5 : ∀ (d : Nat) (a0 a1 a3 : Value) (x : Int32) (st : List Value) (h : fk_H), fk_ev d qJ7_fill_53178 5 [a0, a1, .int x, a3] st h = fk_ev d qJ7_fill_53178 6 [a0, a1, .int x, a3] (.int x :: st) h := fun d a0 a1 a3 x st h => fk_w_iloadn 2 [a0, a1, .int x, a3] dJ7_fill_53178_5 rfl
theorem dJ6_bitCount_0f7a4_0 : decode cJ6_bitCount_0f7a4 0 = .ok (.iload_n 0, 1) := by decide +kernel
theorem dJ6_bitCount_0f7a4_1 : decode cJ6_bitCount_0f7a4 1 = .ok (.iload_n 0, 1) := by decide +kernel
theorem dJ6_bitCount_0f7a4_2 : decode cJ6_bitCount_0f7a4 2 = .ok (.iconst 1, 1) := by decide +kernel
theorem dJ6_bitCount_0f7a4_3 : decode cJ6_bitCount_0f7a4 3 = .ok (.iushr, 1) := by decide +kernel
theorem dJ6_bitCount_0f7a4_4 : decode cJ6_bitCount_0f7a4 4 = .ok (.ldc_w 265, 3) := by decide +kernel
theorem dJ6_bitCount_0f7a4_7 : decode cJ6_bitCount_0f7a4 7 = .ok (.iand, 1) := by decide +kernel
theorem dJ6_bitCount_0f7a4_8 : decode cJ6_bitCount_0f7a4 8 = .ok (.isub, 1) := by decide +kernel
theorem dJ6_bitCount_0f7a4_9 : decode cJ6_bitCount_0f7a4 9 = .ok (.istore_n 0, 1) := by decide +kernel
theorem dJ6_bitCount_0f7a4_10 : decode cJ6_bitCount_0f7a4 10 = .ok (.iload_n 0, 1) := by decide +kernel
theorem dJ6_bitCount_0f7a4_11 : decode cJ6_bitCount_0f7a4 11 = .ok (.ldc_w 266, 3) := by decide +kernel
theorem dJ6_bitCount_0f7a4_14 : decode cJ6_bitCount_0f7a4 14 = .ok (.iand, 1) := by decide +kernel
theorem dJ6_bitCount_0f7a4_15 : decode cJ6_bitCount_0f7a4 15 = .ok (.iload_n 0, 1) := by decide +kernel
theorem dJ6_bitCount_0f7a4_16 : decode cJ6_bitCount_0f7a4 16 = .ok (.iconst 2, 1) := by decide +kernel
theorem dJ6_bitCount_0f7a4_17 : decode cJ6_bitCount_0f7a4 17 = .ok (.iushr, 1) := by decide +kernel
theorem dJ6_bitCount_0f7a4_18 : decode cJ6_bitCount_0f7a4 18 = .ok (.ldc_w 266, 3) := by decide +kernel
theorem dJ6_bitCount_0f7a4_21 : decode cJ6_bitCount_0f7a4 21 = .ok (.iand, 1) := by decide +kernel
theorem dJ6_bitCount_0f7a4_22 : decode cJ6_bitCount_0f7a4 22 = .ok (.iadd, 1) := by decide +kernel
theorem dJ6_bitCount_0f7a4_23 : decode cJ6_bitCount_0f7a4 23 = .ok (.istore_n 0, 1) := by decide +kernel
theorem dJ6_bitCount_0f7a4_24 : decode cJ6_bitCount_0f7a4 24 = .ok (.iload_n 0, 1) := by decide +kernel
theorem dJ6_bitCount_0f7a4_25 : decode cJ6_bitCount_0f7a4 25 = .ok (.iload_n 0, 1) := by decide +kernel
theorem dJ6_bitCount_0f7a4_26 : decode cJ6_bitCount_0f7a4 26 = .ok (.iconst 4, 1) := by decide +kernel
theorem dJ6_bitCount_0f7a4_27 : decode cJ6_bitCount_0f7a4 27 = .ok (.iushr, 1) := by decide +kernel
theorem dJ6_bitCount_0f7a4_28 : decode cJ6_bitCount_0f7a4 28 = .ok (.iadd, 1) := by decide +kernel
theorem dJ6_bitCount_0f7a4_29 : decode cJ6_bitCount_0f7a4 29 = .ok (.ldc_w 267, 3) := by decide +kernel
theorem dJ6_bitCount_0f7a4_32 : decode cJ6_bitCount_0f7a4 32 = .ok (.iand, 1) := by decide +kernel
theorem dJ6_bitCount_0f7a4_33 : decode cJ6_bitCount_0f7a4 33 = .ok (.istore_n 0, 1) := by decide +kernel
theorem dJ6_bitCount_0f7a4_34 : decode cJ6_bitCount_0f7a4 34 = .ok (.iload_n 0, 1) := by decide +kernel
theorem dJ6_bitCount_0f7a4_35 : decode cJ6_bitCount_0f7a4 35 = .ok (.iload_n 0, 1) := by decide +kernel
theorem dJ6_bitCount_0f7a4_36 : decode cJ6_bitCount_0f7a4 36 = .ok (.bipush 8, 2) := by decide +kernel
theorem dJ6_bitCount_0f7a4_38 : decode cJ6_bitCount_0f7a4 38 = .ok (.iushr, 1) := by decide +kernel
theorem dJ6_bitCount_0f7a4_39 : decode cJ6_bitCount_0f7a4 39 = .ok (.iadd, 1) := by decide +kernel
theorem dJ6_bitCount_0f7a4_40 : decode cJ6_bitCount_0f7a4 40 = .ok (.istore_n 0, 1) := by decide +kernel
theorem dJ6_bitCount_0f7a4_41 : decode cJ6_bitCount_0f7a4 41 = .ok (.iload_n 0, 1) := by decide +kernel
theorem dJ6_bitCount_0f7a4_42 : decode cJ6_bitCount_0f7a4 42 = .ok (.iload_n 0, 1) := by decide +kernel
theorem dJ6_bitCount_0f7a4_43 : decode cJ6_bitCount_0f7a4 43 = .ok (.bipush 16, 2) := by decide +kernel
theorem dJ6_bitCount_0f7a4_45 : decode cJ6_bitCount_0f7a4 45 = .ok (.iushr, 1) := by decide +kernel
theorem dJ6_bitCount_0f7a4_46 : decode cJ6_bitCount_0f7a4 46 = .ok (.iadd, 1) := by decide +kernel
theorem dJ6_bitCount_0f7a4_47 : decode cJ6_bitCount_0f7a4 47 = .ok (.istore_n 0, 1) := by decide +kernel
theorem dJ6_bitCount_0f7a4_48 : decode cJ6_bitCount_0f7a4 48 = .ok (.iload_n 0, 1) := by decide +kernel
theorem dJ6_bitCount_0f7a4_49 : decode cJ6_bitCount_0f7a4 49 = .ok (.bipush 63, 2) := by decide +kernel
theorem dJ6_bitCount_0f7a4_51 : decode cJ6_bitCount_0f7a4 51 = .ok (.iand, 1) := by decide +kernel
theorem dJ6_bitCount_0f7a4_52 : decode cJ6_bitCount_0f7a4 52 = .ok (.ireturn, 1) := by decide +kernel
theorem rJ6_bitCount_0f7a4 : (∀ (d : Nat) (x : Int32) (st : List Value) (h : fk_H), fk_ev d qJ6_bitCount_0f7a4 0 [.int x] st h = fk_ev d qJ6_bitCount_0f7a4 1 [.int x] (.int x :: st) h) ∧
  (∀ (d : Nat) (x : Int32) (st : List Value) (h : fk_H), fk_ev d qJ6_bitCount_0f7a4 1 [.int x] st h = fk_ev d qJ6_bitCount_0f7a4 2 [.int x] (.int x :: st) h) ∧
  (∀ (d : Nat) (L st : List Value) (h : fk_H), fk_ev d qJ6_bitCount_0f7a4 2 L st h = fk_ev d qJ6_bitCount_0f7a4 3 L (.int (nI 1) :: st) h) ∧
  (∀ (d : Nat) (L : List Value) (x y : Int32) (st : List Value) (h : fk_H), fk_ev d qJ6_bitCount_0f7a4 3 L (.int y :: .int x :: st) h = fk_ev d qJ6_bitCount_0f7a4 4 L (.int ((x.toUInt32 >>> (y.toUInt32 &&& Int32.toUInt32 31)).toInt32) :: st) h) ∧
  (∀ (d : Nat) (L st : List Value) (h : fk_H), fk_ev d qJ6_bitCount_0f7a4 4 L st h = fk_ev d qJ6_bitCount_0f7a4 7 L (.int (nI 1431655765) :: st) h) ∧
  (∀ (d : Nat) (L : List Value) (x y : Int32) (st : List Value) (h : fk_H), fk_ev d qJ6_bitCount_0f7a4 7 L (.int y :: .int x :: st) h = fk_ev d qJ6_bitCount_0f7a4 8 L (.int (x &&& y) :: st) h) ∧
  (∀ (d : Nat) (L : List Value) (x y : Int32) (st : List Value) (h : fk_H), fk_ev d qJ6_bitCount_0f7a4 8 L (.int y :: .int x :: st) h = fk_ev d qJ6_bitCount_0f7a4 9 L (.int (x - y) :: st) h) ∧
  (∀ (d : Nat) (a0 : Value) (x : Int32) (st : List Value) (h : fk_H), fk_ev d qJ6_bitCount_0f7a4 9 [a0] (.int x :: st) h = fk_ev d qJ6_bitCount_0f7a4 10 [.int x] st h) ∧
  (∀ (d : Nat) (x : Int32) (st : List Value) (h : fk_H), fk_ev d qJ6_bitCount_0f7a4 10 [.int x] st h = fk_ev d qJ6_bitCount_0f7a4 11 [.int x] (.int x :: st) h) ∧
  (∀ (d : Nat) (L st : List Value) (h : fk_H), fk_ev d qJ6_bitCount_0f7a4 11 L st h = fk_ev d qJ6_bitCount_0f7a4 14 L (.int (nI 858993459) :: st) h) ∧
  (∀ (d : Nat) (L : List Value) (x y : Int32) (st : List Value) (h : fk_H), fk_ev d qJ6_bitCount_0f7a4 14 L (.int y :: .int x :: st) h = fk_ev d qJ6_bitCount_0f7a4 15 L (.int (x &&& y) :: st) h) ∧
  (∀ (d : Nat) (x : Int32) (st : List Value) (h : fk_H), fk_ev d qJ6_bitCount_0f7a4 15 [.int x] st h = fk_ev d qJ6_bitCount_0f7a4 16 [.int x] (.int x :: st) h) ∧
  (∀ (d : Nat) (L st : List Value) (h : fk_H), fk_ev d qJ6_bitCount_0f7a4 16 L st h = fk_ev d qJ6_bitCount_0f7a4 17 L (.int (nI 2) :: st) h) ∧
  (∀ (d : Nat) (L : List Value) (x y : Int32) (st : List Value) (h : fk_H), fk_ev d qJ6_bitCount_0f7a4 17 L (.int y :: .int x :: st) h = fk_ev d qJ6_bitCount_0f7a4 18 L (.int ((x.toUInt32 >>> (y.toUInt32 &&& Int32.toUInt32 31)).toInt32) :: st) h) ∧
  (∀ (d : Nat) (L st : List Value) (h : fk_H), fk_ev d qJ6_bitCount_0f7a4 18 L st h = fk_ev d qJ6_bitCount_0f7a4 21 L (.int (nI 858993459) :: st) h) ∧
  (∀ (d : Nat) (L : List Value) (x y : Int32) (st : List Value) (h : fk_H), fk_ev d qJ6_bitCount_0f7a4 21 L (.int y :: .int x :: st) h = fk_ev d qJ6_bitCount_0f7a4 22 L (.int (x &&& y) :: st) h) ∧
  (∀ (d : Nat) (L : List Value) (x y : Int32) (st : List Value) (h : fk_H), fk_ev d qJ6_bitCount_0f7a4 22 L (.int y :: .int x :: st) h = fk_ev d qJ6_bitCount_0f7a4 23 L (.int (x + y) :: st) h) ∧
  (∀ (d : Nat) (a0 : Value) (x : Int32) (st : List Value) (h : fk_H), fk_ev d qJ6_bitCount_0f7a4 23 [a0] (.int x :: st) h = fk_ev d qJ6_bitCount_0f7a4 24 [.int x] st h) ∧
  (∀ (d : Nat) (x : Int32) (st : List Value) (h : fk_H), fk_ev d qJ6_bitCount_0f7a4 24 [.int x] st h = fk_ev d qJ6_bitCount_0f7a4 25 [.int x] (.int x :: st) h) ∧
  (∀ (d : Nat) (x : Int32) (st : List Value) (h : fk_H), fk_ev d qJ6_bitCount_0f7a4 25 [.int x] st h = fk_ev d qJ6_bitCount_0f7a4 26 [.int x] (.int x :: st) h) ∧
  (∀ (d : Nat) (L st : List Value) (h : fk_H), fk_ev d qJ6_bitCount_0f7a4 26 L st h = fk_ev d qJ6_bitCount_0f7a4 27 L (.int (nI 4) :: st) h) ∧
  (∀ (d : Nat) (L : List Value) (x y : Int32) (st : List Value) (h : fk_H), fk_ev d qJ6_bitCount_0f7a4 27 L (.int y :: .int x :: st) h = fk_ev d qJ6_bitCount_0f7a4 28 L (.int ((x.toUInt32 >>> (y.toUInt32 &&& Int32.toUInt32 31)).toInt32) :: st) h) ∧
  (∀ (d : Nat) (L : List Value) (x y : Int32) (st : List Value) (h : fk_H), fk_ev d qJ6_bitCount_0f7a4 28 L (.int y :: .int x :: st) h = fk_ev d qJ6_bitCount_0f7a4 29 L (.int (x + y) :: st) h) ∧
  (∀ (d : Nat) (L st : List Value) (h : fk_H), fk_ev d qJ6_bitCount_0f7a4 29 L st h = fk_ev d qJ6_bitCount_0f7a4 32 L (.int (nI 252645135) :: st) h) ∧
  (∀ (d : Nat) (L : List Value) (x y : Int32) (st : List Value) (h : fk_H), fk_ev d qJ6_bitCount_0f7a4 32 L (.int y :: .int x :: st) h = fk_ev d qJ6_bitCount_0f7a4 33 L (.int (x &&& y) :: st) h) ∧
  (∀ (d : Nat) (a0 : Value) (x : Int32) (st : List Value) (h : fk_H), fk_ev d qJ6_bitCount_0f7a4 33 [a0] (.int x :: st) h = fk_ev d qJ6_bitCount_0f7a4 34 [.int x] st h) ∧
  (∀ (d : Nat) (x : Int32) (st : List Value) (h : fk_H), fk_ev d qJ6_bitCount_0f7a4 34 [.int x] st h = fk_ev d qJ6_bitCount_0f7a4 35 [.int x] (.int x :: st) h) ∧
  (∀ (d : Nat) (x : Int32) (st : List Value) (h : fk_H), fk_ev d qJ6_bitCount_0f7a4 35 [.int x] st h = fk_ev d qJ6_bitCount_0f7a4 36 [.int x] (.int x :: st) h) ∧
  (∀ (d : Nat) (L st : List Value) (h : fk_H), fk_ev d qJ6_bitCount_0f7a4 36 L st h = fk_ev d qJ6_bitCount_0f7a4 38 L (.int (nI 8) :: st) h) ∧
  (∀ (d : Nat) (L : List Value) (x y : Int32) (st : List Value) (h : fk_H), fk_ev d qJ6_bitCount_0f7a4 38 L (.int y :: .int x :: st) h = fk_ev d qJ6_bitCount_0f7a4 39 L (.int ((x.toUInt32 >>> (y.toUInt32 &&& Int32.toUInt32 31)).toInt32) :: st) h) ∧
  (∀ (d : Nat) (L : List Value) (x y : Int32) (st : List Value) (h : fk_H), fk_ev d qJ6_bitCount_0f7a4 39 L (.int y :: .int x :: st) h = fk_ev d qJ6_bitCount_0f7a4 40 L (.int (x + y) :: st) h) ∧
  (∀ (d : Nat) (a0 : Value) (x : Int32) (st : List Value) (h : fk_H), fk_ev d qJ6_bitCount_0f7a4 40 [a0] (.int x :: st) h = fk_ev d qJ6_bitCount_0f7a4 41 [.int x] st h) ∧
  (∀ (d : Nat) (x : Int32) (st : List Value) (h : fk_H), fk_ev d qJ6_bitCount_0f7a4 41 [.int x] st h = fk_ev d qJ6_bitCount_0f7a4 42 [.int x] (.int x :: st) h) ∧
  (∀ (d : Nat) (x : Int32) (st : List Value) (h : fk_H), fk_ev d qJ6_bitCount_0f7a4 42 [.int x] st h = fk_ev d qJ6_bitCount_0f7a4 43 [.int x] (.int x :: st) h) ∧
  (∀ (d : Nat) (L st : List Value) (h : fk_H), fk_ev d qJ6_bitCount_0f7a4 43 L st h = fk_ev d qJ6_bitCount_0f7a4 45 L (.int (nI 16) :: st) h) ∧
  (∀ (d : Nat) (L : List Value) (x y : Int32) (st : List Value) (h : fk_H), fk_ev d qJ6_bitCount_0f7a4 45 L (.int y :: .int x :: st) h = fk_ev d qJ6_bitCount_0f7a4 46 L (.int ((x.toUInt32 >>> (y.toUInt32 &&& Int32.toUInt32 31)).toInt32) :: st) h) ∧
  (∀ (d : Nat) (L : List Value) (x y : Int32) (st : List Value) (h : fk_H), fk_ev d qJ6_bitCount_0f7a4 46 L (.int y :: .int x :: st) h = fk_ev d qJ6_bitCount_0f7a4 47 L (.int (x + y) :: st) h) ∧
  (∀ (d : Nat) (a0 : Value) (x : Int32) (st : List Value) (h : fk_H), fk_ev d qJ6_bitCount_0f7a4 47 [a0] (.int x :: st) h = fk_ev d qJ6_bitCount_0f7a4 48 [.int x] st h) ∧
  (∀ (d : Nat) (x : Int32) (st : List Value) (h : fk_H), fk_ev d qJ6_bitCount_0f7a4 48 [.int x] st h = fk_ev d qJ6_bitCount_0f7a4 49 [.int x] (.int x :: st) h) ∧
  (∀ (d : Nat) (L st : List Value) (h : fk_H), fk_ev d qJ6_bitCount_0f7a4 49 L st h = fk_ev d qJ6_bitCount_0f7a4 51 L (.int (nI 63) :: st) h) ∧
  (∀ (d : Nat) (L : List Value) (x y : Int32) (st : List Value) (h : fk_H), fk_ev d qJ6_bitCount_0f7a4 51 L (.int y :: .int x :: st) h = fk_ev d qJ6_bitCount_0f7a4 52 L (.int (x &&& y) :: st) h) ∧
  (∀ (d : Nat) (L : List Value) (x : Int32) (h : fk_H), fk_ev d qJ6_bitCount_0f7a4 52 L [.int x] h = some (some (.int x), h)) := ⟨fun d  x st h => fk_w_iloadn 0 [.int x] dJ6_bitCount_0f7a4_0 rfl,
  fun d  x st h => fk_w_iloadn 0 [.int x] dJ6_bitCount_0f7a4_1 rfl,
  fun d L st h => fk_w_iconst dJ6_bitCount_0f7a4_2 (by decide),
  fun d L x y st h => fk_r_iushr dJ6_bitCount_0f7a4_3,
  fun d L st h => fk_g_ldcw rfl lc_15_265 (by decide) dJ6_bitCount_0f7a4_4,
  fun d L x y st h => fk_r_iand dJ6_bitCount_0f7a4_7,
  fun d L x y st h => fk_r_isub dJ6_bitCount_0f7a4_8,
  fun d a0 x st h => fk_w_istoren 0 1 [] [a0] [.int x] dJ6_bitCount_0f7a4_9 rfl rfl (by decide) rfl,
  fun d  x st h => fk_w_iloadn 0 [.int x] dJ6_bitCount_0f7a4_10 rfl,
  fun d L st h => fk_g_ldcw rfl lc_15_266 (by decide) dJ6_bitCount_0f7a4_11,
  fun d L x y st h => fk_r_iand dJ6_bitCount_0f7a4_14,
  fun d  x st h => fk_w_iloadn 0 [.int x] dJ6_bitCount_0f7a4_15 rfl,
  fun d L st h => fk_w_iconst dJ6_bitCount_0f7a4_16 (by decide),
  fun d L x y st h => fk_r_iushr dJ6_bitCount_0f7a4_17,
  fun d L st h => fk_g_ldcw rfl lc_15_266 (by decide) dJ6_bitCount_0f7a4_18,
  fun d L x y st h => fk_r_iand dJ6_bitCount_0f7a4_21,
  fun d L x y st h => fk_r_iadd dJ6_bitCount_0f7a4_22,
  fun d a0 x st h => fk_w_istoren 0 1 [] [a0] [.int x] dJ6_bitCount_0f7a4_23 rfl rfl (by decide) rfl,
  fun d  x st h => fk_w_iloadn 0 [.int x] dJ6_bitCount_0f7a4_24 rfl,
  fun d  x st h => fk_w_iloadn 0 [.int x] dJ6_bitCount_0f7a4_25 rfl,
  fun d L st h => fk_w_iconst dJ6_bitCount_0f7a4_26 (by decide),
  fun d L x y st h => fk_r_iushr dJ6_bitCount_0f7a4_27,
  fun d L x y st h => fk_r_iadd dJ6_bitCount_0f7a4_28,
  fun d L st h => fk_g_ldcw rfl lc_15_267 (by decide) dJ6_bitCount_0f7a4_29,
  fun d L x y st h => fk_r_iand dJ6_bitCount_0f7a4_32,
  fun d a0 x st h => fk_w_istoren 0 1 [] [a0] [.int x] dJ6_bitCount_0f7a4_33 rfl rfl (by decide) rfl,
  fun d  x st h => fk_w_iloadn 0 [.int x] dJ6_bitCount_0f7a4_34 rfl,
  fun d  x st h => fk_w_iloadn 0 [.int x] dJ6_bitCount_0f7a4_35 rfl,
  fun d L st h => fk_w_bipush dJ6_bitCount_0f7a4_36 (by decide),
  fun d L x y st h => fk_r_iushr dJ6_bitCount_0f7a4_38,
  fun d L x y st h => fk_r_iadd dJ6_bitCount_0f7a4_39,
  fun d a0 x st h => fk_w_istoren 0 1 [] [a0] [.int x] dJ6_bitCount_0f7a4_40 rfl rfl (by decide) rfl,
  fun d  x st h => fk_w_iloadn 0 [.int x] dJ6_bitCount_0f7a4_41 rfl,
  fun d  x st h => fk_w_iloadn 0 [.int x] dJ6_bitCount_0f7a4_42 rfl,
  fun d L st h => fk_w_bipush dJ6_bitCount_0f7a4_43 (by decide),
  fun d L x y st h => fk_r_iushr dJ6_bitCount_0f7a4_45,
  fun d L x y st h => fk_r_iadd dJ6_bitCount_0f7a4_46,
  fun d a0 x st h => fk_w_istoren 0 1 [] [a0] [.int x] dJ6_bitCount_0f7a4_47 rfl rfl (by decide) rfl,
  fun d  x st h => fk_w_iloadn 0 [.int x] dJ6_bitCount_0f7a4_48 rfl,
  fun d L st h => fk_w_bipush dJ6_bitCount_0f7a4_49 (by decide),
  fun d L x y st h => fk_r_iand dJ6_bitCount_0f7a4_51,
  fun d L x h => fk_r_ret dJ6_bitCount_0f7a4_52 (Or.inl rfl)⟩
