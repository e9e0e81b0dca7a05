theorem dX12_mayDie_0 : decode cX12_mayDie 0 = .ok (.aload_n 0, 1) := by decide +kernel
theorem dX12_mayDie_1 : decode cX12_mayDie 1 = .ok (.getfield 281, 3) := by decide +kernel
theorem dX12_mayDie_4 : decode cX12_mayDie 4 = .ok (.ifCond .eq 4, 3) := by decide +kernel
theorem dX12_mayDie_7 : decode cX12_mayDie 7 = .ok (.return_, 1) := by decide +kernel
theorem dX12_mayDie_8 : decode cX12_mayDie 8 = .ok (.aload_n 0, 1) := by decide +kernel
theorem dX12_mayDie_9 : decode cX12_mayDie 9 = .ok (.getfield 7, 3) := by decide +kernel
theorem dX12_mayDie_12 : decode cX12_mayDie 12 = .ok (.sipush 834, 3) := by decide +kernel
theorem dX12_mayDie_15 : decode cX12_mayDie 15 = .ok (.sipush 25173, 3) := by decide +kernel
theorem dX12_mayDie_18 : decode cX12_mayDie 18 = .ok (.aload_n 0, 1) := by decide +kernel
theorem dX12_mayDie_19 : decode cX12_mayDie 19 = .ok (.getfield 7, 3) := by decide +kernel
theorem dX12_mayDie_22 : decode cX12_mayDie 22 = .ok (.sipush 834, 3) := by decide +kernel
theorem dX12_mayDie_25 : decode cX12_mayDie 25 = .ok (.iaload, 1) := by decide +kernel
theorem dX12_mayDie_26 : decode cX12_mayDie 26 = .ok (.imul, 1) := by decide +kernel
theorem dX12_mayDie_27 : decode cX12_mayDie 27 = .ok (.sipush 13849, 3) := by decide +kernel
theorem dX12_mayDie_30 : decode cX12_mayDie 30 = .ok (.iadd, 1) := by decide +kernel
theorem dX12_mayDie_31 : decode cX12_mayDie 31 = .ok (.ldc_w 285, 3) := by decide +kernel
theorem dX12_mayDie_34 : decode cX12_mayDie 34 = .ok (.irem, 1) := by decide +kernel
theorem dX12_mayDie_35 : decode cX12_mayDie 35 = .ok (.iastore, 1) := by decide +kernel
theorem dX12_mayDie_36 : decode cX12_mayDie 36 = .ok (.aload_n 0, 1) := by decide +kernel
theorem dX12_mayDie_37 : decode cX12_mayDie 37 = .ok (.iload_n 1, 1) := by decide +kernel
theorem dX12_mayDie_38 : decode cX12_mayDie 38 = .ok (.invokevirtual 263, 3) := by decide +kernel
theorem dX12_mayDie_41 : decode cX12_mayDie 41 = .ok (.aload_n 0, 1) := by decide +kernel
theorem dX12_mayDie_42 : decode cX12_mayDie 42 = .ok (.getfield 7, 3) := by decide +kernel
theorem dX12_mayDie_45 : decode cX12_mayDie 45 = .ok (.sipush 834, 3) := by decide +kernel
theorem dX12_mayDie_48 : decode cX12_mayDie 48 = .ok (.iaload, 1) := by decide +kernel
theorem dX12_mayDie_49 : decode cX12_mayDie 49 = .ok (.bipush 10, 2) := by decide +kernel
theorem dX12_mayDie_51 : decode cX12_mayDie 51 = .ok (.irem, 1) := by decide +kernel
theorem dX12_mayDie_52 : decode cX12_mayDie 52 = .ok (.aload_n 0, 1) := by decide +kernel
theorem dX12_mayDie_53 : decode cX12_mayDie 53 = .ok (.bipush 120, 2) := by decide +kernel
theorem dX12_mayDie_55 : decode cX12_mayDie 55 = .ok (.bipush 10, 2) := by decide +kernel
theorem dX12_mayDie_57 : decode cX12_mayDie 57 = .ok (.invokevirtual 266, 3) := by decide +kernel
theorem dX12_mayDie_60 : decode cX12_mayDie 60 = .ok (.if_icmp .lt 4, 3) := by decide +kernel
theorem dX12_mayDie_63 : decode cX12_mayDie 63 = .ok (.return_, 1) := by decide +kernel
theorem dX12_mayDie_64 : decode cX12_mayDie 64 = .ok (.aload_n 0, 1) := by decide +kernel
theorem dX12_mayDie_65 : decode cX12_mayDie 65 = .ok (.getfield 7, 3) := by decide +kernel
theorem dX12_mayDie_68 : decode cX12_mayDie 68 = .ok (.sipush 192, 3) := by decide +kernel
theorem dX12_mayDie_71 : decode cX12_mayDie 71 = .ok (.iload_n 1, 1) := by decide +kernel
theorem dX12_mayDie_72 : decode cX12_mayDie 72 = .ok (.iadd, 1) := by decide +kernel
theorem dX12_mayDie_73 : decode cX12_mayDie 73 = .ok (.iconst 2, 1) := by decide +kernel
theorem dX12_mayDie_74 : decode cX12_mayDie 74 = .ok (.iastore, 1) := by decide +kernel
theorem dX12_mayDie_75 : decode cX12_mayDie 75 = .ok (.aload_n 0, 1) := by decide +kernel
theorem dX12_mayDie_76 : decode cX12_mayDie 76 = .ok (.getfield 7, 3) := by decide +kernel
theorem dX12_mayDie_79 : decode cX12_mayDie 79 = .ok (.sipush 836, 3) := by decide +kernel
theorem dX12_mayDie_82 : decode cX12_mayDie 82 = .ok (.aload_n 0, 1) := by decide +kernel
theorem dX12_mayDie_83 : decode cX12_mayDie 83 = .ok (.getfield 7, 3) := by decide +kernel
theorem dX12_mayDie_86 : decode cX12_mayDie 86 = .ok (.sipush 836, 3) := by decide +kernel
theorem dX12_mayDie_89 : decode cX12_mayDie 89 = .ok (.iaload, 1) := by decide +kernel
theorem dX12_mayDie_90 : decode cX12_mayDie 90 = .ok (.iconst 1, 1) := by decide +kernel
theorem dX12_mayDie_91 : decode cX12_mayDie 91 = .ok (.iadd, 1) := by decide +kernel
theorem dX12_mayDie_92 : decode cX12_mayDie 92 = .ok (.iastore, 1) := by decide +kernel
theorem dX12_mayDie_93 : decode cX12_mayDie 93 = .ok (.iconst 0, 1) := by decide +kernel
theorem dX12_mayDie_94 : decode cX12_mayDie 94 = .ok (.istore_n 2, 1) := by decide +kernel
theorem dX12_mayDie_95 : decode cX12_mayDie 95 = .ok (.iload_n 2, 1) := by decide +kernel
theorem dX12_mayDie_96 : decode cX12_mayDie 96 = .ok (.aload_n 0, 1) := by decide +kernel
theorem dX12_mayDie_97 : decode cX12_mayDie 97 = .ok (.getfield 7, 3) := by decide +kernel
theorem dX12_mayDie_100 : decode cX12_mayDie 100 = .ok (.sipush 833, 3) := by decide +kernel
theorem dX12_mayDie_103 : decode cX12_mayDie 103 = .ok (.iaload, 1) := by decide +kernel
theorem dX12_mayDie_104 : decode cX12_mayDie 104 = .ok (.if_icmp .ge 63, 3) := by decide +kernel
theorem dX12_mayDie_107 : decode cX12_mayDie 107 = .ok (.aload_n 0, 1) := by decide +kernel
theorem dX12_mayDie_108 : decode cX12_mayDie 108 = .ok (.iload_n 2, 1) := by decide +kernel
theorem dX12_mayDie_109 : decode cX12_mayDie 109 = .ok (.invokevirtual 126, 3) := by decide +kernel
theorem dX12_mayDie_112 : decode cX12_mayDie 112 = .ok (.ifCond .eq 49, 3) := by decide +kernel
theorem dX12_mayDie_115 : decode cX12_mayDie 115 = .ok (.aload_n 0, 1) := by decide +kernel
theorem dX12_mayDie_116 : decode cX12_mayDie 116 = .ok (.getfield 7, 3) := by decide +kernel
theorem dX12_mayDie_119 : decode cX12_mayDie 119 = .ok (.iconst 0, 1) := by decide +kernel
theorem dX12_mayDie_120 : decode cX12_mayDie 120 = .ok (.iload_n 2, 1) := by decide +kernel
theorem dX12_mayDie_121 : decode cX12_mayDie 121 = .ok (.iadd, 1) := by decide +kernel
theorem dX12_mayDie_122 : decode cX12_mayDie 122 = .ok (.iaload, 1) := by decide +kernel
theorem dX12_mayDie_123 : decode cX12_mayDie 123 = .ok (.aload_n 0, 1) := by decide +kernel
theorem dX12_mayDie_124 : decode cX12_mayDie 124 = .ok (.getfield 7, 3) := by decide +kernel
theorem dX12_mayDie_127 : decode cX12_mayDie 127 = .ok (.iconst 0, 1) := by decide +kernel
theorem dX12_mayDie_128 : decode cX12_mayDie 128 = .ok (.iload_n 1, 1) := by decide +kernel
theorem dX12_mayDie_129 : decode cX12_mayDie 129 = .ok (.iadd, 1) := by decide +kernel
theorem dX12_mayDie_130 : decode cX12_mayDie 130 = .ok (.iaload, 1) := by decide +kernel
theorem dX12_mayDie_131 : decode cX12_mayDie 131 = .ok (.if_icmp .ne 30, 3) := by decide +kernel
theorem dX12_mayDie_134 : decode cX12_mayDie 134 = .ok (.aload_n 0, 1) := by decide +kernel
theorem dX12_mayDie_135 : decode cX12_mayDie 135 = .ok (.getfield 7, 3) := by decide +kernel
theorem dX12_mayDie_138 : decode cX12_mayDie 138 = .ok (.sipush 512, 3) := by decide +kernel
theorem dX12_mayDie_141 : decode cX12_mayDie 141 = .ok (.iload_n 2, 1) := by decide +kernel
theorem dX12_mayDie_142 : decode cX12_mayDie 142 = .ok (.iadd, 1) := by decide +kernel
theorem dX12_mayDie_143 : decode cX12_mayDie 143 = .ok (.bipush 99, 2) := by decide +kernel
theorem dX12_mayDie_145 : decode cX12_mayDie 145 = .ok (.aload_n 0, 1) := by decide +kernel
theorem dX12_mayDie_146 : decode cX12_mayDie 146 = .ok (.getfield 7, 3) := by decide +kernel
theorem dX12_mayDie_149 : decode cX12_mayDie 149 = .ok (.sipush 512, 3) := by decide +kernel
theorem dX12_mayDie_152 : decode cX12_mayDie 152 = .ok (.iload_n 2, 1) := by decide +kernel
theorem dX12_mayDie_153 : decode cX12_mayDie 153 = .ok (.iadd, 1) := by decide +kernel
theorem dX12_mayDie_154 : decode cX12_mayDie 154 = .ok (.iaload, 1) := by decide +kernel
theorem dX12_mayDie_155 : decode cX12_mayDie 155 = .ok (.iconst 3, 1) := by decide +kernel
theorem dX12_mayDie_156 : decode cX12_mayDie 156 = .ok (.iadd, 1) := by decide +kernel
theorem dX12_mayDie_157 : decode cX12_mayDie 157 = .ok (.invokestatic 278, 3) := by decide +kernel
theorem dX12_mayDie_160 : decode cX12_mayDie 160 = .ok (.iastore, 1) := by decide +kernel
theorem dX12_mayDie_161 : decode cX12_mayDie 161 = .ok (.iinc 2 1, 3) := by decide +kernel
theorem dX12_mayDie_164 : decode cX12_mayDie 164 = .ok (.goto (-69), 3) := by decide +kernel
theorem dX12_mayDie_167 : decode cX12_mayDie 167 = .ok (.return_, 1) := by decide +kernel
theorem rX12_mayDie : (∀ (d : Nat) (a1 a2 : Value) (x : Nat) (st : List Value) (h : fk_H), fk_ev d qX12_mayDie 0 [.ref x, a1, a2] st h = fk_ev d qX12_mayDie 1 [.ref x, a1, a2] (.ref x :: st) h) ∧
  (∀ (d : Nat) (L st : List Value) (N : Nat) (y : Nat → Nat → Int32) (l : Nat → Nat → Int64), fk_ev d qX12_mayDie 1 L (.ref 246 :: st) (fk_E N y l) = fk_ev d qX12_mayDie 4 L (.int (y 246 36) :: st) (fk_E N y l)) ∧
  (∀ (d : Nat) (L : List Value) (x : Int32) (st : List Value) (h : fk_H), fk_ev d qX12_mayDie 4 L (.int x :: st) h = if x = nI 0 then fk_ev d qX12_mayDie 8 L st h else fk_ev d qX12_mayDie 7 L st h) ∧
  (∀ (d : Nat) (L : List Value) (h : fk_H), fk_ev d qX12_mayDie 7 L [] h = some (none, h)) ∧
  (∀ (d : Nat) (a1 a2 : Value) (x : Nat) (st : List Value) (h : fk_H), fk_ev d qX12_mayDie 8 [.ref x, a1, a2] st h = fk_ev d qX12_mayDie 9 [.ref x, a1, a2] (.ref x :: st) h) ∧
  (∀ (d : Nat) (L st : List Value) (N : Nat) (y : Nat → Nat → Int32) (l : Nat → Nat → Int64), fk_ev d qX12_mayDie 9 L (.ref 246 :: st) (fk_E N y l) = fk_ev d qX12_mayDie 12 L (.ref 247 :: st) (fk_E N y l)) ∧
  (∀ (d : Nat) (L st : List Value) (h : fk_H), fk_ev d qX12_mayDie 12 L st h = fk_ev d qX12_mayDie 15 L (.int (nI 834) :: st) h) ∧
  (∀ (d : Nat) (L st : List Value) (h : fk_H), fk_ev d qX12_mayDie 15 L st h = fk_ev d qX12_mayDie 18 L (.int (nI 25173) :: st) h) ∧
  (∀ (d : Nat) (a1 a2 : Value) (x : Nat) (st : List Value) (h : fk_H), fk_ev d qX12_mayDie 18 [.ref x, a1, a2] st h = fk_ev d qX12_mayDie 19 [.ref x, a1, a2] (.ref x :: st) h) ∧
  (∀ (d : Nat) (L st : List Value) (N : Nat) (y : Nat → Nat → Int32) (l : Nat → Nat → Int64), fk_ev d qX12_mayDie 19 L (.ref 246 :: st) (fk_E N y l) = fk_ev d qX12_mayDie 22 L (.ref 247 :: st) (fk_E N y l)) ∧
  (∀ (d : Nat) (L st : List Value) (h : fk_H), fk_ev d qX12_mayDie 22 L st h = fk_ev d qX12_mayDie 25 L (.int (nI 834) :: st) h) ∧
  (∀ (d : Nat) (L st : List Value) (N : Nat) (y : Nat → Nat → Int32) (l : Nat → Nat → Int64) (i : Nat), i < 3912 → fk_ev d qX12_mayDie 25 L (.int (nI i) :: .ref 247 :: st) (fk_E N y l) = fk_ev d qX12_mayDie 26 L (.int (y 247 i) :: st) (fk_E N y l)) ∧
  (∀ (d : Nat) (L : List Value) (x y : Int32) (st : List Value) (h : fk_H), fk_ev d qX12_mayDie 26 L (.int y :: .int x :: st) h = fk_ev d qX12_mayDie 27 L (.int (x * y) :: st) h) ∧
  (∀ (d : Nat) (L st : List Value) (h : fk_H), fk_ev d qX12_mayDie 27 L st h = fk_ev d qX12_mayDie 30 L (.int (nI 13849) :: st) h) ∧
  (∀ (d : Nat) (L : List Value) (x y : Int32) (st : List Value) (h : fk_H), fk_ev d qX12_mayDie 30 L (.int y :: .int x :: st) h = fk_ev d qX12_mayDie 31 L (.int (x + y) :: st) h) ∧
  (∀ (d : Nat) (L st : List Value) (h : fk_H), fk_ev d qX12_mayDie 31 L st h = fk_ev d qX12_mayDie 34 L (.int (nI 65536) :: st) h) ∧
  (∀ (d : Nat) (L : List Value) (x y : Int32) (st : List Value) (h : fk_H), fk_ev d qX12_mayDie 34 L (.int y :: .int x :: st) h = if y = 0 then none else fk_ev d qX12_mayDie 35 L (.int (x - x / y * y) :: st) h) ∧
  (∀ (d : Nat) (L st : List Value) (N : Nat) (y : Nat → Nat → Int32) (l : Nat → Nat → Int64) (i : Nat) (v : Int32), i < 3912 → fk_ev d qX12_mayDie 35 L (.int v :: .int (nI i) :: .ref 247 :: st) (fk_E N y l) = fk_ev d qX12_mayDie 36 L st (fk_E N (fk_u y 247 i v) l)) ∧
  (∀ (d : Nat) (a1 a2 : Value) (x : Nat) (st : List Value) (h : fk_H), fk_ev d qX12_mayDie 36 [.ref x, a1, a2] st h = fk_ev d qX12_mayDie 37 [.ref x, a1, a2] (.ref x :: st) h) ∧
  (∀ (d : Nat) (a0 a2 : Value) (x : Int32) (st : List Value) (h : fk_H), fk_ev d qX12_mayDie 37 [a0, .int x, a2] st h = fk_ev d qX12_mayDie 38 [a0, .int x, a2] (.int x :: st) h) ∧
  (∀ (d : Nat) (L : List Value) (x0 : Int32)  (N : Nat) (y : Nat → Nat → Int32) (l : Nat → Nat → Int64), fk_ev (d + 1) qX12_mayDie 38 L (.int x0 :: .ref 246 :: []) (fk_E N y l) = (fk_ev d qX12_feels 0 [.ref 246, .int x0, .null] [] (fk_E N y l)).bind fun o => fk_ev (d + 1) qX12_mayDie 41 L (o.1.toList ++ []) o.2) ∧
  (∀ (d : Nat) (a1 a2 : Value) (x : Nat) (st : List Value) (h : fk_H), fk_ev d qX12_mayDie 41 [.ref x, a1, a2] st h = fk_ev d qX12_mayDie 42 [.ref x, a1, a2] (.ref x :: st) h) ∧
  (∀ (d : Nat) (L st : List Value) (N : Nat) (y : Nat → Nat → Int32) (l : Nat → Nat → Int64), fk_ev d qX12_mayDie 42 L (.ref 246 :: st) (fk_E N y l) = fk_ev d qX12_mayDie 45 L (.ref 247 :: st) (fk_E N y l)) ∧
  (∀ (d : Nat) (L st : List Value) (h : fk_H), fk_ev d qX12_mayDie 45 L st h = fk_ev d qX12_mayDie 48 L (.int (nI 834) :: st) h) ∧
  (∀ (d : Nat) (L st : List Value) (N : Nat) (y : Nat → Nat → Int32) (l : Nat → Nat → Int64) (i : Nat), i < 3912 → fk_ev d qX12_mayDie 48 L (.int (nI i) :: .ref 247 :: st) (fk_E N y l) = fk_ev d qX12_mayDie 49 L (.int (y 247 i) :: st) (fk_E N y l)) ∧
  (∀ (d : Nat) (L st : List Value) (h : fk_H), fk_ev d qX12_mayDie 49 L st h = fk_ev d qX12_mayDie 51 L (.int (nI 10) :: st) h) ∧
  (∀ (d : Nat) (L : List Value) (x y : Int32) (st : List Value) (h : fk_H), fk_ev d qX12_mayDie 51 L (.int y :: .int x :: st) h = if y = 0 then none else fk_ev d qX12_mayDie 52 L (.int (x - x / y * y) :: st) h) ∧
  (∀ (d : Nat) (a1 a2 : Value) (x : Nat) (st : List Value) (h : fk_H), fk_ev d qX12_mayDie 52 [.ref x, a1, a2] st h = fk_ev d qX12_mayDie 53 [.ref x, a1, a2] (.ref x :: st) h) ∧
  (∀ (d : Nat) (L st : List Value) (h : fk_H), fk_ev d qX12_mayDie 53 L st h = fk_ev d qX12_mayDie 55 L (.int (nI 120) :: st) h) ∧
  (∀ (d : Nat) (L st : List Value) (h : fk_H), fk_ev d qX12_mayDie 55 L st h = fk_ev d qX12_mayDie 57 L (.int (nI 10) :: st) h) ∧
  (∀ (d : Nat) (L : List Value) (x0 : Int32) (x1 : Int32) (w0 : Value) (N : Nat) (y : Nat → Nat → Int32) (l : Nat → Nat → Int64), fk_ev (d + 1) qX12_mayDie 57 L (.int x1 :: .int x0 :: .ref 246 :: [w0]) (fk_E N y l) = (fk_ev d qX12_byLaw 0 [.ref 246, .int x0, .int x1, .null, .null] [] (fk_E N y l)).bind fun o => fk_ev (d + 1) qX12_mayDie 60 L (o.1.toList ++ [w0]) o.2) ∧
  (∀ (d : Nat) (L : List Value) (x y : Int32) (st : List Value) (h : fk_H), fk_ev d qX12_mayDie 60 L (.int y :: .int x :: st) h = if x < y then fk_ev d qX12_mayDie 64 L st h else fk_ev d qX12_mayDie 63 L st h) ∧
  (∀ (d : Nat) (L : List Value) (h : fk_H), fk_ev d qX12_mayDie 63 L [] h = some (none, h)) ∧
  (∀ (d : Nat) (a1 a2 : Value) (x : Nat) (st : List Value) (h : fk_H), fk_ev d qX12_mayDie 64 [.ref x, a1, a2] st h = fk_ev d qX12_mayDie 65 [.ref x, a1, a2] (.ref x :: st) h) ∧
  (∀ (d : Nat) (L st : List Value) (N : Nat) (y : Nat → Nat → Int32) (l : Nat → Nat → Int64), fk_ev d qX12_mayDie 65 L (.ref 246 :: st) (fk_E N y l) = fk_ev d qX12_mayDie 68 L (.ref 247 :: st) (fk_E N y l)) ∧
  (∀ (d : Nat) (L st : List Value) (h : fk_H), fk_ev d qX12_mayDie 68 L st h = fk_ev d qX12_mayDie 71 L (.int (nI 192) :: st) h) ∧
  (∀ (d : Nat) (a0 a2 : Value) (x : Int32) (st : List Value) (h : fk_H), fk_ev d qX12_mayDie 71 [a0, .int x, a2] st h = fk_ev d qX12_mayDie 72 [a0, .int x, a2] (.int x :: st) h) ∧
  (∀ (d : Nat) (L : List Value) (x y : Int32) (st : List Value) (h : fk_H), fk_ev d qX12_mayDie 72 L (.int y :: .int x :: st) h = fk_ev d qX12_mayDie 73 L (.int (x + y) :: st) h) ∧
  (∀ (d : Nat) (L st : List Value) (h : fk_H), fk_ev d qX12_mayDie 73 L st h = fk_ev d qX12_mayDie 74 L (.int (nI 2) :: st) h) ∧
  (∀ (d : Nat) (L st : List Value) (N : Nat) (y : Nat → Nat → Int32) (l : Nat → Nat → Int64) (i : Nat) (v : Int32), i < 3912 → fk_ev d qX12_mayDie 74 L (.int v :: .int (nI i) :: .ref 247 :: st) (fk_E N y l) = fk_ev d qX12_mayDie 75 L st (fk_E N (fk_u y 247 i v) l)) ∧
  (∀ (d : Nat) (a1 a2 : Value) (x : Nat) (st : List Value) (h : fk_H), fk_ev d qX12_mayDie 75 [.ref x, a1, a2] st h = fk_ev d qX12_mayDie 76 [.ref x, a1, a2] (.ref x :: st) h) ∧
  (∀ (d : Nat) (L st : List Value) (N : Nat) (y : Nat → Nat → Int32) (l : Nat → Nat → Int64), fk_ev d qX12_mayDie 76 L (.ref 246 :: st) (fk_E N y l) = fk_ev d qX12_mayDie 79 L (.ref 247 :: st) (fk_E N y l)) ∧
  (∀ (d : Nat) (L st : List Value) (h : fk_H), fk_ev d qX12_mayDie 79 L st h = fk_ev d qX12_mayDie 82 L (.int (nI 836) :: st) h) ∧
  (∀ (d : Nat) (a1 a2 : Value) (x : Nat) (st : List Value) (h : fk_H), fk_ev d qX12_mayDie 82 [.ref x, a1, a2] st h = fk_ev d qX12_mayDie 83 [.ref x, a1, a2] (.ref x :: st) h) ∧
  (∀ (d : Nat) (L st : List Value) (N : Nat) (y : Nat → Nat → Int32) (l : Nat → Nat → Int64), fk_ev d qX12_mayDie 83 L (.ref 246 :: st) (fk_E N y l) = fk_ev d qX12_mayDie 86 L (.ref 247 :: st) (fk_E N y l)) ∧
  (∀ (d : Nat) (L st : List Value) (h : fk_H), fk_ev d qX12_mayDie 86 L st h = fk_ev d qX12_mayDie 89 L (.int (nI 836) :: st) h) ∧
  (∀ (d : Nat) (L st : List Value) (N : Nat) (y : Nat → Nat → Int32) (l : Nat → Nat → Int64) (i : Nat), i < 3912 → fk_ev d qX12_mayDie 89 L (.int (nI i) :: .ref 247 :: st) (fk_E N y l) = fk_ev d qX12_mayDie 90 L (.int (y 247 i) :: st) (fk_E N y l)) ∧
  (∀ (d : Nat) (L st : List Value) (h : fk_H), fk_ev d qX12_mayDie 90 L st h = fk_ev d qX12_mayDie 91 L (.int (nI 1) :: st) h) ∧
  (∀ (d : Nat) (L : List Value) (x y : Int32) (st : List Value) (h : fk_H), fk_ev d qX12_mayDie 91 L (.int y :: .int x :: st) h = fk_ev d qX12_mayDie 92 L (.int (x + y) :: st) h) ∧
  (∀ (d : Nat) (L st : List Value) (N : Nat) (y : Nat → Nat → Int32) (l : Nat → Nat → Int64) (i : Nat) (v : Int32), i < 3912 → fk_ev d qX12_mayDie 92 L (.int v :: .int (nI i) :: .ref 247 :: st) (fk_E N y l) = fk_ev d qX12_mayDie 93 L st (fk_E N (fk_u y 247 i v) l)) ∧
  (∀ (d : Nat) (L st : List Value) (h : fk_H), fk_ev d qX12_mayDie 93 L st h = fk_ev d qX12_mayDie 94 L (.int (nI 0) :: st) h) ∧
  (∀ (d : Nat) (a0 a1 a2 : Value) (x : Int32) (st : List Value) (h : fk_H), fk_ev d qX12_mayDie 94 [a0, a1, a2] (.int x :: st) h = fk_ev d qX12_mayDie 95 [a0, a1, .int x] st h) ∧
  (∀ (d : Nat) (a1 a2 : Value) (x : Nat) (st : List Value) (h : fk_H), fk_ev d qX12_mayDie 96 [.ref x, a1, a2] st h = fk_ev d qX12_mayDie 97 [.ref x, a1, a2] (.ref x :: st) h) ∧
  (∀ (d : Nat) (L st : List Value) (N : Nat) (y : Nat → Nat → Int32) (l : Nat → Nat → Int64), fk_ev d qX12_mayDie 97 L (.ref 246 :: st) (fk_E N y l) = fk_ev d qX12_mayDie 100 L (.ref 247 :: st) (fk_E N y l)) ∧
  (∀ (d : Nat) (L st : List Value) (h : fk_H), fk_ev d qX12_mayDie 100 L st h = fk_ev d qX12_mayDie 103 L (.int (nI 833) :: st) h) ∧
  (∀ (d : Nat) (L st : List Value) (N : Nat) (y : Nat → Nat → Int32) (l : Nat → Nat → Int64) (i : Nat), i < 3912 → fk_ev d qX12_mayDie 103 L (.int (nI i) :: .ref 247 :: st) (fk_E N y l) = fk_ev d qX12_mayDie 104 L (.int (y 247 i) :: st) (fk_E N y l)) ∧
  (∀ (d : Nat) (L : List Value) (x y : Int32) (st : List Value) (h : fk_H), fk_ev d qX12_mayDie 104 L (.int y :: .int x :: st) h = if y ≤ x then fk_ev d qX12_mayDie 167 L st h else fk_ev d qX12_mayDie 107 L st h) ∧
  (∀ (d : Nat) (a1 a2 : Value) (x : Nat) (st : List Value) (h : fk_H), fk_ev d qX12_mayDie 107 [.ref x, a1, a2] st h = fk_ev d qX12_mayDie 108 [.ref x, a1, a2] (.ref x :: st) h) ∧
  (∀ (d : Nat) (a0 a1 : Value) (x : Int32) (st : List Value) (h : fk_H), fk_ev d qX12_mayDie 108 [a0, a1, .int x] st h = fk_ev d qX12_mayDie 109 [a0, a1, .int x] (.int x :: st) h) ∧
  (∀ (d : Nat) (L : List Value) (x0 : Int32)  (N : Nat) (y : Nat → Nat → Int32) (l : Nat → Nat → Int64), fk_ev (d + 1) qX12_mayDie 109 L (.int x0 :: .ref 246 :: []) (fk_E N y l) = (fk_ev d qX12_lives 0 [.ref 246, .int x0] [] (fk_E N y l)).bind fun o => fk_ev (d + 1) qX12_mayDie 112 L (o.1.toList ++ []) o.2) ∧
  (∀ (d : Nat) (L : List Value) (x : Int32) (st : List Value) (h : fk_H), fk_ev d qX12_mayDie 112 L (.int x :: st) h = if x = nI 0 then fk_ev d qX12_mayDie 161 L st h else fk_ev d qX12_mayDie 115 L st h) ∧
  (∀ (d : Nat) (a1 a2 : Value) (x : Nat) (st : List Value) (h : fk_H), fk_ev d qX12_mayDie 115 [.ref x, a1, a2] st h = fk_ev d qX12_mayDie 116 [.ref x, a1, a2] (.ref x :: st) h) ∧
  (∀ (d : Nat) (L st : List Value) (N : Nat) (y : Nat → Nat → Int32) (l : Nat → Nat → Int64), fk_ev d qX12_mayDie 116 L (.ref 246 :: st) (fk_E N y l) = fk_ev d qX12_mayDie 119 L (.ref 247 :: st) (fk_E N y l)) ∧
  (∀ (d : Nat) (L st : List Value) (h : fk_H), fk_ev d qX12_mayDie 119 L st h = fk_ev d qX12_mayDie 120 L (.int (nI 0) :: st) h) ∧
  (∀ (d : Nat) (a0 a1 : Value) (x : Int32) (st : List Value) (h : fk_H), fk_ev d qX12_mayDie 120 [a0, a1, .int x] st h = fk_ev d qX12_mayDie 121 [a0, a1, .int x] (.int x :: st) h) ∧
  (∀ (d : Nat) (L : List Value) (x y : Int32) (st : List Value) (h : fk_H), fk_ev d qX12_mayDie 121 L (.int y :: .int x :: st) h = fk_ev d qX12_mayDie 122 L (.int (x + y) :: st) h) ∧
  (∀ (d : Nat) (L st : List Value) (N : Nat) (y : Nat → Nat → Int32) (l : Nat → Nat → Int64) (i : Nat), i < 3912 → fk_ev d qX12_mayDie 122 L (.int (nI i) :: .ref 247 :: st) (fk_E N y l) = fk_ev d qX12_mayDie 123 L (.int (y 247 i) :: st) (fk_E N y l)) ∧
  (∀ (d : Nat) (a1 a2 : Value) (x : Nat) (st : List Value) (h : fk_H), fk_ev d qX12_mayDie 123 [.ref x, a1, a2] st h = fk_ev d qX12_mayDie 124 [.ref x, a1, a2] (.ref x :: st) h) ∧
  (∀ (d : Nat) (L st : List Value) (N : Nat) (y : Nat → Nat → Int32) (l : Nat → Nat → Int64), fk_ev d qX12_mayDie 124 L (.ref 246 :: st) (fk_E N y l) = fk_ev d qX12_mayDie 127 L (.ref 247 :: st) (fk_E N y l)) ∧
  (∀ (d : Nat) (L st : List Value) (h : fk_H), fk_ev d qX12_mayDie 127 L st h = fk_ev d qX12_mayDie 128 L (.int (nI 0) :: st) h) ∧
  (∀ (d : Nat) (a0 a2 : Value) (x : Int32) (st : List Value) (h : fk_H), fk_ev d qX12_mayDie 128 [a0, .int x, a2] st h = fk_ev d qX12_mayDie 129 [a0, .int x, a2] (.int x :: st) h) ∧
  (∀ (d : Nat) (L : List Value) (x y : Int32) (st : List Value) (h : fk_H), fk_ev d qX12_mayDie 129 L (.int y :: .int x :: st) h = fk_ev d qX12_mayDie 130 L (.int (x + y) :: st) h) ∧
  (∀ (d : Nat) (L st : List Value) (N : Nat) (y : Nat → Nat → Int32) (l : Nat → Nat → Int64) (i : Nat), i < 3912 → fk_ev d qX12_mayDie 130 L (.int (nI i) :: .ref 247 :: st) (fk_E N y l) = fk_ev d qX12_mayDie 131 L (.int (y 247 i) :: st) (fk_E N y l)) ∧
  (∀ (d : Nat) (L : List Value) (x y : Int32) (st : List Value) (h : fk_H), fk_ev d qX12_mayDie 131 L (.int y :: .int x :: st) h = if ¬ x = y then fk_ev d qX12_mayDie 161 L st h else fk_ev d qX12_mayDie 134 L st h) ∧
  (∀ (d : Nat) (a1 a2 : Value) (x : Nat) (st : List Value) (h : fk_H), fk_ev d qX12_mayDie 134 [.ref x, a1, a2] st h = fk_ev d qX12_mayDie 135 [.ref x, a1, a2] (.ref x :: st) h) ∧
  (∀ (d : Nat) (L st : List Value) (N : Nat) (y : Nat → Nat → Int32) (l : Nat → Nat → Int64), fk_ev d qX12_mayDie 135 L (.ref 246 :: st) (fk_E N y l) = fk_ev d qX12_mayDie 138 L (.ref 247 :: st) (fk_E N y l)) ∧
  (∀ (d : Nat) (L st : List Value) (h : fk_H), fk_ev d qX12_mayDie 138 L st h = fk_ev d qX12_mayDie 141 L (.int (nI 512) :: st) h) ∧
  (∀ (d : Nat) (a0 a1 : Value) (x : Int32) (st : List Value) (h : fk_H), fk_ev d qX12_mayDie 141 [a0, a1, .int x] st h = fk_ev d qX12_mayDie 142 [a0, a1, .int x] (.int x :: st) h) ∧
  (∀ (d : Nat) (L : List Value) (x y : Int32) (st : List Value) (h : fk_H), fk_ev d qX12_mayDie 142 L (.int y :: .int x :: st) h = fk_ev d qX12_mayDie 143 L (.int (x + y) :: st) h) ∧
  (∀ (d : Nat) (L st : List Value) (h : fk_H), fk_ev d qX12_mayDie 143 L st h = fk_ev d qX12_mayDie 145 L (.int (nI 99) :: st) h) ∧
  (∀ (d : Nat) (a1 a2 : Value) (x : Nat) (st : List Value) (h : fk_H), fk_ev d qX12_mayDie 145 [.ref x, a1, a2] st h = fk_ev d qX12_mayDie 146 [.ref x, a1, a2] (.ref x :: st) h) ∧
  (∀ (d : Nat) (L st : List Value) (N : Nat) (y : Nat → Nat → Int32) (l : Nat → Nat → Int64), fk_ev d qX12_mayDie 146 L (.ref 246 :: st) (fk_E N y l) = fk_ev d qX12_mayDie 149 L (.ref 247 :: st) (fk_E N y l)) ∧
  (∀ (d : Nat) (L st : List Value) (h : fk_H), fk_ev d qX12_mayDie 149 L st h = fk_ev d qX12_mayDie 152 L (.int (nI 512) :: st) h) ∧
  (∀ (d : Nat) (a0 a1 : Value) (x : Int32) (st : List Value) (h : fk_H), fk_ev d qX12_mayDie 152 [a0, a1, .int x] st h = fk_ev d qX12_mayDie 153 [a0, a1, .int x] (.int x :: st) h) ∧
  (∀ (d : Nat) (L : List Value) (x y : Int32) (st : List Value) (h : fk_H), fk_ev d qX12_mayDie 153 L (.int y :: .int x :: st) h = fk_ev d qX12_mayDie 154 L (.int (x + y) :: st) h) ∧
  (∀ (d : Nat) (L st : List Value) (N : Nat) (y : Nat → Nat → Int32) (l : Nat → Nat → Int64) (i : Nat), i < 3912 → fk_ev d qX12_mayDie 154 L (.int (nI i) :: .ref 247 :: st) (fk_E N y l) = fk_ev d qX12_mayDie 155 L (.int (y 247 i) :: st) (fk_E N y l)) ∧
  (∀ (d : Nat) (L st : List Value) (h : fk_H), fk_ev d qX12_mayDie 155 L st h = fk_ev d qX12_mayDie 156 L (.int (nI 3) :: st) h) ∧
  (∀ (d : Nat) (L : List Value) (x y : Int32) (st : List Value) (h : fk_H), fk_ev d qX12_mayDie 156 L (.int y :: .int x :: st) h = fk_ev d qX12_mayDie 157 L (.int (x + y) :: st) h) ∧
  (∀ (d : Nat) (L : List Value) (x0 : Int32) (x1 : Int32) (w0 w1 : Value) (h : fk_H), fk_ev (d + 1) qX12_mayDie 157 L (.int x1 :: .int x0 :: [w0, w1]) h = (fk_ev d qX12_min 0 [.int x0, .int x1] [] h).bind fun o => fk_ev (d + 1) qX12_mayDie 160 L (o.1.toList ++ [w0, w1]) o.2) ∧
  (∀ (d : Nat) (L st : List Value) (N : Nat) (y : Nat → Nat → Int32) (l : Nat → Nat → Int64) (i : Nat) (v : Int32), i < 3912 → fk_ev d qX12_mayDie 160 L (.int v :: .int (nI i) :: .ref 247 :: st) (fk_E N y l) = fk_ev d qX12_mayDie 161 L st (fk_E N (fk_u y 247 i v) l)) ∧
  (∀ (d : Nat) (a0 a1 : Value) (x : Int32) (st : List Value) (h : fk_H), fk_ev d qX12_mayDie 161 [a0, a1, .int x] st h = fk_ev d qX12_mayDie 164 [a0, a1, .int (x + nI 1)] st h) ∧
  (∀ (d : Nat) (L st : List Value) (h : fk_H), fk_ev d qX12_mayDie 164 L st h = fk_ev d qX12_mayDie 95 L st h) ∧
  (∀ (d : Nat) (L : List Value) (h : fk_H), fk_ev d qX12_mayDie 167 L [] h = some (none, h)) := ⟨fun d a1 a2 x st h => fk_w_aloadn 0 [.ref x, a1, a2] dX12_mayDie_0 rfl,
  fun d L st N y l => fk_g_getI rfl lf_12_281 (by decide) dX12_mayDie_1 fk_at_246,
  fun d L x st h => fk_r_if_eq dX12_mayDie_4 (by decide),
  fun d L h => fk_r_vret dX12_mayDie_7 rfl,
  fun d a1 a2 x st h => fk_w_aloadn 0 [.ref x, a1, a2] dX12_mayDie_8 rfl,
  fun d L st N y l => fk_g_getC rfl lf_12_7 (by decide) rfl dX12_mayDie_9 fk_at_246,
  fun d L st h => fk_w_sipush dX12_mayDie_12 (by decide),
  fun d L st h => fk_w_sipush dX12_mayDie_15 (by decide),
  fun d a1 a2 x st h => fk_w_aloadn 0 [.ref x, a1, a2] dX12_mayDie_18 rfl,
  fun d L st N y l => fk_g_getC rfl lf_12_7 (by decide) rfl dX12_mayDie_19 fk_at_246,
  fun d L st h => fk_w_sipush dX12_mayDie_22 (by decide),
  fun d L st N y l i hi => fk_g_iald fk_at_247 fk_ln_247 (by decide) dX12_mayDie_25 hi,
  fun d L x y st h => fk_r_imul dX12_mayDie_26,
  fun d L st h => fk_w_sipush dX12_mayDie_27 (by decide),
  fun d L x y st h => fk_r_iadd dX12_mayDie_30,
  fun d L st h => fk_g_ldcw rfl lc_12_285 (by decide) dX12_mayDie_31,
  fun d L x y st h => fk_r_irem dX12_mayDie_34,
  fun d L st N y l i v hi => fk_g_iast fk_at_247 fk_ln_247 (by decide) dX12_mayDie_35 hi,
  fun d a1 a2 x st h => fk_w_aloadn 0 [.ref x, a1, a2] dX12_mayDie_36 rfl,
  fun d a0 a2 x st h => fk_w_iloadn 1 [a0, .int x, a2] dX12_mayDie_37 rfl,
  fun d L x0 N y l  => fk_g_call [.int x0] [] rfl lm_12_263 dX12_mayDie_38 rfl ⟨rfl, by decide⟩ (by simp) fk_at_246,
  fun d a1 a2 x st h => fk_w_aloadn 0 [.ref x, a1, a2] dX12_mayDie_41 rfl,
  fun d L st N y l => fk_g_getC rfl lf_12_7 (by decide) rfl dX12_mayDie_42 fk_at_246,
  fun d L st h => fk_w_sipush dX12_mayDie_45 (by decide),
  fun d L st N y l i hi => fk_g_iald fk_at_247 fk_ln_247 (by decide) dX12_mayDie_48 hi,
  fun d L st h => fk_w_bipush dX12_mayDie_49 (by decide),
  fun d L x y st h => fk_r_irem dX12_mayDie_51,
  fun d a1 a2 x st h => fk_w_aloadn 0 [.ref x, a1, a2] dX12_mayDie_52 rfl,
  fun d L st h => fk_w_bipush dX12_mayDie_53 (by decide),
  fun d L st h => fk_w_bipush dX12_mayDie_55 (by decide),
  fun d L x0 x1 w0 N y l  => fk_g_call [.int x0, .int x1] [w0] rfl lm_12_266 dX12_mayDie_57 rfl ⟨rfl, by decide⟩ (by simp) fk_at_246,
  fun d L x y st h => fk_r_icmp_lt dX12_mayDie_60 (by decide),
  fun d L h => fk_r_vret dX12_mayDie_63 rfl,
  fun d a1 a2 x st h => fk_w_aloadn 0 [.ref x, a1, a2] dX12_mayDie_64 rfl,
  fun d L st N y l => fk_g_getC rfl lf_12_7 (by decide) rfl dX12_mayDie_65 fk_at_246,
  fun d L st h => fk_w_sipush dX12_mayDie_68 (by decide),
  fun d a0 a2 x st h => fk_w_iloadn 1 [a0, .int x, a2] dX12_mayDie_71 rfl,
  fun d L x y st h => fk_r_iadd dX12_mayDie_72,
  fun d L st h => fk_w_iconst dX12_mayDie_73 (by decide),
  fun d L st N y l i v hi => fk_g_iast fk_at_247 fk_ln_247 (by decide) dX12_mayDie_74 hi,
  fun d a1 a2 x st h => fk_w_aloadn 0 [.ref x, a1, a2] dX12_mayDie_75 rfl,
  fun d L st N y l => fk_g_getC rfl lf_12_7 (by decide) rfl dX12_mayDie_76 fk_at_246,
  fun d L st h => fk_w_sipush dX12_mayDie_79 (by decide),
  fun d a1 a2 x st h => fk_w_aloadn 0 [.ref x, a1, a2] dX12_mayDie_82 rfl,
  fun d L st N y l => fk_g_getC rfl lf_12_7 (by decide) rfl dX12_mayDie_83 fk_at_246,
  fun d L st h => fk_w_sipush dX12_mayDie_86 (by decide),
  fun d L st N y l i hi => fk_g_iald fk_at_247 fk_ln_247 (by decide) dX12_mayDie_89 hi,
  fun d L st h => fk_w_iconst dX12_mayDie_90 (by decide),
  fun d L x y st h => fk_r_iadd dX12_mayDie_91,
  fun d L st N y l i v hi => fk_g_iast fk_at_247 fk_ln_247 (by decide) dX12_mayDie_92 hi,
  fun d L st h => fk_w_iconst dX12_mayDie_93 (by decide),
  fun d a0 a1 a2 x st h => fk_w_istoren 2 3 [] [a0, a1, a2] [a0, a1, .int x] dX12_mayDie_94 rfl rfl (by decide) rfl,
  fun d a1 a2 x st h => fk_w_aloadn 0 [.ref x, a1, a2] dX12_mayDie_96 rfl,
  fun d L st N y l => fk_g_getC rfl lf_12_7 (by decide) rfl dX12_mayDie_97 fk_at_246,
  fun d L st h => fk_w_sipush dX12_mayDie_100 (by decide),
  fun d L st N y l i hi => fk_g_iald fk_at_247 fk_ln_247 (by decide) dX12_mayDie_103 hi,
  fun d L x y st h => fk_r_icmp_ge dX12_mayDie_104 (by decide),
  fun d a1 a2 x st h => fk_w_aloadn 0 [.ref x, a1, a2] dX12_mayDie_107 rfl,
  fun d a0 a1 x st h => fk_w_iloadn 2 [a0, a1, .int x] dX12_mayDie_108 rfl,
  fun d L x0 N y l  => fk_g_call [.int x0] [] rfl lm_12_126 dX12_mayDie_109 rfl ⟨rfl, by decide⟩ (by simp) fk_at_246,
  fun d L x st h => fk_r_if_eq dX12_mayDie_112 (by decide),
  fun d a1 a2 x st h => fk_w_aloadn 0 [.ref x, a1, a2] dX12_mayDie_115 rfl,
  fun d L st N y l => fk_g_getC rfl lf_12_7 (by decide) rfl dX12_mayDie_116 fk_at_246,
  fun d L st h => fk_w_iconst dX12_mayDie_119 (by decide),
  fun d a0 a1 x st h => fk_w_iloadn 2 [a0, a1, .int x] dX12_mayDie_120 rfl,
  fun d L x y st h => fk_r_iadd dX12_mayDie_121,
  fun d L st N y l i hi => fk_g_iald fk_at_247 fk_ln_247 (by decide) dX12_mayDie_122 hi,
  fun d a1 a2 x st h => fk_w_aloadn 0 [.ref x, a1, a2] dX12_mayDie_123 rfl,
  fun d L st N y l => fk_g_getC rfl lf_12_7 (by decide) rfl dX12_mayDie_124 fk_at_246,
  fun d L st h => fk_w_iconst dX12_mayDie_127 (by decide),
  fun d a0 a2 x st h => fk_w_iloadn 1 [a0, .int x, a2] dX12_mayDie_128 rfl,
  fun d L x y st h => fk_r_iadd dX12_mayDie_129,
  fun d L st N y l i hi => fk_g_iald fk_at_247 fk_ln_247 (by decide) dX12_mayDie_130 hi,
  fun d L x y st h => fk_r_icmp_ne dX12_mayDie_131 (by decide),
  fun d a1 a2 x st h => fk_w_aloadn 0 [.ref x, a1, a2] dX12_mayDie_134 rfl,
  fun d L st N y l => fk_g_getC rfl lf_12_7 (by decide) rfl dX12_mayDie_135 fk_at_246,
  fun d L st h => fk_w_sipush dX12_mayDie_138 (by decide),
  fun d a0 a1 x st h => fk_w_iloadn 2 [a0, a1, .int x] dX12_mayDie_141 rfl,
  fun d L x y st h => fk_r_iadd dX12_mayDie_142,
  fun d L st h => fk_w_bipush dX12_mayDie_143 (by decide),
  fun d a1 a2 x st h => fk_w_aloadn 0 [.ref x, a1, a2] dX12_mayDie_145 rfl,
  fun d L st N y l => fk_g_getC rfl lf_12_7 (by decide) rfl dX12_mayDie_146 fk_at_246,
  fun d L st h => fk_w_sipush dX12_mayDie_149 (by decide),
  fun d a0 a1 x st h => fk_w_iloadn 2 [a0, a1, .int x] dX12_mayDie_152 rfl,
  fun d L x y st h => fk_r_iadd dX12_mayDie_153,
  fun d L st N y l i hi => fk_g_iald fk_at_247 fk_ln_247 (by decide) dX12_mayDie_154 hi,
  fun d L st h => fk_w_iconst dX12_mayDie_155 (by decide),
  fun d L x y st h => fk_r_iadd dX12_mayDie_156,
  fun d L x0 x1 w0 w1 h => fk_g_calls [.int x0, .int x1] [w0, w1] rfl lm_12_278 dX12_mayDie_157 rfl ⟨rfl, by decide⟩ (by simp),
  fun d L st N y l i v hi => fk_g_iast fk_at_247 fk_ln_247 (by decide) dX12_mayDie_160 hi,
  fun d a0 a1 x st h => fk_w_iinc 2 3 (1) [] [a0, a1, .int x] [a0, a1, .int (x + nI 1)] dX12_mayDie_161 rfl rfl rfl (by decide) rfl,
  fun d L st h => fk_r_goto dX12_mayDie_164 (by decide),
  fun d L h => fk_r_vret dX12_mayDie_167 rfl⟩
theorem hX12_mayDie_95 : ∀ (d : Nat) (a0 a1 : Value) (x : Int32) (st : List Value) (h : fk_H), fk_ev d qX12_mayDie 95 [a0, a1, .int x] st h = fk_ev d qX12_mayDie 96 [a0, a1, .int x] (.int x :: st) h := fun d a0 a1 x st h => fk_w_iloadn 2 [a0, a1, .int x] dX12_mayDie_95 rfl
theorem dX12_doubtOf_0 : decode cX12_doubtOf 0 = .ok (.aload_n 0, 1) := by decide +kernel
theorem dX12_doubtOf_1 : decode cX12_doubtOf 1 = .ok (.getfield 7, 3) := by decide +kernel
theorem dX12_doubtOf_4 : decode cX12_doubtOf 4 = .ok (.iconst 0, 1) := by decide +kernel
theorem dX12_doubtOf_5 : decode cX12_doubtOf 5 = .ok (.iload_n 1, 1) := by decide +kernel
theorem dX12_doubtOf_6 : decode cX12_doubtOf 6 = .ok (.iadd, 1) := by decide +kernel
theorem dX12_doubtOf_7 : decode cX12_doubtOf 7 = .ok (.iaload, 1) := by decide +kernel
theorem dX12_doubtOf_8 : decode cX12_doubtOf 8 = .ok (.aload_n 0, 1) := by decide +kernel
theorem dX12_doubtOf_9 : decode cX12_doubtOf 9 = .ok (.getfield 97, 3) := by decide +kernel
theorem dX12_doubtOf_12 : decode cX12_doubtOf 12 = .ok (.if_icmp .ne 30, 3) := by decide +kernel
theorem dX12_doubtOf_15 : decode cX12_doubtOf 15 = .ok (.aload_n 0, 1) := by decide +kernel
theorem dX12_doubtOf_16 : decode cX12_doubtOf 16 = .ok (.getfield 286, 3) := by decide +kernel
theorem dX12_doubtOf_19 : decode cX12_doubtOf 19 = .ok (.aload_n 0, 1) := by decide +kernel
theorem dX12_doubtOf_20 : decode cX12_doubtOf 20 = .ok (.getfield 7, 3) := by decide +kernel
theorem dX12_doubtOf_23 : decode cX12_doubtOf 23 = .ok (.sipush 320, 3) := by decide +kernel
theorem dX12_doubtOf_26 : decode cX12_doubtOf 26 = .ok (.iload_n 1, 1) := by decide +kernel
theorem dX12_doubtOf_27 : decode cX12_doubtOf 27 = .ok (.iadd, 1) := by decide +kernel
theorem dX12_doubtOf_28 : decode cX12_doubtOf 28 = .ok (.iaload, 1) := by decide +kernel
theorem dX12_doubtOf_29 : decode cX12_doubtOf 29 = .ok (.invokestatic 108, 3) := by decide +kernel
theorem dX12_doubtOf_32 : decode cX12_doubtOf 32 = .ok (.ifCond .eq 8, 3) := by decide +kernel
theorem dX12_doubtOf_35 : decode cX12_doubtOf 35 = .ok (.bipush 99, 2) := by decide +kernel
theorem dX12_doubtOf_37 : decode cX12_doubtOf 37 = .ok (.goto 4, 3) := by decide +kernel
theorem dX12_doubtOf_40 : decode cX12_doubtOf 40 = .ok (.iconst 0, 1) := by decide +kernel
theorem dX12_doubtOf_41 : decode cX12_doubtOf 41 = .ok (.ireturn, 1) := by decide +kernel
theorem dX12_doubtOf_42 : decode cX12_doubtOf 42 = .ok (.aload_n 0, 1) := by decide +kernel
theorem dX12_doubtOf_43 : decode cX12_doubtOf 43 = .ok (.iload_n 1, 1) := by decide +kernel
theorem dX12_doubtOf_44 : decode cX12_doubtOf 44 = .ok (.invokevirtual 263, 3) := by decide +kernel
theorem dX12_doubtOf_47 : decode cX12_doubtOf 47 = .ok (.aload_n 0, 1) := by decide +kernel
theorem dX12_doubtOf_48 : decode cX12_doubtOf 48 = .ok (.bipush 100, 2) := by decide +kernel
theorem dX12_doubtOf_50 : decode cX12_doubtOf 50 = .ok (.bipush 99, 2) := by decide +kernel
theorem dX12_doubtOf_52 : decode cX12_doubtOf 52 = .ok (.invokevirtual 266, 3) := by decide +kernel
theorem dX12_doubtOf_55 : decode cX12_doubtOf 55 = .ok (.ireturn, 1) := by decide +kernel
theorem rX12_doubtOf : (∀ (d : Nat) (a1 : Value) (x : Nat) (st : List Value) (h : fk_H), fk_ev d qX12_doubtOf 0 [.ref x, a1] st h = fk_ev d qX12_doubtOf 1 [.ref x, a1] (.ref x :: st) h) ∧
  (∀ (d : Nat) (L st : List Value) (N : Nat) (y : Nat → Nat → Int32) (l : Nat → Nat → Int64), fk_ev d qX12_doubtOf 1 L (.ref 246 :: st) (fk_E N y l) = fk_ev d qX12_doubtOf 4 L (.ref 247 :: st) (fk_E N y l)) ∧
  (∀ (d : Nat) (L st : List Value) (h : fk_H), fk_ev d qX12_doubtOf 4 L st h = fk_ev d qX12_doubtOf 5 L (.int (nI 0) :: st) h) ∧
  (∀ (d : Nat) (a0 : Value) (x : Int32) (st : List Value) (h : fk_H), fk_ev d qX12_doubtOf 5 [a0, .int x] st h = fk_ev d qX12_doubtOf 6 [a0, .int x] (.int x :: st) h) ∧
  (∀ (d : Nat) (L : List Value) (x y : Int32) (st : List Value) (h : fk_H), fk_ev d qX12_doubtOf 6 L (.int y :: .int x :: st) h = fk_ev d qX12_doubtOf 7 L (.int (x + y) :: st) h) ∧
  (∀ (d : Nat) (L st : List Value) (N : Nat) (y : Nat → Nat → Int32) (l : Nat → Nat → Int64) (i : Nat), i < 3912 → fk_ev d qX12_doubtOf 7 L (.int (nI i) :: .ref 247 :: st) (fk_E N y l) = fk_ev d qX12_doubtOf 8 L (.int (y 247 i) :: st) (fk_E N y l)) ∧
  (∀ (d : Nat) (a1 : Value) (x : Nat) (st : List Value) (h : fk_H), fk_ev d qX12_doubtOf 8 [.ref x, a1] st h = fk_ev d qX12_doubtOf 9 [.ref x, a1] (.ref x :: st) h) ∧
  (∀ (d : Nat) (L st : List Value) (N : Nat) (y : Nat → Nat → Int32) (l : Nat → Nat → Int64), fk_ev d qX12_doubtOf 9 L (.ref 246 :: st) (fk_E N y l) = fk_ev d qX12_doubtOf 12 L (.int (y 246 33) :: st) (fk_E N y l)) ∧
  (∀ (d : Nat) (L : List Value) (x y : Int32) (st : List Value) (h : fk_H), fk_ev d qX12_doubtOf 12 L (.int y :: .int x :: st) h = if ¬ x = y then fk_ev d qX12_doubtOf 42 L st h else fk_ev d qX12_doubtOf 15 L st h) ∧
  (∀ (d : Nat) (a1 : Value) (x : Nat) (st : List Value) (h : fk_H), fk_ev d qX12_doubtOf 15 [.ref x, a1] st h = fk_ev d qX12_doubtOf 16 [.ref x, a1] (.ref x :: st) h) ∧
  (∀ (d : Nat) (L st : List Value) (N : Nat) (y : Nat → Nat → Int32) (l : Nat → Nat → Int64), fk_ev d qX12_doubtOf 16 L (.ref 246 :: st) (fk_E N y l) = fk_ev d qX12_doubtOf 19 L (.int (y 246 34) :: st) (fk_E N y l)) ∧
  (∀ (d : Nat) (a1 : Value) (x : Nat) (st : List Value) (h : fk_H), fk_ev d qX12_doubtOf 19 [.ref x, a1] st h = fk_ev d qX12_doubtOf 20 [.ref x, a1] (.ref x :: st) h) ∧
  (∀ (d : Nat) (L st : List Value) (N : Nat) (y : Nat → Nat → Int32) (l : Nat → Nat → Int64), fk_ev d qX12_doubtOf 20 L (.ref 246 :: st) (fk_E N y l) = fk_ev d qX12_doubtOf 23 L (.ref 247 :: st) (fk_E N y l)) ∧
  (∀ (d : Nat) (L st : List Value) (h : fk_H), fk_ev d qX12_doubtOf 23 L st h = fk_ev d qX12_doubtOf 26 L (.int (nI 320) :: st) h) ∧
  (∀ (d : Nat) (a0 : Value) (x : Int32) (st : List Value) (h : fk_H), fk_ev d qX12_doubtOf 26 [a0, .int x] st h = fk_ev d qX12_doubtOf 27 [a0, .int x] (.int x :: st) h) ∧
  (∀ (d : Nat) (L : List Value) (x y : Int32) (st : List Value) (h : fk_H), fk_ev d qX12_doubtOf 27 L (.int y :: .int x :: st) h = fk_ev d qX12_doubtOf 28 L (.int (x + y) :: st) h) ∧
  (∀ (d : Nat) (L st : List Value) (N : Nat) (y : Nat → Nat → Int32) (l : Nat → Nat → Int64) (i : Nat), i < 3912 → fk_ev d qX12_doubtOf 28 L (.int (nI i) :: .ref 247 :: st) (fk_E N y l) = fk_ev d qX12_doubtOf 29 L (.int (y 247 i) :: st) (fk_E N y l)) ∧
  (∀ (d : Nat) (L : List Value) (x0 : Int32) (x1 : Int32)  (h : fk_H), fk_ev (d + 1) qX12_doubtOf 29 L (.int x1 :: .int x0 :: []) h = (fk_ev d qX12_has 0 [.int x0, .int x1] [] h).bind fun o => fk_ev (d + 1) qX12_doubtOf 32 L (o.1.toList ++ []) o.2) ∧
  (∀ (d : Nat) (L : List Value) (x : Int32) (st : List Value) (h : fk_H), fk_ev d qX12_doubtOf 32 L (.int x :: st) h = if x = nI 0 then fk_ev d qX12_doubtOf 40 L st h else fk_ev d qX12_doubtOf 35 L st h) ∧
  (∀ (d : Nat) (L st : List Value) (h : fk_H), fk_ev d qX12_doubtOf 35 L st h = fk_ev d qX12_doubtOf 37 L (.int (nI 99) :: st) h) ∧
  (∀ (d : Nat) (L st : List Value) (h : fk_H), fk_ev d qX12_doubtOf 37 L st h = fk_ev d qX12_doubtOf 41 L st h) ∧
  (∀ (d : Nat) (L st : List Value) (h : fk_H), fk_ev d qX12_doubtOf 40 L st h = fk_ev d qX12_doubtOf 41 L (.int (nI 0) :: st) h) ∧
  (∀ (d : Nat) (L : List Value) (x : Int32) (h : fk_H), fk_ev d qX12_doubtOf 41 L [.int x] h = some (some (.int x), h)) ∧
  (∀ (d : Nat) (a1 : Value) (x : Nat) (st : List Value) (h : fk_H), fk_ev d qX12_doubtOf 42 [.ref x, a1] st h = fk_ev d qX12_doubtOf 43 [.ref x, a1] (.ref x :: st) h) ∧
  (∀ (d : Nat) (a0 : Value) (x : Int32) (st : List Value) (h : fk_H), fk_ev d qX12_doubtOf 43 [a0, .int x] st h = fk_ev d qX12_doubtOf 44 [a0, .int x] (.int x :: st) h) ∧
  (∀ (d : Nat) (L : List Value) (x0 : Int32)  (N : Nat) (y : Nat → Nat → Int32) (l : Nat → Nat → Int64), fk_ev (d + 1) qX12_doubtOf 44 L (.int x0 :: .ref 246 :: []) (fk_E N y l) = (fk_ev d qX12_feels 0 [.ref 246, .int x0, .null] [] (fk_E N y l)).bind fun o => fk_ev (d + 1) qX12_doubtOf 47 L (o.1.toList ++ []) o.2) ∧
  (∀ (d : Nat) (a1 : Value) (x : Nat) (st : List Value) (h : fk_H), fk_ev d qX12_doubtOf 47 [.ref x, a1] st h = fk_ev d qX12_doubtOf 48 [.ref x, a1] (.ref x :: st) h) ∧
  (∀ (d : Nat) (L st : List Value) (h : fk_H), fk_ev d qX12_doubtOf 48 L st h = fk_ev d qX12_doubtOf 50 L (.int (nI 100) :: st) h) ∧
  (∀ (d : Nat) (L st : List Value) (h : fk_H), fk_ev d qX12_doubtOf 50 L st h = fk_ev d qX12_doubtOf 52 L (.int (nI 99) :: st) h) ∧
  (∀ (d : Nat) (L : List Value) (x0 : Int32) (x1 : Int32)  (N : Nat) (y : Nat → Nat → Int32) (l : Nat → Nat → Int64), fk_ev (d + 1) qX12_doubtOf 52 L (.int x1 :: .int x0 :: .ref 246 :: []) (fk_E N y l) = (fk_ev d qX12_byLaw 0 [.ref 246, .int x0, .int x1, .null, .null] [] (fk_E N y l)).bind fun o => fk_ev (d + 1) qX12_doubtOf 55 L (o.1.toList ++ []) o.2) ∧
  (∀ (d : Nat) (L : List Value) (x : Int32) (h : fk_H), fk_ev d qX12_doubtOf 55 L [.int x] h = some (some (.int x), h)) := ⟨fun d a1 x st h => fk_w_aloadn 0 [.ref x, a1] dX12_doubtOf_0 rfl,
  fun d L st N y l => fk_g_getC rfl lf_12_7 (by decide) rfl dX12_doubtOf_1 fk_at_246,
  fun d L st h => fk_w_iconst dX12_doubtOf_4 (by decide),
  fun d a0 x st h => fk_w_iloadn 1 [a0, .int x] dX12_doubtOf_5 rfl,
  fun d L x y st h => fk_r_iadd dX12_doubtOf_6,
  fun d L st N y l i hi => fk_g_iald fk_at_247 fk_ln_247 (by decide) dX12_doubtOf_7 hi,
  fun d a1 x st h => fk_w_aloadn 0 [.ref x, a1] dX12_doubtOf_8 rfl,
  fun d L st N y l => fk_g_getI rfl lf_12_97 (by decide) dX12_doubtOf_9 fk_at_246,
  fun d L x y st h => fk_r_icmp_ne dX12_doubtOf_12 (by decide),
  fun d a1 x st h => fk_w_aloadn 0 [.ref x, a1] dX12_doubtOf_15 rfl,
  fun d L st N y l => fk_g_getI rfl lf_12_286 (by decide) dX12_doubtOf_16 fk_at_246,
  fun d a1 x st h => fk_w_aloadn 0 [.ref x, a1] dX12_doubtOf_19 rfl,
  fun d L st N y l => fk_g_getC rfl lf_12_7 (by decide) rfl dX12_doubtOf_20 fk_at_246,
  fun d L st h => fk_w_sipush dX12_doubtOf_23 (by decide),
  fun d a0 x st h => fk_w_iloadn 1 [a0, .int x] dX12_doubtOf_26 rfl,
  fun d L x y st h => fk_r_iadd dX12_doubtOf_27,
  fun d L st N y l i hi => fk_g_iald fk_at_247 fk_ln_247 (by decide) dX12_doubtOf_28 hi,
  fun d L x0 x1 h => fk_g_calls [.int x0, .int x1] [] rfl lm_12_108 dX12_doubtOf_29 rfl ⟨rfl, by decide⟩ (by simp),
  fun d L x st h => fk_r_if_eq dX12_doubtOf_32 (by decide),
  fun d L st h => fk_w_bipush dX12_doubtOf_35 (by decide),
  fun d L st h => fk_r_goto dX12_doubtOf_37 (by decide),
  fun d L st h => fk_w_iconst dX12_doubtOf_40 (by decide),
  fun d L x h => fk_r_ret dX12_doubtOf_41 (Or.inl rfl),
  fun d a1 x st h => fk_w_aloadn 0 [.ref x, a1] dX12_doubtOf_42 rfl,
  fun d a0 x st h => fk_w_iloadn 1 [a0, .int x] dX12_doubtOf_43 rfl,
  fun d L x0 N y l  => fk_g_call [.int x0] [] rfl lm_12_263 dX12_doubtOf_44 rfl ⟨rfl, by decide⟩ (by simp) fk_at_246,
  fun d a1 x st h => fk_w_aloadn 0 [.ref x, a1] dX12_doubtOf_47 rfl,
  fun d L st h => fk_w_bipush dX12_doubtOf_48 (by decide),
  fun d L st h => fk_w_bipush dX12_doubtOf_50 (by decide),
  fun d L x0 x1 N y l  => fk_g_call [.int x0, .int x1] [] rfl lm_12_266 dX12_doubtOf_52 rfl ⟨rfl, by decide⟩ (by simp) fk_at_246,
  fun d L x h => fk_r_ret dX12_doubtOf_55 (Or.inl rfl)⟩
theorem dX12_bestRoad_0 : decode cX12_bestRoad 0 = .ok (.iconst (-1), 1) := by decide +kernel
theorem dX12_bestRoad_1 : decode cX12_bestRoad 1 = .ok (.istore_n 3, 1) := by decide +kernel
theorem dX12_bestRoad_2 : decode cX12_bestRoad 2 = .ok (.iconst 0, 1) := by decide +kernel
theorem dX12_bestRoad_3 : decode cX12_bestRoad 3 = .ok (.istore 4, 2) := by decide +kernel
theorem dX12_bestRoad_5 : decode cX12_bestRoad 5 = .ok (.iconst 0, 1) := by decide +kernel
theorem dX12_bestRoad_6 : decode cX12_bestRoad 6 = .ok (.istore 5, 2) := by decide +kernel
theorem dX12_bestRoad_8 : decode cX12_bestRoad 8 = .ok (.iload 5, 2) := by decide +kernel
theorem dX12_bestRoad_10 : decode cX12_bestRoad 10 = .ok (.bipush 32, 2) := by decide +kernel
theorem dX12_bestRoad_12 : decode cX12_bestRoad 12 = .ok (.if_icmp .ge 73, 3) := by decide +kernel
theorem dX12_bestRoad_15 : decode cX12_bestRoad 15 = .ok (.iload 5, 2) := by decide +kernel
theorem dX12_bestRoad_17 : decode cX12_bestRoad 17 = .ok (.iload_n 2, 1) := by decide +kernel
theorem dX12_bestRoad_18 : decode cX12_bestRoad 18 = .ok (.if_icmp .eq 61, 3) := by decide +kernel
theorem dX12_bestRoad_21 : decode cX12_bestRoad 21 = .ok (.aload_n 0, 1) := by decide +kernel
theorem dX12_bestRoad_22 : decode cX12_bestRoad 22 = .ok (.iload 5, 2) := by decide +kernel
theorem dX12_bestRoad_24 : decode cX12_bestRoad 24 = .ok (.invokevirtual 289, 3) := by decide +kernel
theorem dX12_bestRoad_27 : decode cX12_bestRoad 27 = .ok (.ifCond .eq 52, 3) := by decide +kernel
theorem dX12_bestRoad_30 : decode cX12_bestRoad 30 = .ok (.aload_n 0, 1) := by decide +kernel
theorem dX12_bestRoad_31 : decode cX12_bestRoad 31 = .ok (.getfield 19, 3) := by decide +kernel
theorem dX12_bestRoad_34 : decode cX12_bestRoad 34 = .ok (.iload 5, 2) := by decide +kernel
theorem dX12_bestRoad_36 : decode cX12_bestRoad 36 = .ok (.iaload, 1) := by decide +kernel
theorem dX12_bestRoad_37 : decode cX12_bestRoad 37 = .ok (.aload_n 0, 1) := by decide +kernel
theorem dX12_bestRoad_38 : decode cX12_bestRoad 38 = .ok (.getfield 7, 3) := by decide +kernel
theorem dX12_bestRoad_41 : decode cX12_bestRoad 41 = .ok (.sipush 320, 3) := by decide +kernel
theorem dX12_bestRoad_44 : decode cX12_bestRoad 44 = .ok (.iload_n 1, 1) := by decide +kernel
theorem dX12_bestRoad_45 : decode cX12_bestRoad 45 = .ok (.iadd, 1) := by decide +kernel
theorem dX12_bestRoad_46 : decode cX12_bestRoad 46 = .ok (.iaload, 1) := by decide +kernel
theorem dX12_bestRoad_47 : decode cX12_bestRoad 47 = .ok (.if_icmp .eq 6, 3) := by decide +kernel
theorem dX12_bestRoad_50 : decode cX12_bestRoad 50 = .ok (.goto 29, 3) := by decide +kernel
theorem dX12_bestRoad_53 : decode cX12_bestRoad 53 = .ok (.aload_n 0, 1) := by decide +kernel
theorem dX12_bestRoad_54 : decode cX12_bestRoad 54 = .ok (.iload_n 1, 1) := by decide +kernel
theorem dX12_bestRoad_55 : decode cX12_bestRoad 55 = .ok (.iload 5, 2) := by decide +kernel
theorem dX12_bestRoad_57 : decode cX12_bestRoad 57 = .ok (.invokevirtual 292, 3) := by decide +kernel
theorem dX12_bestRoad_60 : decode cX12_bestRoad 60 = .ok (.istore 6, 2) := by decide +kernel
theorem dX12_bestRoad_62 : decode cX12_bestRoad 62 = .ok (.iload 6, 2) := by decide +kernel
theorem dX12_bestRoad_64 : decode cX12_bestRoad 64 = .ok (.iload 4, 2) := by decide +kernel
theorem dX12_bestRoad_66 : decode cX12_bestRoad 66 = .ok (.if_icmp .gt 6, 3) := by decide +kernel
theorem dX12_bestRoad_69 : decode cX12_bestRoad 69 = .ok (.goto 10, 3) := by decide +kernel
theorem dX12_bestRoad_72 : decode cX12_bestRoad 72 = .ok (.iload 6, 2) := by decide +kernel
theorem dX12_bestRoad_74 : decode cX12_bestRoad 74 = .ok (.istore 4, 2) := by decide +kernel
theorem dX12_bestRoad_76 : decode cX12_bestRoad 76 = .ok (.iload 5, 2) := by decide +kernel
theorem dX12_bestRoad_78 : decode cX12_bestRoad 78 = .ok (.istore_n 3, 1) := by decide +kernel
theorem dX12_bestRoad_79 : decode cX12_bestRoad 79 = .ok (.iinc 5 1, 3) := by decide +kernel
theorem dX12_bestRoad_82 : decode cX12_bestRoad 82 = .ok (.goto (-74), 3) := by decide +kernel
theorem dX12_bestRoad_85 : decode cX12_bestRoad 85 = .ok (.iload_n 3, 1) := by decide +kernel
theorem dX12_bestRoad_86 : decode cX12_bestRoad 86 = .ok (.ireturn, 1) := by decide +kernel
theorem rX12_bestRoad : (∀ (d : Nat) (L st : List Value) (h : fk_H), fk_ev d qX12_bestRoad 0 L st h = fk_ev d qX12_bestRoad 1 L (.int ((-1 : Int32)) :: st) h) ∧
  (∀ (d : Nat) (a0 a1 a2 a3 a4 a5 a6 : Value) (x : Int32) (st : List Value) (h : fk_H), fk_ev d qX12_bestRoad 1 [a0, a1, a2, a3, a4, a5, a6] (.int x :: st) h = fk_ev d qX12_bestRoad 2 [a0, a1, a2, .int x, a4, a5, a6] st h) ∧
  (∀ (d : Nat) (L st : List Value) (h : fk_H), fk_ev d qX12_bestRoad 2 L st h = fk_ev d qX12_bestRoad 3 L (.int (nI 0) :: st) h) ∧
  (∀ (d : Nat) (a0 a1 a2 a3 a4 a5 a6 : Value) (x : Int32) (st : List Value) (h : fk_H), fk_ev d qX12_bestRoad 3 [a0, a1, a2, a3, a4, a5, a6] (.int x :: st) h = fk_ev d qX12_bestRoad 5 [a0, a1, a2, a3, .int x, a5, a6] st h) ∧
  (∀ (d : Nat) (L st : List Value) (h : fk_H), fk_ev d qX12_bestRoad 5 L st h = fk_ev d qX12_bestRoad 6 L (.int (nI 0) :: st) h) ∧
  (∀ (d : Nat) (a0 a1 a2 a3 a4 a5 a6 : Value) (x : Int32) (st : List Value) (h : fk_H), fk_ev d qX12_bestRoad 6 [a0, a1, a2, a3, a4, a5, a6] (.int x :: st) h = fk_ev d qX12_bestRoad 8 [a0, a1, a2, a3, a4, .int x, a6] st h) ∧
  (∀ (d : Nat) (L st : List Value) (h : fk_H), fk_ev d qX12_bestRoad 10 L st h = fk_ev d qX12_bestRoad 12 L (.int (nI 32) :: st) h) ∧
  (∀ (d : Nat) (L : List Value) (x y : Int32) (st : List Value) (h : fk_H), fk_ev d qX12_bestRoad 12 L (.int y :: .int x :: st) h = if y ≤ x then fk_ev d qX12_bestRoad 85 L st h else fk_ev d qX12_bestRoad 15 L st h) ∧
  (∀ (d : Nat) (a0 a1 a2 a3 a4 a6 : Value) (x : Int32) (st : List Value) (h : fk_H), fk_ev d qX12_bestRoad 15 [a0, a1, a2, a3, a4, .int x, a6] st h = fk_ev d qX12_bestRoad 17 [a0, a1, a2, a3, a4, .int x, a6] (.int x :: st) h) ∧
  (∀ (d : Nat) (a0 a1 a3 a4 a5 a6 : Value) (x : Int32) (st : List Value) (h : fk_H), fk_ev d qX12_bestRoad 17 [a0, a1, .int x, a3, a4, a5, a6] st h = fk_ev d qX12_bestRoad 18 [a0, a1, .int x, a3, a4, a5, a6] (.int x :: st) h) ∧
  (∀ (d : Nat) (L : List Value) (x y : Int32) (st : List Value) (h : fk_H), fk_ev d qX12_bestRoad 18 L (.int y :: .int x :: st) h = if x = y then fk_ev d qX12_bestRoad 79 L st h else fk_ev d qX12_bestRoad 21 L st h) ∧
  (∀ (d : Nat) (a1 a2 a3 a4 a5 a6 : Value) (x : Nat) (st : List Value) (h : fk_H), fk_ev d qX12_bestRoad 21 [.ref x, a1, a2, a3, a4, a5, a6] st h = fk_ev d qX12_bestRoad 22 [.ref x, a1, a2, a3, a4, a5, a6] (.ref x :: st) h) ∧
  (∀ (d : Nat) (a0 a1 a2 a3 a4 a6 : Value) (x : Int32) (st : List Value) (h : fk_H), fk_ev d qX12_bestRoad 22 [a0, a1, a2, a3, a4, .int x, a6] st h = fk_ev d qX12_bestRoad 24 [a0, a1, a2, a3, a4, .int x, a6] (.int x :: st) h) ∧
  (∀ (d : Nat) (L : List Value) (x0 : Int32)  (N : Nat) (y : Nat → Nat → Int32) (l : Nat → Nat → Int64), fk_ev (d + 1) qX12_bestRoad 24 L (.int x0 :: .ref 246 :: []) (fk_E N y l) = (fk_ev d qX12_isRoad 0 [.ref 246, .int x0] [] (fk_E N y l)).bind fun o => fk_ev (d + 1) qX12_bestRoad 27 L (o.1.toList ++ []) o.2) ∧
  (∀ (d : Nat) (L : List Value) (x : Int32) (st : List Value) (h : fk_H), fk_ev d qX12_bestRoad 27 L (.int x :: st) h = if x = nI 0 then fk_ev d qX12_bestRoad 79 L st h else fk_ev d qX12_bestRoad 30 L st h) ∧
  (∀ (d : Nat) (a1 a2 a3 a4 a5 a6 : Value) (x : Nat) (st : List Value) (h : fk_H), fk_ev d qX12_bestRoad 30 [.ref x, a1, a2, a3, a4, a5, a6] st h = fk_ev d qX12_bestRoad 31 [.ref x, a1, a2, a3, a4, a5, a6] (.ref x :: st) h) ∧
  (∀ (d : Nat) (L st : List Value) (N : Nat) (y : Nat → Nat → Int32) (l : Nat → Nat → Int64), fk_ev d qX12_bestRoad 31 L (.ref 246 :: st) (fk_E N y l) = fk_ev d qX12_bestRoad 34 L (.ref 250 :: st) (fk_E N y l)) ∧
  (∀ (d : Nat) (a0 a1 a2 a3 a4 a6 : Value) (x : Int32) (st : List Value) (h : fk_H), fk_ev d qX12_bestRoad 34 [a0, a1, a2, a3, a4, .int x, a6] st h = fk_ev d qX12_bestRoad 36 [a0, a1, a2, a3, a4, .int x, a6] (.int x :: st) h) ∧
  (∀ (d : Nat) (L st : List Value) (N : Nat) (y : Nat → Nat → Int32) (l : Nat → Nat → Int64) (i : Nat), i < 32 → fk_ev d qX12_bestRoad 36 L (.int (nI i) :: .ref 250 :: st) (fk_E N y l) = fk_ev d qX12_bestRoad 37 L (.int (y 250 i) :: st) (fk_E N y l)) ∧
  (∀ (d : Nat) (a1 a2 a3 a4 a5 a6 : Value) (x : Nat) (st : List Value) (h : fk_H), fk_ev d qX12_bestRoad 37 [.ref x, a1, a2, a3, a4, a5, a6] st h = fk_ev d qX12_bestRoad 38 [.ref x, a1, a2, a3, a4, a5, a6] (.ref x :: st) h) ∧
  (∀ (d : Nat) (L st : List Value) (N : Nat) (y : Nat → Nat → Int32) (l : Nat → Nat → Int64), fk_ev d qX12_bestRoad 38 L (.ref 246 :: st) (fk_E N y l) = fk_ev d qX12_bestRoad 41 L (.ref 247 :: st) (fk_E N y l)) ∧
  (∀ (d : Nat) (L st : List Value) (h : fk_H), fk_ev d qX12_bestRoad 41 L st h = fk_ev d qX12_bestRoad 44 L (.int (nI 320) :: st) h) ∧
  (∀ (d : Nat) (a0 a2 a3 a4 a5 a6 : Value) (x : Int32) (st : List Value) (h : fk_H), fk_ev d qX12_bestRoad 44 [a0, .int x, a2, a3, a4, a5, a6] st h = fk_ev d qX12_bestRoad 45 [a0, .int x, a2, a3, a4, a5, a6] (.int x :: st) h) ∧
  (∀ (d : Nat) (L : List Value) (x y : Int32) (st : List Value) (h : fk_H), fk_ev d qX12_bestRoad 45 L (.int y :: .int x :: st) h = fk_ev d qX12_bestRoad 46 L (.int (x + y) :: st) h) ∧
  (∀ (d : Nat) (L st : List Value) (N : Nat) (y : Nat → Nat → Int32) (l : Nat → Nat → Int64) (i : Nat), i < 3912 → fk_ev d qX12_bestRoad 46 L (.int (nI i) :: .ref 247 :: st) (fk_E N y l) = fk_ev d qX12_bestRoad 47 L (.int (y 247 i) :: st) (fk_E N y l)) ∧
  (∀ (d : Nat) (L : List Value) (x y : Int32) (st : List Value) (h : fk_H), fk_ev d qX12_bestRoad 47 L (.int y :: .int x :: st) h = if x = y then fk_ev d qX12_bestRoad 53 L st h else fk_ev d qX12_bestRoad 50 L st h) ∧
  (∀ (d : Nat) (L st : List Value) (h : fk_H), fk_ev d qX12_bestRoad 50 L st h = fk_ev d qX12_bestRoad 79 L st h) ∧
  (∀ (d : Nat) (a1 a2 a3 a4 a5 a6 : Value) (x : Nat) (st : List Value) (h : fk_H), fk_ev d qX12_bestRoad 53 [.ref x, a1, a2, a3, a4, a5, a6] st h = fk_ev d qX12_bestRoad 54 [.ref x, a1, a2, a3, a4, a5, a6] (.ref x :: st) h) ∧
  (∀ (d : Nat) (a0 a2 a3 a4 a5 a6 : Value) (x : Int32) (st : List Value) (h : fk_H), fk_ev d qX12_bestRoad 54 [a0, .int x, a2, a3, a4, a5, a6] st h = fk_ev d qX12_bestRoad 55 [a0, .int x, a2, a3, a4, a5, a6] (.int x :: st) h) ∧
  (∀ (d : Nat) (a0 a1 a2 a3 a4 a6 : Value) (x : Int32) (st : List Value) (h : fk_H), fk_ev d qX12_bestRoad 55 [a0, a1, a2, a3, a4, .int x, a6] st h = fk_ev d qX12_bestRoad 57 [a0, a1, a2, a3, a4, .int x, a6] (.int x :: st) h) ∧
  (∀ (d : Nat) (L : List Value) (x0 : Int32) (x1 : Int32)  (N : Nat) (y : Nat → Nat → Int32) (l : Nat → Nat → Int64), fk_ev (d + 1) qX12_bestRoad 57 L (.int x1 :: .int x0 :: .ref 246 :: []) (fk_E N y l) = (fk_ev d qX12_gladlyFor 0 [.ref 246, .int x0, .int x1] [] (fk_E N y l)).bind fun o => fk_ev (d + 1) qX12_bestRoad 60 L (o.1.toList ++ []) o.2) ∧
  (∀ (d : Nat) (a0 a1 a2 a3 a4 a5 a6 : Value) (x : Int32) (st : List Value) (h : fk_H), fk_ev d qX12_bestRoad 60 [a0, a1, a2, a3, a4, a5, a6] (.int x :: st) h = fk_ev d qX12_bestRoad 62 [a0, a1, a2, a3, a4, a5, .int x] st h) ∧
  (∀ (d : Nat) (a0 a1 a2 a3 a4 a5 : Value) (x : Int32) (st : List Value) (h : fk_H), fk_ev d qX12_bestRoad 62 [a0, a1, a2, a3, a4, a5, .int x] st h = fk_ev d qX12_bestRoad 64 [a0, a1, a2, a3, a4, a5, .int x] (.int x :: st) h) ∧
  (∀ (d : Nat) (a0 a1 a2 a3 a5 a6 : Value) (x : Int32) (st : List Value) (h : fk_H), fk_ev d qX12_bestRoad 64 [a0, a1, a2, a3, .int x, a5, a6] st h = fk_ev d qX12_bestRoad 66 [a0, a1, a2, a3, .int x, a5, a6] (.int x :: st) h) ∧
  (∀ (d : Nat) (L : List Value) (x y : Int32) (st : List Value) (h : fk_H), fk_ev d qX12_bestRoad 66 L (.int y :: .int x :: st) h = if y < x then fk_ev d qX12_bestRoad 72 L st h else fk_ev d qX12_bestRoad 69 L st h) ∧
  (∀ (d : Nat) (L st : List Value) (h : fk_H), fk_ev d qX12_bestRoad 69 L st h = fk_ev d qX12_bestRoad 79 L st h) ∧
  (∀ (d : Nat) (a0 a1 a2 a3 a4 a5 : Value) (x : Int32) (st : List Value) (h : fk_H), fk_ev d qX12_bestRoad 72 [a0, a1, a2, a3, a4, a5, .int x] st h = fk_ev d qX12_bestRoad 74 [a0, a1, a2, a3, a4, a5, .int x] (.int x :: st) h) ∧
  (∀ (d : Nat) (a0 a1 a2 a3 a4 a5 a6 : Value) (x : Int32) (st : List Value) (h : fk_H), fk_ev d qX12_bestRoad 74 [a0, a1, a2, a3, a4, a5, a6] (.int x :: st) h = fk_ev d qX12_bestRoad 76 [a0, a1, a2, a3, .int x, a5, a6] st h) ∧
  (∀ (d : Nat) (a0 a1 a2 a3 a4 a6 : Value) (x : Int32) (st : List Value) (h : fk_H), fk_ev d qX12_bestRoad 76 [a0, a1, a2, a3, a4, .int x, a6] st h = fk_ev d qX12_bestRoad 78 [a0, a1, a2, a3, a4, .int x, a6] (.int x :: st) h) ∧
  (∀ (d : Nat) (a0 a1 a2 a3 a4 a5 a6 : Value) (x : Int32) (st : List Value) (h : fk_H), fk_ev d qX12_bestRoad 78 [a0, a1, a2, a3, a4, a5, a6] (.int x :: st) h = fk_ev d qX12_bestRoad 79 [a0, a1, a2, .int x, a4, a5, a6] st h) ∧
  (∀ (d : Nat) (a0 a1 a2 a3 a4 a6 : Value) (x : Int32) (st : List Value) (h : fk_H), fk_ev d qX12_bestRoad 79 [a0, a1, a2, a3, a4, .int x, a6] st h = fk_ev d qX12_bestRoad 82 [a0, a1, a2, a3, a4, .int (x + nI 1), a6] st h) ∧
  (∀ (d : Nat) (L st : List Value) (h : fk_H), fk_ev d qX12_bestRoad 82 L st h = fk_ev d qX12_bestRoad 8 L st h) ∧
  (∀ (d : Nat) (a0 a1 a2 a4 a5 a6 : Value) (x : Int32) (st : List Value) (h : fk_H), fk_ev d qX12_bestRoad 85 [a0, a1, a2, .int x, a4, a5, a6] st h = fk_ev d qX12_bestRoad 86 [a0, a1, a2, .int x, a4, a5, a6] (.int x :: st) h) ∧
  (∀ (d : Nat) (L : List Value) (x : Int32) (h : fk_H), fk_ev d qX12_bestRoad 86 L [.int x] h = some (some (.int x), h)) := ⟨fun d L st h => fk_w_iconst dX12_bestRoad_0 (by decide),
  fun d a0 a1 a2 a3 a4 a5 a6 x st h => fk_w_istoren 3 7 [] [a0, a1, a2, a3, a4, a5, a6] [a0, a1, a2, .int x, a4, a5, a6] dX12_bestRoad_1 rfl rfl (by decide) rfl,
  fun d L st h => fk_w_iconst dX12_bestRoad_2 (by decide),
  fun d a0 a1 a2 a3 a4 a5 a6 x st h => fk_w_istore 4 7 [] [a0, a1, a2, a3, a4, a5, a6] [a0, a1, a2, a3, .int x, a5, a6] dX12_bestRoad_3 rfl rfl (by decide) rfl,
  fun d L st h => fk_w_iconst dX12_bestRoad_5 (by decide),
  fun d a0 a1 a2 a3 a4 a5 a6 x st h => fk_w_istore 5 7 [] [a0, a1, a2, a3, a4, a5, a6] [a0, a1, a2, a3, a4, .int x, a6] dX12_bestRoad_6 rfl rfl (by decide) rfl,
  fun d L st h => fk_w_bipush dX12_bestRoad_10 (by decide),
  fun d L x y st h => fk_r_icmp_ge dX12_bestRoad_12 (by decide),
  fun d a0 a1 a2 a3 a4 a6 x st h => fk_w_iload 5 [a0, a1, a2, a3, a4, .int x, a6] dX12_bestRoad_15 rfl,
  fun d a0 a1 a3 a4 a5 a6 x st h => fk_w_iloadn 2 [a0, a1, .int x, a3, a4, a5, a6] dX12_bestRoad_17 rfl,
  fun d L x y st h => fk_r_icmp_eq dX12_bestRoad_18 (by decide),
  fun d a1 a2 a3 a4 a5 a6 x st h => fk_w_aloadn 0 [.ref x, a1, a2, a3, a4, a5, a6] dX12_bestRoad_21 rfl,
  fun d a0 a1 a2 a3 a4 a6 x st h => fk_w_iload 5 [a0, a1, a2, a3, a4, .int x, a6] dX12_bestRoad_22 rfl,
  fun d L x0 N y l  => fk_g_call [.int x0] [] rfl lm_12_289 dX12_bestRoad_24 rfl ⟨rfl, by decide⟩ (by simp) fk_at_246,
  fun d L x st h => fk_r_if_eq dX12_bestRoad_27 (by decide),
  fun d a1 a2 a3 a4 a5 a6 x st h => fk_w_aloadn 0 [.ref x, a1, a2, a3, a4, a5, a6] dX12_bestRoad_30 rfl,
  fun d L st N y l => fk_g_getC rfl lf_12_19 (by decide) rfl dX12_bestRoad_31 fk_at_246,
  fun d a0 a1 a2 a3 a4 a6 x st h => fk_w_iload 5 [a0, a1, a2, a3, a4, .int x, a6] dX12_bestRoad_34 rfl,
  fun d L st N y l i hi => fk_g_iald fk_at_250 fk_ln_250 (by decide) dX12_bestRoad_36 hi,
  fun d a1 a2 a3 a4 a5 a6 x st h => fk_w_aloadn 0 [.ref x, a1, a2, a3, a4, a5, a6] dX12_bestRoad_37 rfl,
  fun d L st N y l => fk_g_getC rfl lf_12_7 (by decide) rfl dX12_bestRoad_38 fk_at_246,
  fun d L st h => fk_w_sipush dX12_bestRoad_41 (by decide),
  fun d a0 a2 a3 a4 a5 a6 x st h => fk_w_iloadn 1 [a0, .int x, a2, a3, a4, a5, a6] dX12_bestRoad_44 rfl,
  fun d L x y st h => fk_r_iadd dX12_bestRoad_45,
  fun d L st N y l i hi => fk_g_iald fk_at_247 fk_ln_247 (by decide) dX12_bestRoad_46 hi,
  fun d L x y st h => fk_r_icmp_eq dX12_bestRoad_47 (by decide),
  fun d L st h => fk_r_goto dX12_bestRoad_50 (by decide),
  fun d a1 a2 a3 a4 a5 a6 x st h => fk_w_aloadn 0 [.ref x, a1, a2, a3, a4, a5, a6] dX12_bestRoad_53 rfl,
  fun d a0 a2 a3 a4 a5 a6 x st h => fk_w_iloadn 1 [a0, .int x, a2, a3, a4, a5, a6] dX12_bestRoad_54 rfl,
  fun d a0 a1 a2 a3 a4 a6 x st h => fk_w_iload 5 [a0, a1, a2, a3, a4, .int x, a6] dX12_bestRoad_55 rfl,
  fun d L x0 x1 N y l  => fk_g_call [.int x0, .int x1] [] rfl lm_12_292 dX12_bestRoad_57 rfl ⟨rfl, by decide⟩ (by simp) fk_at_246,
  fun d a0 a1 a2 a3 a4 a5 a6 x st h => fk_w_istore 6 7 [] [a0, a1, a2, a3, a4, a5, a6] [a0, a1, a2, a3, a4, a5, .int x] dX12_bestRoad_60 rfl rfl (by decide) rfl,
  fun d a0 a1 a2 a3 a4 a5 x st h => fk_w_iload 6 [a0, a1, a2, a3, a4, a5, .int x] dX12_bestRoad_62 rfl,
  fun d a0 a1 a2 a3 a5 a6 x st h => fk_w_iload 4 [a0, a1, a2, a3, .int x, a5, a6] dX12_bestRoad_64 rfl,
  fun d L x y st h => fk_r_icmp_gt dX12_bestRoad_66 (by decide),
  fun d L st h => fk_r_goto dX12_bestRoad_69 (by decide),
  fun d a0 a1 a2 a3 a4 a5 x st h => fk_w_iload 6 [a0, a1, a2, a3, a4, a5, .int x] dX12_bestRoad_72 rfl,
  fun d a0 a1 a2 a3 a4 a5 a6 x st h => fk_w_istore 4 7 [] [a0, a1, a2, a3, a4, a5, a6] [a0, a1, a2, a3, .int x, a5, a6] dX12_bestRoad_74 rfl rfl (by decide) rfl,
  fun d a0 a1 a2 a3 a4 a6 x st h => fk_w_iload 5 [a0, a1, a2, a3, a4, .int x, a6] dX12_bestRoad_76 rfl,
  fun d a0 a1 a2 a3 a4 a5 a6 x st h => fk_w_istoren 3 7 [] [a0, a1, a2, a3, a4, a5, a6] [a0, a1, a2, .int x, a4, a5, a6] dX12_bestRoad_78 rfl rfl (by decide) rfl,
  fun d a0 a1 a2 a3 a4 a6 x st h => fk_w_iinc 5 7 (1) [] [a0, a1, a2, a3, a4, .int x, a6] [a0, a1, a2, a3, a4, .int (x + nI 1), a6] dX12_bestRoad_79 rfl rfl rfl (by decide) rfl,
  fun d L st h => fk_r_goto dX12_bestRoad_82 (by decide),
  fun d a0 a1 a2 a4 a5 a6 x st h => fk_w_iloadn 3 [a0, a1, a2, .int x, a4, a5, a6] dX12_bestRoad_85 rfl,
  fun d L x h => fk_r_ret dX12_bestRoad_86 (Or.inl rfl)⟩
theorem hX12_bestRoad_8 : ∀ (d : Nat) (a0 a1 a2 a3 a4 a6 : Value) (x : Int32) (st : List Value) (h : fk_H), fk_ev d qX12_bestRoad 8 [a0, a1, a2, a3, a4, .int x, a6] st h = fk_ev d qX12_bestRoad 10 [a0, a1, a2, a3, a4, .int x, a6] (.int x :: st) h := fun d a0 a1 a2 a3 a4 a6 x st h => fk_w_iload 5 [a0, a1, a2, a3, a4, .int x, a6] dX12_bestRoad_8 rfl
theorem dX12_sets_0 : decode cX12_sets 0 = .ok (.aload_n 0, 1) := by decide +kernel
theorem dX12_sets_1 : decode cX12_sets 1 = .ok (.getfield 7, 3) := by decide +kernel
theorem dX12_sets_4 : decode cX12_sets 4 = .ok (.sipush 320, 3) := by decide +kernel
theorem dX12_sets_7 : decode cX12_sets 7 = .ok (.iload_n 1, 1) := by decide +kernel
theorem dX12_sets_8 : decode cX12_sets 8 = .ok (.iadd, 1) := by decide +kernel
theorem dX12_sets_9 : decode cX12_sets 9 = .ok (.bipush (-2), 2) := by decide +kernel
theorem dX12_sets_11 : decode cX12_sets 11 = .ok (.iastore, 1) := by decide +kernel
theorem dX12_sets_12 : decode cX12_sets 12 = .ok (.aload_n 0, 1) := by decide +kernel
theorem dX12_sets_13 : decode cX12_sets 13 = .ok (.getfield 7, 3) := by decide +kernel
theorem dX12_sets_16 : decode cX12_sets 16 = .ok (.sipush 384, 3) := by decide +kernel
theorem dX12_sets_19 : decode cX12_sets 19 = .ok (.iload_n 1, 1) := by decide +kernel
theorem dX12_sets_20 : decode cX12_sets 20 = .ok (.iadd, 1) := by decide +kernel
theorem dX12_sets_21 : decode cX12_sets 21 = .ok (.iload_n 2, 1) := by decide +kernel
theorem dX12_sets_22 : decode cX12_sets 22 = .ok (.iastore, 1) := by decide +kernel
theorem dX12_sets_23 : decode cX12_sets 23 = .ok (.aload_n 0, 1) := by decide +kernel
theorem dX12_sets_24 : decode cX12_sets 24 = .ok (.getfield 7, 3) := by decide +kernel
theorem dX12_sets_27 : decode cX12_sets 27 = .ok (.sipush 448, 3) := by decide +kernel
theorem dX12_sets_30 : decode cX12_sets 30 = .ok (.iload_n 1, 1) := by decide +kernel
theorem dX12_sets_31 : decode cX12_sets 31 = .ok (.iadd, 1) := by decide +kernel
theorem dX12_sets_32 : decode cX12_sets 32 = .ok (.aload_n 0, 1) := by decide +kernel
theorem dX12_sets_33 : decode cX12_sets 33 = .ok (.getfield 25, 3) := by decide +kernel
theorem dX12_sets_36 : decode cX12_sets 36 = .ok (.iload_n 2, 1) := by decide +kernel
theorem dX12_sets_37 : decode cX12_sets 37 = .ok (.iaload, 1) := by decide +kernel
theorem dX12_sets_38 : decode cX12_sets 38 = .ok (.iastore, 1) := by decide +kernel
theorem dX12_sets_39 : decode cX12_sets 39 = .ok (.return_, 1) := by decide +kernel
theorem rX12_sets : (∀ (d : Nat) (a1 a2 : Value) (x : Nat) (st : List Value) (h : fk_H), fk_ev d qX12_sets 0 [.ref x, a1, a2] st h = fk_ev d qX12_sets 1 [.ref x, a1, a2] (.ref x :: st) h) ∧
  (∀ (d : Nat) (L st : List Value) (N : Nat) (y : Nat → Nat → Int32) (l : Nat → Nat → Int64), fk_ev d qX12_sets 1 L (.ref 246 :: st) (fk_E N y l) = fk_ev d qX12_sets 4 L (.ref 247 :: st) (fk_E N y l)) ∧
  (∀ (d : Nat) (L st : List Value) (h : fk_H), fk_ev d qX12_sets 4 L st h = fk_ev d qX12_sets 7 L (.int (nI 320) :: st) h) ∧
  (∀ (d : Nat) (a0 a2 : Value) (x : Int32) (st : List Value) (h : fk_H), fk_ev d qX12_sets 7 [a0, .int x, a2] st h = fk_ev d qX12_sets 8 [a0, .int x, a2] (.int x :: st) h) ∧
  (∀ (d : Nat) (L : List Value) (x y : Int32) (st : List Value) (h : fk_H), fk_ev d qX12_sets 8 L (.int y :: .int x :: st) h = fk_ev d qX12_sets 9 L (.int (x + y) :: st) h) ∧
  (∀ (d : Nat) (L st : List Value) (h : fk_H), fk_ev d qX12_sets 9 L st h = fk_ev d qX12_sets 11 L (.int ((-2 : Int32)) :: st) h) ∧
  (∀ (d : Nat) (L st : List Value) (N : Nat) (y : Nat → Nat → Int32) (l : Nat → Nat → Int64) (i : Nat) (v : Int32), i < 3912 → fk_ev d qX12_sets 11 L (.int v :: .int (nI i) :: .ref 247 :: st) (fk_E N y l) = fk_ev d qX12_sets 12 L st (fk_E N (fk_u y 247 i v) l)) ∧
  (∀ (d : Nat) (a1 a2 : Value) (x : Nat) (st : List Value) (h : fk_H), fk_ev d qX12_sets 12 [.ref x, a1, a2] st h = fk_ev d qX12_sets 13 [.ref x, a1, a2] (.ref x :: st) h) ∧
  (∀ (d : Nat) (L st : List Value) (N : Nat) (y : Nat → Nat → Int32) (l : Nat → Nat → Int64), fk_ev d qX12_sets 13 L (.ref 246 :: st) (fk_E N y l) = fk_ev d qX12_sets 16 L (.ref 247 :: st) (fk_E N y l)) ∧
  (∀ (d : Nat) (L st : List Value) (h : fk_H), fk_ev d qX12_sets 16 L st h = fk_ev d qX12_sets 19 L (.int (nI 384) :: st) h) ∧
  (∀ (d : Nat) (a0 a2 : Value) (x : Int32) (st : List Value) (h : fk_H), fk_ev d qX12_sets 19 [a0, .int x, a2] st h = fk_ev d qX12_sets 20 [a0, .int x, a2] (.int x :: st) h) ∧
  (∀ (d : Nat) (L : List Value) (x y : Int32) (st : List Value) (h : fk_H), fk_ev d qX12_sets 20 L (.int y :: .int x :: st) h = fk_ev d qX12_sets 21 L (.int (x + y) :: st) h) ∧
  (∀ (d : Nat) (a0 a1 : Value) (x : Int32) (st : List Value) (h : fk_H), fk_ev d qX12_sets 21 [a0, a1, .int x] st h = fk_ev d qX12_sets 22 [a0, a1, .int x] (.int x :: st) h) ∧
  (∀ (d : Nat) (L st : List Value) (N : Nat) (y : Nat → Nat → Int32) (l : Nat → Nat → Int64) (i : Nat) (v : Int32), i < 3912 → fk_ev d qX12_sets 22 L (.int v :: .int (nI i) :: .ref 247 :: st) (fk_E N y l) = fk_ev d qX12_sets 23 L st (fk_E N (fk_u y 247 i v) l)) ∧
  (∀ (d : Nat) (a1 a2 : Value) (x : Nat) (st : List Value) (h : fk_H), fk_ev d qX12_sets 23 [.ref x, a1, a2] st h = fk_ev d qX12_sets 24 [.ref x, a1, a2] (.ref x :: st) h) ∧
  (∀ (d : Nat) (L st : List Value) (N : Nat) (y : Nat → Nat → Int32) (l : Nat → Nat → Int64), fk_ev d qX12_sets 24 L (.ref 246 :: st) (fk_E N y l) = fk_ev d qX12_sets 27 L (.ref 247 :: st) (fk_E N y l)) ∧
  (∀ (d : Nat) (L st : List Value) (h : fk_H), fk_ev d qX12_sets 27 L st h = fk_ev d qX12_sets 30 L (.int (nI 448) :: st) h) ∧
  (∀ (d : Nat) (a0 a2 : Value) (x : Int32) (st : List Value) (h : fk_H), fk_ev d qX12_sets 30 [a0, .int x, a2] st h = fk_ev d qX12_sets 31 [a0, .int x, a2] (.int x :: st) h) ∧
  (∀ (d : Nat) (L : List Value) (x y : Int32) (st : List Value) (h : fk_H), fk_ev d qX12_sets 31 L (.int y :: .int x :: st) h = fk_ev d qX12_sets 32 L (.int (x + y) :: st) h) ∧
  (∀ (d : Nat) (a1 a2 : Value) (x : Nat) (st : List Value) (h : fk_H), fk_ev d qX12_sets 32 [.ref x, a1, a2] st h = fk_ev d qX12_sets 33 [.ref x, a1, a2] (.ref x :: st) h) ∧
  (∀ (d : Nat) (L st : List Value) (N : Nat) (y : Nat → Nat → Int32) (l : Nat → Nat → Int64), fk_ev d qX12_sets 33 L (.ref 246 :: st) (fk_E N y l) = fk_ev d qX12_sets 36 L (.ref 252 :: st) (fk_E N y l)) ∧
  (∀ (d : Nat) (a0 a1 : Value) (x : Int32) (st : List Value) (h : fk_H), fk_ev d qX12_sets 36 [a0, a1, .int x] st h = fk_ev d qX12_sets 37 [a0, a1, .int x] (.int x :: st) h) ∧
  (∀ (d : Nat) (L st : List Value) (N : Nat) (y : Nat → Nat → Int32) (l : Nat → Nat → Int64) (i : Nat), i < 32 → fk_ev d qX12_sets 37 L (.int (nI i) :: .ref 252 :: st) (fk_E N y l) = fk_ev d qX12_sets 38 L (.int (y 252 i) :: st) (fk_E N y l)) ∧
  (∀ (d : Nat) (L st : List Value) (N : Nat) (y : Nat → Nat → Int32) (l : Nat → Nat → Int64) (i : Nat) (v : Int32), i < 3912 → fk_ev d qX12_sets 38 L (.int v :: .int (nI i) :: .ref 247 :: st) (fk_E N y l) = fk_ev d qX12_sets 39 L st (fk_E N (fk_u y 247 i v) l)) ∧
  (∀ (d : Nat) (L : List Value) (h : fk_H), fk_ev d qX12_sets 39 L [] h = some (none, h)) := ⟨fun d a1 a2 x st h => fk_w_aloadn 0 [.ref x, a1, a2] dX12_sets_0 rfl,
  fun d L st N y l => fk_g_getC rfl lf_12_7 (by decide) rfl dX12_sets_1 fk_at_246,
  fun d L st h => fk_w_sipush dX12_sets_4 (by decide),
  fun d a0 a2 x st h => fk_w_iloadn 1 [a0, .int x, a2] dX12_sets_7 rfl,
  fun d L x y st h => fk_r_iadd dX12_sets_8,
  fun d L st h => fk_w_bipush dX12_sets_9 (by decide),
  fun d L st N y l i v hi => fk_g_iast fk_at_247 fk_ln_247 (by decide) dX12_sets_11 hi,
  fun d a1 a2 x st h => fk_w_aloadn 0 [.ref x, a1, a2] dX12_sets_12 rfl,
  fun d L st N y l => fk_g_getC rfl lf_12_7 (by decide) rfl dX12_sets_13 fk_at_246,
  fun d L st h => fk_w_sipush dX12_sets_16 (by decide),
  fun d a0 a2 x st h => fk_w_iloadn 1 [a0, .int x, a2] dX12_sets_19 rfl,
  fun d L x y st h => fk_r_iadd dX12_sets_20,
  fun d a0 a1 x st h => fk_w_iloadn 2 [a0, a1, .int x] dX12_sets_21 rfl,
  fun d L st N y l i v hi => fk_g_iast fk_at_247 fk_ln_247 (by decide) dX12_sets_22 hi,
  fun d a1 a2 x st h => fk_w_aloadn 0 [.ref x, a1, a2] dX12_sets_23 rfl,
  fun d L st N y l => fk_g_getC rfl lf_12_7 (by decide) rfl dX12_sets_24 fk_at_246,
  fun d L st h => fk_w_sipush dX12_sets_27 (by decide),
  fun d a0 a2 x st h => fk_w_iloadn 1 [a0, .int x, a2] dX12_sets_30 rfl,
  fun d L x y st h => fk_r_iadd dX12_sets_31,
  fun d a1 a2 x st h => fk_w_aloadn 0 [.ref x, a1, a2] dX12_sets_32 rfl,
  fun d L st N y l => fk_g_getC rfl lf_12_25 (by decide) rfl dX12_sets_33 fk_at_246,
  fun d a0 a1 x st h => fk_w_iloadn 2 [a0, a1, .int x] dX12_sets_36 rfl,
  fun d L st N y l i hi => fk_g_iald fk_at_252 fk_ln_252 (by decide) dX12_sets_37 hi,
  fun d L st N y l i v hi => fk_g_iast fk_at_247 fk_ln_247 (by decide) dX12_sets_38 hi,
  fun d L h => fk_r_vret dX12_sets_39 rfl⟩
theorem dX12_leaves_0 : decode cX12_leaves 0 = .ok (.aload_n 0, 1) := by decide +kernel
theorem dX12_leaves_1 : decode cX12_leaves 1 = .ok (.iload_n 1, 1) := by decide +kernel
theorem dX12_leaves_2 : decode cX12_leaves 2 = .ok (.iconst (-1), 1) := by decide +kernel
theorem dX12_leaves_3 : decode cX12_leaves 3 = .ok (.invokevirtual 295, 3) := by decide +kernel
theorem dX12_leaves_6 : decode cX12_leaves 6 = .ok (.istore_n 2, 1) := by decide +kernel
theorem dX12_leaves_7 : decode cX12_leaves 7 = .ok (.iload_n 2, 1) := by decide +kernel
theorem dX12_leaves_8 : decode cX12_leaves 8 = .ok (.iconst (-1), 1) := by decide +kernel
theorem dX12_leaves_9 : decode cX12_leaves 9 = .ok (.if_icmp .ne 4, 3) := by decide +kernel
theorem dX12_leaves_12 : decode cX12_leaves 12 = .ok (.return_, 1) := by decide +kernel
theorem dX12_leaves_13 : decode cX12_leaves 13 = .ok (.aload_n 0, 1) := by decide +kernel
theorem dX12_leaves_14 : decode cX12_leaves 14 = .ok (.iload_n 1, 1) := by decide +kernel
theorem dX12_leaves_15 : decode cX12_leaves 15 = .ok (.iload_n 2, 1) := by decide +kernel
theorem dX12_leaves_16 : decode cX12_leaves 16 = .ok (.invokevirtual 295, 3) := by decide +kernel
theorem dX12_leaves_19 : decode cX12_leaves 19 = .ok (.istore_n 3, 1) := by decide +kernel
theorem dX12_leaves_20 : decode cX12_leaves 20 = .ok (.iload_n 3, 1) := by decide +kernel
theorem dX12_leaves_21 : decode cX12_leaves 21 = .ok (.iconst (-1), 1) := by decide +kernel
theorem dX12_leaves_22 : decode cX12_leaves 22 = .ok (.if_icmp .eq 55, 3) := by decide +kernel
theorem dX12_leaves_25 : decode cX12_leaves 25 = .ok (.aload_n 0, 1) := by decide +kernel
theorem dX12_leaves_26 : decode cX12_leaves 26 = .ok (.iload_n 1, 1) := by decide +kernel
theorem dX12_leaves_27 : decode cX12_leaves 27 = .ok (.iload_n 2, 1) := by decide +kernel
theorem dX12_leaves_28 : decode cX12_leaves 28 = .ok (.invokevirtual 292, 3) := by decide +kernel
theorem dX12_leaves_31 : decode cX12_leaves 31 = .ok (.aload_n 0, 1) := by decide +kernel
theorem dX12_leaves_32 : decode cX12_leaves 32 = .ok (.iload_n 1, 1) := by decide +kernel
theorem dX12_leaves_33 : decode cX12_leaves 33 = .ok (.iload_n 3, 1) := by decide +kernel
theorem dX12_leaves_34 : decode cX12_leaves 34 = .ok (.invokevirtual 292, 3) := by decide +kernel
theorem dX12_leaves_37 : decode cX12_leaves 37 = .ok (.isub, 1) := by decide +kernel
theorem dX12_leaves_38 : decode cX12_leaves 38 = .ok (.aload_n 0, 1) := by decide +kernel
theorem dX12_leaves_39 : decode cX12_leaves 39 = .ok (.iload_n 1, 1) := by decide +kernel
theorem dX12_leaves_40 : decode cX12_leaves 40 = .ok (.invokevirtual 298, 3) := by decide +kernel
theorem dX12_leaves_43 : decode cX12_leaves 43 = .ok (.if_icmp .gt 34, 3) := by decide +kernel
theorem dX12_leaves_46 : decode cX12_leaves 46 = .ok (.aload_n 0, 1) := by decide +kernel
theorem dX12_leaves_47 : decode cX12_leaves 47 = .ok (.getfield 7, 3) := by decide +kernel
theorem dX12_leaves_50 : decode cX12_leaves 50 = .ok (.sipush 833, 3) := by decide +kernel
theorem dX12_leaves_53 : decode cX12_leaves 53 = .ok (.iaload, 1) := by decide +kernel
theorem dX12_leaves_54 : decode cX12_leaves 54 = .ok (.bipush 64, 2) := by decide +kernel
theorem dX12_leaves_56 : decode cX12_leaves 56 = .ok (.if_icmp .ge 21, 3) := by decide +kernel
theorem dX12_leaves_59 : decode cX12_leaves 59 = .ok (.aload_n 0, 1) := by decide +kernel
theorem dX12_leaves_60 : decode cX12_leaves 60 = .ok (.getfield 7, 3) := by decide +kernel
theorem dX12_leaves_63 : decode cX12_leaves 63 = .ok (.sipush 256, 3) := by decide +kernel
theorem dX12_leaves_66 : decode cX12_leaves 66 = .ok (.iload_n 1, 1) := by decide +kernel
theorem dX12_leaves_67 : decode cX12_leaves 67 = .ok (.iadd, 1) := by decide +kernel
theorem dX12_leaves_68 : decode cX12_leaves 68 = .ok (.iaload, 1) := by decide +kernel
theorem dX12_leaves_69 : decode cX12_leaves 69 = .ok (.iconst 1, 1) := by decide +kernel
theorem dX12_leaves_70 : decode cX12_leaves 70 = .ok (.if_icmp .le 7, 3) := by decide +kernel
theorem dX12_leaves_73 : decode cX12_leaves 73 = .ok (.iconst 1, 1) := by decide +kernel
theorem dX12_leaves_74 : decode cX12_leaves 74 = .ok (.goto 4, 3) := by decide +kernel
theorem dX12_leaves_77 : decode cX12_leaves 77 = .ok (.iconst 0, 1) := by decide +kernel
theorem dX12_leaves_78 : decode cX12_leaves 78 = .ok (.istore 4, 2) := by decide +kernel
theorem dX12_leaves_80 : decode cX12_leaves 80 = .ok (.iload 4, 2) := by decide +kernel
theorem dX12_leaves_82 : decode cX12_leaves 82 = .ok (.ifCond .eq 139, 3) := by decide +kernel
theorem dX12_leaves_85 : decode cX12_leaves 85 = .ok (.aload_n 0, 1) := by decide +kernel
theorem dX12_leaves_86 : decode cX12_leaves 86 = .ok (.getfield 7, 3) := by decide +kernel
theorem dX12_leaves_89 : decode cX12_leaves 89 = .ok (.sipush 256, 3) := by decide +kernel
theorem dX12_leaves_92 : decode cX12_leaves 92 = .ok (.iload_n 1, 1) := by decide +kernel
theorem dX12_leaves_93 : decode cX12_leaves 93 = .ok (.iadd, 1) := by decide +kernel
theorem dX12_leaves_94 : decode cX12_leaves 94 = .ok (.iaload, 1) := by decide +kernel
theorem dX12_leaves_95 : decode cX12_leaves 95 = .ok (.istore 5, 2) := by decide +kernel
theorem dX12_leaves_97 : decode cX12_leaves 97 = .ok (.aload_n 0, 1) := by decide +kernel
theorem dX12_leaves_98 : decode cX12_leaves 98 = .ok (.aload_n 0, 1) := by decide +kernel
theorem dX12_leaves_99 : decode cX12_leaves 99 = .ok (.getfield 7, 3) := by decide +kernel
theorem dX12_leaves_102 : decode cX12_leaves 102 = .ok (.iconst 0, 1) := by decide +kernel
theorem dX12_leaves_103 : decode cX12_leaves 103 = .ok (.iload_n 1, 1) := by decide +kernel
theorem dX12_leaves_104 : decode cX12_leaves 104 = .ok (.iadd, 1) := by decide +kernel
theorem dX12_leaves_105 : decode cX12_leaves 105 = .ok (.iaload, 1) := by decide +kernel
theorem dX12_leaves_106 : decode cX12_leaves 106 = .ok (.iload_n 1, 1) := by decide +kernel
theorem dX12_leaves_107 : decode cX12_leaves 107 = .ok (.iload 5, 2) := by decide +kernel
theorem dX12_leaves_109 : decode cX12_leaves 109 = .ok (.iconst 2, 1) := by decide +kernel
theorem dX12_leaves_110 : decode cX12_leaves 110 = .ok (.idiv, 1) := by decide +kernel
theorem dX12_leaves_111 : decode cX12_leaves 111 = .ok (.invokevirtual 139, 3) := by decide +kernel
theorem dX12_leaves_114 : decode cX12_leaves 114 = .ok (.istore 6, 2) := by decide +kernel
theorem dX12_leaves_116 : decode cX12_leaves 116 = .ok (.aload_n 0, 1) := by decide +kernel
theorem dX12_leaves_117 : decode cX12_leaves 117 = .ok (.getfield 7, 3) := by decide +kernel
theorem dX12_leaves_120 : decode cX12_leaves 120 = .ok (.sipush 256, 3) := by decide +kernel
theorem dX12_leaves_123 : decode cX12_leaves 123 = .ok (.iload_n 1, 1) := by decide +kernel
theorem dX12_leaves_124 : decode cX12_leaves 124 = .ok (.iadd, 1) := by decide +kernel
theorem dX12_leaves_125 : decode cX12_leaves 125 = .ok (.iload 5, 2) := by decide +kernel
theorem dX12_leaves_127 : decode cX12_leaves 127 = .ok (.iload 5, 2) := by decide +kernel
theorem dX12_leaves_129 : decode cX12_leaves 129 = .ok (.iconst 2, 1) := by decide +kernel
theorem dX12_leaves_130 : decode cX12_leaves 130 = .ok (.idiv, 1) := by decide +kernel
theorem dX12_leaves_131 : decode cX12_leaves 131 = .ok (.isub, 1) := by decide +kernel
theorem dX12_leaves_132 : decode cX12_leaves 132 = .ok (.iastore, 1) := by decide +kernel
theorem dX12_leaves_133 : decode cX12_leaves 133 = .ok (.aload_n 0, 1) := by decide +kernel
theorem dX12_leaves_134 : decode cX12_leaves 134 = .ok (.getfield 7, 3) := by decide +kernel
theorem dX12_leaves_137 : decode cX12_leaves 137 = .ok (.sipush 704, 3) := by decide +kernel
theorem dX12_leaves_140 : decode cX12_leaves 140 = .ok (.iload 6, 2) := by decide +kernel
theorem dX12_leaves_142 : decode cX12_leaves 142 = .ok (.iadd, 1) := by decide +kernel
theorem dX12_leaves_143 : decode cX12_leaves 143 = .ok (.aload_n 0, 1) := by decide +kernel
theorem dX12_leaves_144 : decode cX12_leaves 144 = .ok (.getfield 7, 3) := by decide +kernel
theorem dX12_leaves_147 : decode cX12_leaves 147 = .ok (.sipush 704, 3) := by decide +kernel
theorem dX12_leaves_150 : decode cX12_leaves 150 = .ok (.iload_n 1, 1) := by decide +kernel
theorem dX12_leaves_151 : decode cX12_leaves 151 = .ok (.iadd, 1) := by decide +kernel
theorem dX12_leaves_152 : decode cX12_leaves 152 = .ok (.iaload, 1) := by decide +kernel
theorem dX12_leaves_153 : decode cX12_leaves 153 = .ok (.iastore, 1) := by decide +kernel
theorem dX12_leaves_154 : decode cX12_leaves 154 = .ok (.aload_n 0, 1) := by decide +kernel
theorem dX12_leaves_155 : decode cX12_leaves 155 = .ok (.getfield 7, 3) := by decide +kernel
theorem dX12_leaves_158 : decode cX12_leaves 158 = .ok (.sipush 768, 3) := by decide +kernel
theorem dX12_leaves_161 : decode cX12_leaves 161 = .ok (.iload 6, 2) := by decide +kernel
theorem dX12_leaves_163 : decode cX12_leaves 163 = .ok (.iadd, 1) := by decide +kernel
theorem dX12_leaves_164 : decode cX12_leaves 164 = .ok (.aload_n 0, 1) := by decide +kernel
theorem dX12_leaves_165 : decode cX12_leaves 165 = .ok (.getfield 7, 3) := by decide +kernel
theorem dX12_leaves_168 : decode cX12_leaves 168 = .ok (.sipush 768, 3) := by decide +kernel
theorem dX12_leaves_171 : decode cX12_leaves 171 = .ok (.iload_n 1, 1) := by decide +kernel
theorem dX12_leaves_172 : decode cX12_leaves 172 = .ok (.iadd, 1) := by decide +kernel
theorem dX12_leaves_173 : decode cX12_leaves 173 = .ok (.iaload, 1) := by decide +kernel
theorem dX12_leaves_174 : decode cX12_leaves 174 = .ok (.iastore, 1) := by decide +kernel
theorem dX12_leaves_175 : decode cX12_leaves 175 = .ok (.aload_n 0, 1) := by decide +kernel
theorem dX12_leaves_176 : decode cX12_leaves 176 = .ok (.getfield 7, 3) := by decide +kernel
theorem dX12_leaves_179 : decode cX12_leaves 179 = .ok (.sipush 576, 3) := by decide +kernel
theorem dX12_leaves_182 : decode cX12_leaves 182 = .ok (.iload 6, 2) := by decide +kernel
theorem dX12_leaves_184 : decode cX12_leaves 184 = .ok (.iadd, 1) := by decide +kernel
theorem dX12_leaves_185 : decode cX12_leaves 185 = .ok (.aload_n 0, 1) := by decide +kernel
theorem dX12_leaves_186 : decode cX12_leaves 186 = .ok (.getfield 7, 3) := by decide +kernel
theorem dX12_leaves_189 : decode cX12_leaves 189 = .ok (.sipush 576, 3) := by decide +kernel
theorem dX12_leaves_192 : decode cX12_leaves 192 = .ok (.iload_n 1, 1) := by decide +kernel
theorem dX12_leaves_193 : decode cX12_leaves 193 = .ok (.iadd, 1) := by decide +kernel
theorem dX12_leaves_194 : decode cX12_leaves 194 = .ok (.iaload, 1) := by decide +kernel
theorem dX12_leaves_195 : decode cX12_leaves 195 = .ok (.iastore, 1) := by decide +kernel
theorem dX12_leaves_196 : decode cX12_leaves 196 = .ok (.aload_n 0, 1) := by decide +kernel
theorem dX12_leaves_197 : decode cX12_leaves 197 = .ok (.getfield 7, 3) := by decide +kernel
theorem dX12_leaves_200 : decode cX12_leaves 200 = .ok (.sipush 838, 3) := by decide +kernel
theorem dX12_leaves_203 : decode cX12_leaves 203 = .ok (.aload_n 0, 1) := by decide +kernel
theorem dX12_leaves_204 : decode cX12_leaves 204 = .ok (.getfield 7, 3) := by decide +kernel
theorem dX12_leaves_207 : decode cX12_leaves 207 = .ok (.sipush 838, 3) := by decide +kernel
theorem dX12_leaves_210 : decode cX12_leaves 210 = .ok (.iaload, 1) := by decide +kernel
theorem dX12_leaves_211 : decode cX12_leaves 211 = .ok (.iconst 1, 1) := by decide +kernel
theorem dX12_leaves_212 : decode cX12_leaves 212 = .ok (.iadd, 1) := by decide +kernel
theorem dX12_leaves_213 : decode cX12_leaves 213 = .ok (.iastore, 1) := by decide +kernel
theorem dX12_leaves_214 : decode cX12_leaves 214 = .ok (.aload_n 0, 1) := by decide +kernel
theorem dX12_leaves_215 : decode cX12_leaves 215 = .ok (.iload 6, 2) := by decide +kernel
theorem dX12_leaves_217 : decode cX12_leaves 217 = .ok (.iload_n 3, 1) := by decide +kernel
theorem dX12_leaves_218 : decode cX12_leaves 218 = .ok (.invokevirtual 301, 3) := by decide +kernel
theorem dX12_leaves_221 : decode cX12_leaves 221 = .ok (.aload_n 0, 1) := by decide +kernel
theorem dX12_leaves_222 : decode cX12_leaves 222 = .ok (.iload_n 1, 1) := by decide +kernel
theorem dX12_leaves_223 : decode cX12_leaves 223 = .ok (.iload_n 2, 1) := by decide +kernel
theorem dX12_leaves_224 : decode cX12_leaves 224 = .ok (.invokevirtual 301, 3) := by decide +kernel
theorem dX12_leaves_227 : decode cX12_leaves 227 = .ok (.return_, 1) := by decide +kernel
theorem rX12_leaves : (∀ (d : Nat) (a1 a2 a3 a4 a5 a6 : Value) (x : Nat) (st : List Value) (h : fk_H), fk_ev d qX12_leaves 0 [.ref x, a1, a2, a3, a4, a5, a6] st h = fk_ev d qX12_leaves 1 [.ref x, a1, a2, a3, a4, a5, a6] (.ref x :: st) h) ∧
  (∀ (d : Nat) (a0 a2 a3 a4 a5 a6 : Value) (x : Int32) (st : List Value) (h : fk_H), fk_ev d qX12_leaves 1 [a0, .int x, a2, a3, a4, a5, a6] st h = fk_ev d qX12_leaves 2 [a0, .int x, a2, a3, a4, a5, a6] (.int x :: st) h) ∧
  (∀ (d : Nat) (L st : List Value) (h : fk_H), fk_ev d qX12_leaves 2 L st h = fk_ev d qX12_leaves 3 L (.int ((-1 : Int32)) :: st) h) ∧
  (∀ (d : Nat) (L : List Value) (x0 : Int32) (x1 : Int32)  (N : Nat) (y : Nat → Nat → Int32) (l : Nat → Nat → Int64), fk_ev (d + 1) qX12_leaves 3 L (.int x1 :: .int x0 :: .ref 246 :: []) (fk_E N y l) = (fk_ev d qX12_bestRoad 0 [.ref 246, .int x0, .int x1, .null, .null, .null, .null] [] (fk_E N y l)).bind fun o => fk_ev (d + 1) qX12_leaves 6 L (o.1.toList ++ []) o.2) ∧
  (∀ (d : Nat) (a0 a1 a2 a3 a4 a5 a6 : Value) (x : Int32) (st : List Value) (h : fk_H), fk_ev d qX12_leaves 6 [a0, a1, a2, a3, a4, a5, a6] (.int x :: st) h = fk_ev d qX12_leaves 7 [a0, a1, .int x, a3, a4, a5, a6] st h) ∧
  (∀ (d : Nat) (a0 a1 a3 a4 a5 a6 : Value) (x : Int32) (st : List Value) (h : fk_H), fk_ev d qX12_leaves 7 [a0, a1, .int x, a3, a4, a5, a6] st h = fk_ev d qX12_leaves 8 [a0, a1, .int x, a3, a4, a5, a6] (.int x :: st) h) ∧
  (∀ (d : Nat) (L st : List Value) (h : fk_H), fk_ev d qX12_leaves 8 L st h = fk_ev d qX12_leaves 9 L (.int ((-1 : Int32)) :: st) h) ∧
  (∀ (d : Nat) (L : List Value) (x y : Int32) (st : List Value) (h : fk_H), fk_ev d qX12_leaves 9 L (.int y :: .int x :: st) h = if ¬ x = y then fk_ev d qX12_leaves 13 L st h else fk_ev d qX12_leaves 12 L st h) ∧
  (∀ (d : Nat) (L : List Value) (h : fk_H), fk_ev d qX12_leaves 12 L [] h = some (none, h)) ∧
  (∀ (d : Nat) (a1 a2 a3 a4 a5 a6 : Value) (x : Nat) (st : List Value) (h : fk_H), fk_ev d qX12_leaves 13 [.ref x, a1, a2, a3, a4, a5, a6] st h = fk_ev d qX12_leaves 14 [.ref x, a1, a2, a3, a4, a5, a6] (.ref x :: st) h) ∧
  (∀ (d : Nat) (a0 a2 a3 a4 a5 a6 : Value) (x : Int32) (st : List Value) (h : fk_H), fk_ev d qX12_leaves 14 [a0, .int x, a2, a3, a4, a5, a6] st h = fk_ev d qX12_leaves 15 [a0, .int x, a2, a3, a4, a5, a6] (.int x :: st) h) ∧
  (∀ (d : Nat) (a0 a1 a3 a4 a5 a6 : Value) (x : Int32) (st : List Value) (h : fk_H), fk_ev d qX12_leaves 15 [a0, a1, .int x, a3, a4, a5, a6] st h = fk_ev d qX12_leaves 16 [a0, a1, .int x, a3, a4, a5, a6] (.int x :: st) h) ∧
  (∀ (d : Nat) (L : List Value) (x0 : Int32) (x1 : Int32)  (N : Nat) (y : Nat → Nat → Int32) (l : Nat → Nat → Int64), fk_ev (d + 1) qX12_leaves 16 L (.int x1 :: .int x0 :: .ref 246 :: []) (fk_E N y l) = (fk_ev d qX12_bestRoad 0 [.ref 246, .int x0, .int x1, .null, .null, .null, .null] [] (fk_E N y l)).bind fun o => fk_ev (d + 1) qX12_leaves 19 L (o.1.toList ++ []) o.2) ∧
  (∀ (d : Nat) (a0 a1 a2 a3 a4 a5 a6 : Value) (x : Int32) (st : List Value) (h : fk_H), fk_ev d qX12_leaves 19 [a0, a1, a2, a3, a4, a5, a6] (.int x :: st) h = fk_ev d qX12_leaves 20 [a0, a1, a2, .int x, a4, a5, a6] st h) ∧
  (∀ (d : Nat) (a0 a1 a2 a4 a5 a6 : Value) (x : Int32) (st : List Value) (h : fk_H), fk_ev d qX12_leaves 20 [a0, a1, a2, .int x, a4, a5, a6] st h = fk_ev d qX12_leaves 21 [a0, a1, a2, .int x, a4, a5, a6] (.int x :: st) h) ∧
  (∀ (d : Nat) (L st : List Value) (h : fk_H), fk_ev d qX12_leaves 21 L st h = fk_ev d qX12_leaves 22 L (.int ((-1 : Int32)) :: st) h) ∧
  (∀ (d : Nat) (L : List Value) (x y : Int32) (st : List Value) (h : fk_H), fk_ev d qX12_leaves 22 L (.int y :: .int x :: st) h = if x = y then fk_ev d qX12_leaves 77 L st h else fk_ev d qX12_leaves 25 L st h) ∧
  (∀ (d : Nat) (a1 a2 a3 a4 a5 a6 : Value) (x : Nat) (st : List Value) (h : fk_H), fk_ev d qX12_leaves 25 [.ref x, a1, a2, a3, a4, a5, a6] st h = fk_ev d qX12_leaves 26 [.ref x, a1, a2, a3, a4, a5, a6] (.ref x :: st) h) ∧
  (∀ (d : Nat) (a0 a2 a3 a4 a5 a6 : Value) (x : Int32) (st : List Value) (h : fk_H), fk_ev d qX12_leaves 26 [a0, .int x, a2, a3, a4, a5, a6] st h = fk_ev d qX12_leaves 27 [a0, .int x, a2, a3, a4, a5, a6] (.int x :: st) h) ∧
  (∀ (d : Nat) (a0 a1 a3 a4 a5 a6 : Value) (x : Int32) (st : List Value) (h : fk_H), fk_ev d qX12_leaves 27 [a0, a1, .int x, a3, a4, a5, a6] st h = fk_ev d qX12_leaves 28 [a0, a1, .int x, a3, a4, a5, a6] (.int x :: st) h) ∧
  (∀ (d : Nat) (L : List Value) (x0 : Int32) (x1 : Int32)  (N : Nat) (y : Nat → Nat → Int32) (l : Nat → Nat → Int64), fk_ev (d + 1) qX12_leaves 28 L (.int x1 :: .int x0 :: .ref 246 :: []) (fk_E N y l) = (fk_ev d qX12_gladlyFor 0 [.ref 246, .int x0, .int x1] [] (fk_E N y l)).bind fun o => fk_ev (d + 1) qX12_leaves 31 L (o.1.toList ++ []) o.2) ∧
  (∀ (d : Nat) (a1 a2 a3 a4 a5 a6 : Value) (x : Nat) (st : List Value) (h : fk_H), fk_ev d qX12_leaves 31 [.ref x, a1, a2, a3, a4, a5, a6] st h = fk_ev d qX12_leaves 32 [.ref x, a1, a2, a3, a4, a5, a6] (.ref x :: st) h) ∧
  (∀ (d : Nat) (a0 a2 a3 a4 a5 a6 : Value) (x : Int32) (st : List Value) (h : fk_H), fk_ev d qX12_leaves 32 [a0, .int x, a2, a3, a4, a5, a6] st h = fk_ev d qX12_leaves 33 [a0, .int x, a2, a3, a4, a5, a6] (.int x :: st) h) ∧
  (∀ (d : Nat) (a0 a1 a2 a4 a5 a6 : Value) (x : Int32) (st : List Value) (h : fk_H), fk_ev d qX12_leaves 33 [a0, a1, a2, .int x, a4, a5, a6] st h = fk_ev d qX12_leaves 34 [a0, a1, a2, .int x, a4, a5, a6] (.int x :: st) h) ∧
  (∀ (d : Nat) (L : List Value) (x0 : Int32) (x1 : Int32) (w0 : Value) (N : Nat) (y : Nat → Nat → Int32) (l : Nat → Nat → Int64), fk_ev (d + 1) qX12_leaves 34 L (.int x1 :: .int x0 :: .ref 246 :: [w0]) (fk_E N y l) = (fk_ev d qX12_gladlyFor 0 [.ref 246, .int x0, .int x1] [] (fk_E N y l)).bind fun o => fk_ev (d + 1) qX12_leaves 37 L (o.1.toList ++ [w0]) o.2) ∧
  (∀ (d : Nat) (L : List Value) (x y : Int32) (st : List Value) (h : fk_H), fk_ev d qX12_leaves 37 L (.int y :: .int x :: st) h = fk_ev d qX12_leaves 38 L (.int (x - y) :: st) h) ∧
  (∀ (d : Nat) (a1 a2 a3 a4 a5 a6 : Value) (x : Nat) (st : List Value) (h : fk_H), fk_ev d qX12_leaves 38 [.ref x, a1, a2, a3, a4, a5, a6] st h = fk_ev d qX12_leaves 39 [.ref x, a1, a2, a3, a4, a5, a6] (.ref x :: st) h) ∧
  (∀ (d : Nat) (a0 a2 a3 a4 a5 a6 : Value) (x : Int32) (st : List Value) (h : fk_H), fk_ev d qX12_leaves 39 [a0, .int x, a2, a3, a4, a5, a6] st h = fk_ev d qX12_leaves 40 [a0, .int x, a2, a3, a4, a5, a6] (.int x :: st) h) ∧
  (∀ (d : Nat) (L : List Value) (x0 : Int32) (w0 : Value) (N : Nat) (y : Nat → Nat → Int32) (l : Nat → Nat → Int64), fk_ev (d + 1) qX12_leaves 40 L (.int x0 :: .ref 246 :: [w0]) (fk_E N y l) = (fk_ev d qX12_doubtOf 0 [.ref 246, .int x0] [] (fk_E N y l)).bind fun o => fk_ev (d + 1) qX12_leaves 43 L (o.1.toList ++ [w0]) o.2) ∧
  (∀ (d : Nat) (L : List Value) (x y : Int32) (st : List Value) (h : fk_H), fk_ev d qX12_leaves 43 L (.int y :: .int x :: st) h = if y < x then fk_ev d qX12_leaves 77 L st h else fk_ev d qX12_leaves 46 L st h) ∧
  (∀ (d : Nat) (a1 a2 a3 a4 a5 a6 : Value) (x : Nat) (st : List Value) (h : fk_H), fk_ev d qX12_leaves 46 [.ref x, a1, a2, a3, a4, a5, a6] st h = fk_ev d qX12_leaves 47 [.ref x, a1, a2, a3, a4, a5, a6] (.ref x :: st) h) ∧
  (∀ (d : Nat) (L st : List Value) (N : Nat) (y : Nat → Nat → Int32) (l : Nat → Nat → Int64), fk_ev d qX12_leaves 47 L (.ref 246 :: st) (fk_E N y l) = fk_ev d qX12_leaves 50 L (.ref 247 :: st) (fk_E N y l)) ∧
  (∀ (d : Nat) (L st : List Value) (h : fk_H), fk_ev d qX12_leaves 50 L st h = fk_ev d qX12_leaves 53 L (.int (nI 833) :: st) h) ∧
  (∀ (d : Nat) (L st : List Value) (N : Nat) (y : Nat → Nat → Int32) (l : Nat → Nat → Int64) (i : Nat), i < 3912 → fk_ev d qX12_leaves 53 L (.int (nI i) :: .ref 247 :: st) (fk_E N y l) = fk_ev d qX12_leaves 54 L (.int (y 247 i) :: st) (fk_E N y l)) ∧
  (∀ (d : Nat) (L st : List Value) (h : fk_H), fk_ev d qX12_leaves 54 L st h = fk_ev d qX12_leaves 56 L (.int (nI 64) :: st) h) ∧
  (∀ (d : Nat) (L : List Value) (x y : Int32) (st : List Value) (h : fk_H), fk_ev d qX12_leaves 56 L (.int y :: .int x :: st) h = if y ≤ x then fk_ev d qX12_leaves 77 L st h else fk_ev d qX12_leaves 59 L st h) ∧
  (∀ (d : Nat) (a1 a2 a3 a4 a5 a6 : Value) (x : Nat) (st : List Value) (h : fk_H), fk_ev d qX12_leaves 59 [.ref x, a1, a2, a3, a4, a5, a6] st h = fk_ev d qX12_leaves 60 [.ref x, a1, a2, a3, a4, a5, a6] (.ref x :: st) h) ∧
  (∀ (d : Nat) (L st : List Value) (N : Nat) (y : Nat → Nat → Int32) (l : Nat → Nat → Int64), fk_ev d qX12_leaves 60 L (.ref 246 :: st) (fk_E N y l) = fk_ev d qX12_leaves 63 L (.ref 247 :: st) (fk_E N y l)) ∧
  (∀ (d : Nat) (L st : List Value) (h : fk_H), fk_ev d qX12_leaves 63 L st h = fk_ev d qX12_leaves 66 L (.int (nI 256) :: st) h) ∧
  (∀ (d : Nat) (a0 a2 a3 a4 a5 a6 : Value) (x : Int32) (st : List Value) (h : fk_H), fk_ev d qX12_leaves 66 [a0, .int x, a2, a3, a4, a5, a6] st h = fk_ev d qX12_leaves 67 [a0, .int x, a2, a3, a4, a5, a6] (.int x :: st) h) ∧
  (∀ (d : Nat) (L : List Value) (x y : Int32) (st : List Value) (h : fk_H), fk_ev d qX12_leaves 67 L (.int y :: .int x :: st) h = fk_ev d qX12_leaves 68 L (.int (x + y) :: st) h) ∧
  (∀ (d : Nat) (L st : List Value) (N : Nat) (y : Nat → Nat → Int32) (l : Nat → Nat → Int64) (i : Nat), i < 3912 → fk_ev d qX12_leaves 68 L (.int (nI i) :: .ref 247 :: st) (fk_E N y l) = fk_ev d qX12_leaves 69 L (.int (y 247 i) :: st) (fk_E N y l)) ∧
  (∀ (d : Nat) (L st : List Value) (h : fk_H), fk_ev d qX12_leaves 69 L st h = fk_ev d qX12_leaves 70 L (.int (nI 1) :: st) h) ∧
  (∀ (d : Nat) (L : List Value) (x y : Int32) (st : List Value) (h : fk_H), fk_ev d qX12_leaves 70 L (.int y :: .int x :: st) h = if x ≤ y then fk_ev d qX12_leaves 77 L st h else fk_ev d qX12_leaves 73 L st h) ∧
  (∀ (d : Nat) (L st : List Value) (h : fk_H), fk_ev d qX12_leaves 73 L st h = fk_ev d qX12_leaves 74 L (.int (nI 1) :: st) h) ∧
  (∀ (d : Nat) (L st : List Value) (h : fk_H), fk_ev d qX12_leaves 74 L st h = fk_ev d qX12_leaves 78 L st h) ∧
  (∀ (d : Nat) (L st : List Value) (h : fk_H), fk_ev d qX12_leaves 77 L st h = fk_ev d qX12_leaves 78 L (.int (nI 0) :: st) h) ∧
  (∀ (d : Nat) (a0 a1 a2 a3 a4 a5 a6 : Value) (x : Int32) (st : List Value) (h : fk_H), fk_ev d qX12_leaves 78 [a0, a1, a2, a3, a4, a5, a6] (.int x :: st) h = fk_ev d qX12_leaves 80 [a0, a1, a2, a3, .int x, a5, a6] st h) ∧
  (∀ (d : Nat) (a0 a1 a2 a3 a5 a6 : Value) (x : Int32) (st : List Value) (h : fk_H), fk_ev d qX12_leaves 80 [a0, a1, a2, a3, .int x, a5, a6] st h = fk_ev d qX12_leaves 82 [a0, a1, a2, a3, .int x, a5, a6] (.int x :: st) h) ∧
  (∀ (d : Nat) (L : List Value) (x : Int32) (st : List Value) (h : fk_H), fk_ev d qX12_leaves 82 L (.int x :: st) h = if x = nI 0 then fk_ev d qX12_leaves 221 L st h else fk_ev d qX12_leaves 85 L st h) ∧
  (∀ (d : Nat) (a1 a2 a3 a4 a5 a6 : Value) (x : Nat) (st : List Value) (h : fk_H), fk_ev d qX12_leaves 85 [.ref x, a1, a2, a3, a4, a5, a6] st h = fk_ev d qX12_leaves 86 [.ref x, a1, a2, a3, a4, a5, a6] (.ref x :: st) h) ∧
  (∀ (d : Nat) (L st : List Value) (N : Nat) (y : Nat → Nat → Int32) (l : Nat → Nat → Int64), fk_ev d qX12_leaves 86 L (.ref 246 :: st) (fk_E N y l) = fk_ev d qX12_leaves 89 L (.ref 247 :: st) (fk_E N y l)) ∧
  (∀ (d : Nat) (L st : List Value) (h : fk_H), fk_ev d qX12_leaves 89 L st h = fk_ev d qX12_leaves 92 L (.int (nI 256) :: st) h) ∧
  (∀ (d : Nat) (a0 a2 a3 a4 a5 a6 : Value) (x : Int32) (st : List Value) (h : fk_H), fk_ev d qX12_leaves 92 [a0, .int x, a2, a3, a4, a5, a6] st h = fk_ev d qX12_leaves 93 [a0, .int x, a2, a3, a4, a5, a6] (.int x :: st) h) ∧
  (∀ (d : Nat) (L : List Value) (x y : Int32) (st : List Value) (h : fk_H), fk_ev d qX12_leaves 93 L (.int y :: .int x :: st) h = fk_ev d qX12_leaves 94 L (.int (x + y) :: st) h) ∧
  (∀ (d : Nat) (L st : List Value) (N : Nat) (y : Nat → Nat → Int32) (l : Nat → Nat → Int64) (i : Nat), i < 3912 → fk_ev d qX12_leaves 94 L (.int (nI i) :: .ref 247 :: st) (fk_E N y l) = fk_ev d qX12_leaves 95 L (.int (y 247 i) :: st) (fk_E N y l)) ∧
  (∀ (d : Nat) (a0 a1 a2 a3 a4 a5 a6 : Value) (x : Int32) (st : List Value) (h : fk_H), fk_ev d qX12_leaves 95 [a0, a1, a2, a3, a4, a5, a6] (.int x :: st) h = fk_ev d qX12_leaves 97 [a0, a1, a2, a3, a4, .int x, a6] st h) ∧
  (∀ (d : Nat) (a1 a2 a3 a4 a5 a6 : Value) (x : Nat) (st : List Value) (h : fk_H), fk_ev d qX12_leaves 97 [.ref x, a1, a2, a3, a4, a5, a6] st h = fk_ev d qX12_leaves 98 [.ref x, a1, a2, a3, a4, a5, a6] (.ref x :: st) h) ∧
  (∀ (d : Nat) (a1 a2 a3 a4 a5 a6 : Value) (x : Nat) (st : List Value) (h : fk_H), fk_ev d qX12_leaves 98 [.ref x, a1, a2, a3, a4, a5, a6] st h = fk_ev d qX12_leaves 99 [.ref x, a1, a2, a3, a4, a5, a6] (.ref x :: st) h) ∧
  (∀ (d : Nat) (L st : List Value) (N : Nat) (y : Nat → Nat → Int32) (l : Nat → Nat → Int64), fk_ev d qX12_leaves 99 L (.ref 246 :: st) (fk_E N y l) = fk_ev d qX12_leaves 102 L (.ref 247 :: st) (fk_E N y l)) ∧
  (∀ (d : Nat) (L st : List Value) (h : fk_H), fk_ev d qX12_leaves 102 L st h = fk_ev d qX12_leaves 103 L (.int (nI 0) :: st) h) ∧
  (∀ (d : Nat) (a0 a2 a3 a4 a5 a6 : Value) (x : Int32) (st : List Value) (h : fk_H), fk_ev d qX12_leaves 103 [a0, .int x, a2, a3, a4, a5, a6] st h = fk_ev d qX12_leaves 104 [a0, .int x, a2, a3, a4, a5, a6] (.int x :: st) h) ∧
  (∀ (d : Nat) (L : List Value) (x y : Int32) (st : List Value) (h : fk_H), fk_ev d qX12_leaves 104 L (.int y :: .int x :: st) h = fk_ev d qX12_leaves 105 L (.int (x + y) :: st) h) ∧
  (∀ (d : Nat) (L st : List Value) (N : Nat) (y : Nat → Nat → Int32) (l : Nat → Nat → Int64) (i : Nat), i < 3912 → fk_ev d qX12_leaves 105 L (.int (nI i) :: .ref 247 :: st) (fk_E N y l) = fk_ev d qX12_leaves 106 L (.int (y 247 i) :: st) (fk_E N y l)) ∧
  (∀ (d : Nat) (a0 a2 a3 a4 a5 a6 : Value) (x : Int32) (st : List Value) (h : fk_H), fk_ev d qX12_leaves 106 [a0, .int x, a2, a3, a4, a5, a6] st h = fk_ev d qX12_leaves 107 [a0, .int x, a2, a3, a4, a5, a6] (.int x :: st) h) ∧
  (∀ (d : Nat) (a0 a1 a2 a3 a4 a6 : Value) (x : Int32) (st : List Value) (h : fk_H), fk_ev d qX12_leaves 107 [a0, a1, a2, a3, a4, .int x, a6] st h = fk_ev d qX12_leaves 109 [a0, a1, a2, a3, a4, .int x, a6] (.int x :: st) h) ∧
  (∀ (d : Nat) (L st : List Value) (h : fk_H), fk_ev d qX12_leaves 109 L st h = fk_ev d qX12_leaves 110 L (.int (nI 2) :: st) h) ∧
  (∀ (d : Nat) (L : List Value) (x y : Int32) (st : List Value) (h : fk_H), fk_ev d qX12_leaves 110 L (.int y :: .int x :: st) h = if y = 0 then none else fk_ev d qX12_leaves 111 L (.int (x / y) :: st) h) ∧
  (∀ (d : Nat) (L : List Value) (x0 : Int32) (x1 : Int32) (x2 : Int32)  (N : Nat) (y : Nat → Nat → Int32) (l : Nat → Nat → Int64), fk_ev (d + 1) qX12_leaves 111 L (.int x2 :: .int x1 :: .int x0 :: .ref 246 :: []) (fk_E N y l) = (fk_ev d qX12_begin 0 [.ref 246, .int x0, .int x1, .int x2, .null] [] (fk_E N y l)).bind fun o => fk_ev (d + 1) qX12_leaves 114 L (o.1.toList ++ []) o.2) ∧
  (∀ (d : Nat) (a0 a1 a2 a3 a4 a5 a6 : Value) (x : Int32) (st : List Value) (h : fk_H), fk_ev d qX12_leaves 114 [a0, a1, a2, a3, a4, a5, a6] (.int x :: st) h = fk_ev d qX12_leaves 116 [a0, a1, a2, a3, a4, a5, .int x] st h) ∧
  (∀ (d : Nat) (a1 a2 a3 a4 a5 a6 : Value) (x : Nat) (st : List Value) (h : fk_H), fk_ev d qX12_leaves 116 [.ref x, a1, a2, a3, a4, a5, a6] st h = fk_ev d qX12_leaves 117 [.ref x, a1, a2, a3, a4, a5, a6] (.ref x :: st) h) ∧
  (∀ (d : Nat) (L st : List Value) (N : Nat) (y : Nat → Nat → Int32) (l : Nat → Nat → Int64), fk_ev d qX12_leaves 117 L (.ref 246 :: st) (fk_E N y l) = fk_ev d qX12_leaves 120 L (.ref 247 :: st) (fk_E N y l)) ∧
  (∀ (d : Nat) (L st : List Value) (h : fk_H), fk_ev d qX12_leaves 120 L st h = fk_ev d qX12_leaves 123 L (.int (nI 256) :: st) h) ∧
  (∀ (d : Nat) (a0 a2 a3 a4 a5 a6 : Value) (x : Int32) (st : List Value) (h : fk_H), fk_ev d qX12_leaves 123 [a0, .int x, a2, a3, a4, a5, a6] st h = fk_ev d qX12_leaves 124 [a0, .int x, a2, a3, a4, a5, a6] (.int x :: st) h) ∧
  (∀ (d : Nat) (L : List Value) (x y : Int32) (st : List Value) (h : fk_H), fk_ev d qX12_leaves 124 L (.int y :: .int x :: st) h = fk_ev d qX12_leaves 125 L (.int (x + y) :: st) h) ∧
  (∀ (d : Nat) (a0 a1 a2 a3 a4 a6 : Value) (x : Int32) (st : List Value) (h : fk_H), fk_ev d qX12_leaves 125 [a0, a1, a2, a3, a4, .int x, a6] st h = fk_ev d qX12_leaves 127 [a0, a1, a2, a3, a4, .int x, a6] (.int x :: st) h) ∧
  (∀ (d : Nat) (a0 a1 a2 a3 a4 a6 : Value) (x : Int32) (st : List Value) (h : fk_H), fk_ev d qX12_leaves 127 [a0, a1, a2, a3, a4, .int x, a6] st h = fk_ev d qX12_leaves 129 [a0, a1, a2, a3, a4, .int x, a6] (.int x :: st) h) ∧
  (∀ (d : Nat) (L st : List Value) (h : fk_H), fk_ev d qX12_leaves 129 L st h = fk_ev d qX12_leaves 130 L (.int (nI 2) :: st) h) ∧
  (∀ (d : Nat) (L : List Value) (x y : Int32) (st : List Value) (h : fk_H), fk_ev d qX12_leaves 130 L (.int y :: .int x :: st) h = if y = 0 then none else fk_ev d qX12_leaves 131 L (.int (x / y) :: st) h) ∧
  (∀ (d : Nat) (L : List Value) (x y : Int32) (st : List Value) (h : fk_H), fk_ev d qX12_leaves 131 L (.int y :: .int x :: st) h = fk_ev d qX12_leaves 132 L (.int (x - y) :: st) h) ∧
  (∀ (d : Nat) (L st : List Value) (N : Nat) (y : Nat → Nat → Int32) (l : Nat → Nat → Int64) (i : Nat) (v : Int32), i < 3912 → fk_ev d qX12_leaves 132 L (.int v :: .int (nI i) :: .ref 247 :: st) (fk_E N y l) = fk_ev d qX12_leaves 133 L st (fk_E N (fk_u y 247 i v) l)) ∧
  (∀ (d : Nat) (a1 a2 a3 a4 a5 a6 : Value) (x : Nat) (st : List Value) (h : fk_H), fk_ev d qX12_leaves 133 [.ref x, a1, a2, a3, a4, a5, a6] st h = fk_ev d qX12_leaves 134 [.ref x, a1, a2, a3, a4, a5, a6] (.ref x :: st) h) ∧
  (∀ (d : Nat) (L st : List Value) (N : Nat) (y : Nat → Nat → Int32) (l : Nat → Nat → Int64), fk_ev d qX12_leaves 134 L (.ref 246 :: st) (fk_E N y l) = fk_ev d qX12_leaves 137 L (.ref 247 :: st) (fk_E N y l)) ∧
  (∀ (d : Nat) (L st : List Value) (h : fk_H), fk_ev d qX12_leaves 137 L st h = fk_ev d qX12_leaves 140 L (.int (nI 704) :: st) h) ∧
  (∀ (d : Nat) (a0 a1 a2 a3 a4 a5 : Value) (x : Int32) (st : List Value) (h : fk_H), fk_ev d qX12_leaves 140 [a0, a1, a2, a3, a4, a5, .int x] st h = fk_ev d qX12_leaves 142 [a0, a1, a2, a3, a4, a5, .int x] (.int x :: st) h) ∧
  (∀ (d : Nat) (L : List Value) (x y : Int32) (st : List Value) (h : fk_H), fk_ev d qX12_leaves 142 L (.int y :: .int x :: st) h = fk_ev d qX12_leaves 143 L (.int (x + y) :: st) h) ∧
  (∀ (d : Nat) (a1 a2 a3 a4 a5 a6 : Value) (x : Nat) (st : List Value) (h : fk_H), fk_ev d qX12_leaves 143 [.ref x, a1, a2, a3, a4, a5, a6] st h = fk_ev d qX12_leaves 144 [.ref x, a1, a2, a3, a4, a5, a6] (.ref x :: st) h) ∧
  (∀ (d : Nat) (L st : List Value) (N : Nat) (y : Nat → Nat → Int32) (l : Nat → Nat → Int64), fk_ev d qX12_leaves 144 L (.ref 246 :: st) (fk_E N y l) = fk_ev d qX12_leaves 147 L (.ref 247 :: st) (fk_E N y l)) ∧
  (∀ (d : Nat) (L st : List Value) (h : fk_H), fk_ev d qX12_leaves 147 L st h = fk_ev d qX12_leaves 150 L (.int (nI 704) :: st) h) ∧
  (∀ (d : Nat) (a0 a2 a3 a4 a5 a6 : Value) (x : Int32) (st : List Value) (h : fk_H), fk_ev d qX12_leaves 150 [a0, .int x, a2, a3, a4, a5, a6] st h = fk_ev d qX12_leaves 151 [a0, .int x, a2, a3, a4, a5, a6] (.int x :: st) h) ∧
  (∀ (d : Nat) (L : List Value) (x y : Int32) (st : List Value) (h : fk_H), fk_ev d qX12_leaves 151 L (.int y :: .int x :: st) h = fk_ev d qX12_leaves 152 L (.int (x + y) :: st) h) ∧
  (∀ (d : Nat) (L st : List Value) (N : Nat) (y : Nat → Nat → Int32) (l : Nat → Nat → Int64) (i : Nat), i < 3912 → fk_ev d qX12_leaves 152 L (.int (nI i) :: .ref 247 :: st) (fk_E N y l) = fk_ev d qX12_leaves 153 L (.int (y 247 i) :: st) (fk_E N y l)) ∧
  (∀ (d : Nat) (L st : List Value) (N : Nat) (y : Nat → Nat → Int32) (l : Nat → Nat → Int64) (i : Nat) (v : Int32), i < 3912 → fk_ev d qX12_leaves 153 L (.int v :: .int (nI i) :: .ref 247 :: st) (fk_E N y l) = fk_ev d qX12_leaves 154 L st (fk_E N (fk_u y 247 i v) l)) ∧
  (∀ (d : Nat) (a1 a2 a3 a4 a5 a6 : Value) (x : Nat) (st : List Value) (h : fk_H), fk_ev d qX12_leaves 154 [.ref x, a1, a2, a3, a4, a5, a6] st h = fk_ev d qX12_leaves 155 [.ref x, a1, a2, a3, a4, a5, a6] (.ref x :: st) h) ∧
  (∀ (d : Nat) (L st : List Value) (N : Nat) (y : Nat → Nat → Int32) (l : Nat → Nat → Int64), fk_ev d qX12_leaves 155 L (.ref 246 :: st) (fk_E N y l) = fk_ev d qX12_leaves 158 L (.ref 247 :: st) (fk_E N y l)) ∧
  (∀ (d : Nat) (L st : List Value) (h : fk_H), fk_ev d qX12_leaves 158 L st h = fk_ev d qX12_leaves 161 L (.int (nI 768) :: st) h) ∧
  (∀ (d : Nat) (a0 a1 a2 a3 a4 a5 : Value) (x : Int32) (st : List Value) (h : fk_H), fk_ev d qX12_leaves 161 [a0, a1, a2, a3, a4, a5, .int x] st h = fk_ev d qX12_leaves 163 [a0, a1, a2, a3, a4, a5, .int x] (.int x :: st) h) ∧
  (∀ (d : Nat) (L : List Value) (x y : Int32) (st : List Value) (h : fk_H), fk_ev d qX12_leaves 163 L (.int y :: .int x :: st) h = fk_ev d qX12_leaves 164 L (.int (x + y) :: st) h) ∧
  (∀ (d : Nat) (a1 a2 a3 a4 a5 a6 : Value) (x : Nat) (st : List Value) (h : fk_H), fk_ev d qX12_leaves 164 [.ref x, a1, a2, a3, a4, a5, a6] st h = fk_ev d qX12_leaves 165 [.ref x, a1, a2, a3, a4, a5, a6] (.ref x :: st) h) ∧
  (∀ (d : Nat) (L st : List Value) (N : Nat) (y : Nat → Nat → Int32) (l : Nat → Nat → Int64), fk_ev d qX12_leaves 165 L (.ref 246 :: st) (fk_E N y l) = fk_ev d qX12_leaves 168 L (.ref 247 :: st) (fk_E N y l)) ∧
  (∀ (d : Nat) (L st : List Value) (h : fk_H), fk_ev d qX12_leaves 168 L st h = fk_ev d qX12_leaves 171 L (.int (nI 768) :: st) h) ∧
  (∀ (d : Nat) (a0 a2 a3 a4 a5 a6 : Value) (x : Int32) (st : List Value) (h : fk_H), fk_ev d qX12_leaves 171 [a0, .int x, a2, a3, a4, a5, a6] st h = fk_ev d qX12_leaves 172 [a0, .int x, a2, a3, a4, a5, a6] (.int x :: st) h) ∧
  (∀ (d : Nat) (L : List Value) (x y : Int32) (st : List Value) (h : fk_H), fk_ev d qX12_leaves 172 L (.int y :: .int x :: st) h = fk_ev d qX12_leaves 173 L (.int (x + y) :: st) h) ∧
  (∀ (d : Nat) (L st : List Value) (N : Nat) (y : Nat → Nat → Int32) (l : Nat → Nat → Int64) (i : Nat), i < 3912 → fk_ev d qX12_leaves 173 L (.int (nI i) :: .ref 247 :: st) (fk_E N y l) = fk_ev d qX12_leaves 174 L (.int (y 247 i) :: st) (fk_E N y l)) ∧
  (∀ (d : Nat) (L st : List Value) (N : Nat) (y : Nat → Nat → Int32) (l : Nat → Nat → Int64) (i : Nat) (v : Int32), i < 3912 → fk_ev d qX12_leaves 174 L (.int v :: .int (nI i) :: .ref 247 :: st) (fk_E N y l) = fk_ev d qX12_leaves 175 L st (fk_E N (fk_u y 247 i v) l)) ∧
  (∀ (d : Nat) (a1 a2 a3 a4 a5 a6 : Value) (x : Nat) (st : List Value) (h : fk_H), fk_ev d qX12_leaves 175 [.ref x, a1, a2, a3, a4, a5, a6] st h = fk_ev d qX12_leaves 176 [.ref x, a1, a2, a3, a4, a5, a6] (.ref x :: st) h) ∧
  (∀ (d : Nat) (L st : List Value) (N : Nat) (y : Nat → Nat → Int32) (l : Nat → Nat → Int64), fk_ev d qX12_leaves 176 L (.ref 246 :: st) (fk_E N y l) = fk_ev d qX12_leaves 179 L (.ref 247 :: st) (fk_E N y l)) ∧
  (∀ (d : Nat) (L st : List Value) (h : fk_H), fk_ev d qX12_leaves 179 L st h = fk_ev d qX12_leaves 182 L (.int (nI 576) :: st) h) ∧
  (∀ (d : Nat) (a0 a1 a2 a3 a4 a5 : Value) (x : Int32) (st : List Value) (h : fk_H), fk_ev d qX12_leaves 182 [a0, a1, a2, a3, a4, a5, .int x] st h = fk_ev d qX12_leaves 184 [a0, a1, a2, a3, a4, a5, .int x] (.int x :: st) h) ∧
  (∀ (d : Nat) (L : List Value) (x y : Int32) (st : List Value) (h : fk_H), fk_ev d qX12_leaves 184 L (.int y :: .int x :: st) h = fk_ev d qX12_leaves 185 L (.int (x + y) :: st) h) ∧
  (∀ (d : Nat) (a1 a2 a3 a4 a5 a6 : Value) (x : Nat) (st : List Value) (h : fk_H), fk_ev d qX12_leaves 185 [.ref x, a1, a2, a3, a4, a5, a6] st h = fk_ev d qX12_leaves 186 [.ref x, a1, a2, a3, a4, a5, a6] (.ref x :: st) h) ∧
  (∀ (d : Nat) (L st : List Value) (N : Nat) (y : Nat → Nat → Int32) (l : Nat → Nat → Int64), fk_ev d qX12_leaves 186 L (.ref 246 :: st) (fk_E N y l) = fk_ev d qX12_leaves 189 L (.ref 247 :: st) (fk_E N y l)) ∧
  (∀ (d : Nat) (L st : List Value) (h : fk_H), fk_ev d qX12_leaves 189 L st h = fk_ev d qX12_leaves 192 L (.int (nI 576) :: st) h) ∧
  (∀ (d : Nat) (a0 a2 a3 a4 a5 a6 : Value) (x : Int32) (st : List Value) (h : fk_H), fk_ev d qX12_leaves 192 [a0, .int x, a2, a3, a4, a5, a6] st h = fk_ev d qX12_leaves 193 [a0, .int x, a2, a3, a4, a5, a6] (.int x :: st) h) ∧
  (∀ (d : Nat) (L : List Value) (x y : Int32) (st : List Value) (h : fk_H), fk_ev d qX12_leaves 193 L (.int y :: .int x :: st) h = fk_ev d qX12_leaves 194 L (.int (x + y) :: st) h) ∧
  (∀ (d : Nat) (L st : List Value) (N : Nat) (y : Nat → Nat → Int32) (l : Nat → Nat → Int64) (i : Nat), i < 3912 → fk_ev d qX12_leaves 194 L (.int (nI i) :: .ref 247 :: st) (fk_E N y l) = fk_ev d qX12_leaves 195 L (.int (y 247 i) :: st) (fk_E N y l)) ∧
  (∀ (d : Nat) (L st : List Value) (N : Nat) (y : Nat → Nat → Int32) (l : Nat → Nat → Int64) (i : Nat) (v : Int32), i < 3912 → fk_ev d qX12_leaves 195 L (.int v :: .int (nI i) :: .ref 247 :: st) (fk_E N y l) = fk_ev d qX12_leaves 196 L st (fk_E N (fk_u y 247 i v) l)) ∧
  (∀ (d : Nat) (a1 a2 a3 a4 a5 a6 : Value) (x : Nat) (st : List Value) (h : fk_H), fk_ev d qX12_leaves 196 [.ref x, a1, a2, a3, a4, a5, a6] st h = fk_ev d qX12_leaves 197 [.ref x, a1, a2, a3, a4, a5, a6] (.ref x :: st) h) ∧
  (∀ (d : Nat) (L st : List Value) (N : Nat) (y : Nat → Nat → Int32) (l : Nat → Nat → Int64), fk_ev d qX12_leaves 197 L (.ref 246 :: st) (fk_E N y l) = fk_ev d qX12_leaves 200 L (.ref 247 :: st) (fk_E N y l)) ∧
  (∀ (d : Nat) (L st : List Value) (h : fk_H), fk_ev d qX12_leaves 200 L st h = fk_ev d qX12_leaves 203 L (.int (nI 838) :: st) h) ∧
  (∀ (d : Nat) (a1 a2 a3 a4 a5 a6 : Value) (x : Nat) (st : List Value) (h : fk_H), fk_ev d qX12_leaves 203 [.ref x, a1, a2, a3, a4, a5, a6] st h = fk_ev d qX12_leaves 204 [.ref x, a1, a2, a3, a4, a5, a6] (.ref x :: st) h) ∧
  (∀ (d : Nat) (L st : List Value) (N : Nat) (y : Nat → Nat → Int32) (l : Nat → Nat → Int64), fk_ev d qX12_leaves 204 L (.ref 246 :: st) (fk_E N y l) = fk_ev d qX12_leaves 207 L (.ref 247 :: st) (fk_E N y l)) ∧
  (∀ (d : Nat) (L st : List Value) (h : fk_H), fk_ev d qX12_leaves 207 L st h = fk_ev d qX12_leaves 210 L (.int (nI 838) :: st) h) ∧
  (∀ (d : Nat) (L st : List Value) (N : Nat) (y : Nat → Nat → Int32) (l : Nat → Nat → Int64) (i : Nat), i < 3912 → fk_ev d qX12_leaves 210 L (.int (nI i) :: .ref 247 :: st) (fk_E N y l) = fk_ev d qX12_leaves 211 L (.int (y 247 i) :: st) (fk_E N y l)) ∧
  (∀ (d : Nat) (L st : List Value) (h : fk_H), fk_ev d qX12_leaves 211 L st h = fk_ev d qX12_leaves 212 L (.int (nI 1) :: st) h) ∧
  (∀ (d : Nat) (L : List Value) (x y : Int32) (st : List Value) (h : fk_H), fk_ev d qX12_leaves 212 L (.int y :: .int x :: st) h = fk_ev d qX12_leaves 213 L (.int (x + y) :: st) h) ∧
  (∀ (d : Nat) (L st : List Value) (N : Nat) (y : Nat → Nat → Int32) (l : Nat → Nat → Int64) (i : Nat) (v : Int32), i < 3912 → fk_ev d qX12_leaves 213 L (.int v :: .int (nI i) :: .ref 247 :: st) (fk_E N y l) = fk_ev d qX12_leaves 214 L st (fk_E N (fk_u y 247 i v) l)) ∧
  (∀ (d : Nat) (a1 a2 a3 a4 a5 a6 : Value) (x : Nat) (st : List Value) (h : fk_H), fk_ev d qX12_leaves 214 [.ref x, a1, a2, a3, a4, a5, a6] st h = fk_ev d qX12_leaves 215 [.ref x, a1, a2, a3, a4, a5, a6] (.ref x :: st) h) ∧
  (∀ (d : Nat) (a0 a1 a2 a3 a4 a5 : Value) (x : Int32) (st : List Value) (h : fk_H), fk_ev d qX12_leaves 215 [a0, a1, a2, a3, a4, a5, .int x] st h = fk_ev d qX12_leaves 217 [a0, a1, a2, a3, a4, a5, .int x] (.int x :: st) h) ∧
  (∀ (d : Nat) (a0 a1 a2 a4 a5 a6 : Value) (x : Int32) (st : List Value) (h : fk_H), fk_ev d qX12_leaves 217 [a0, a1, a2, .int x, a4, a5, a6] st h = fk_ev d qX12_leaves 218 [a0, a1, a2, .int x, a4, a5, a6] (.int x :: st) h) ∧
  (∀ (d : Nat) (L : List Value) (x0 : Int32) (x1 : Int32)  (N : Nat) (y : Nat → Nat → Int32) (l : Nat → Nat → Int64), fk_ev (d + 1) qX12_leaves 218 L (.int x1 :: .int x0 :: .ref 246 :: []) (fk_E N y l) = (fk_ev d qX12_sets 0 [.ref 246, .int x0, .int x1] [] (fk_E N y l)).bind fun o => fk_ev (d + 1) qX12_leaves 221 L (o.1.toList ++ []) o.2) ∧
  (∀ (d : Nat) (a1 a2 a3 a4 a5 a6 : Value) (x : Nat) (st : List Value) (h : fk_H), fk_ev d qX12_leaves 221 [.ref x, a1, a2, a3, a4, a5, a6] st h = fk_ev d qX12_leaves 222 [.ref x, a1, a2, a3, a4, a5, a6] (.ref x :: st) h) ∧
  (∀ (d : Nat) (a0 a2 a3 a4 a5 a6 : Value) (x : Int32) (st : List Value) (h : fk_H), fk_ev d qX12_leaves 222 [a0, .int x, a2, a3, a4, a5, a6] st h = fk_ev d qX12_leaves 223 [a0, .int x, a2, a3, a4, a5, a6] (.int x :: st) h) ∧
  (∀ (d : Nat) (a0 a1 a3 a4 a5 a6 : Value) (x : Int32) (st : List Value) (h : fk_H), fk_ev d qX12_leaves 223 [a0, a1, .int x, a3, a4, a5, a6] st h = fk_ev d qX12_leaves 224 [a0, a1, .int x, a3, a4, a5, a6] (.int x :: st) h) ∧
  (∀ (d : Nat) (L : List Value) (x0 : Int32) (x1 : Int32)  (N : Nat) (y : Nat → Nat → Int32) (l : Nat → Nat → Int64), fk_ev (d + 1) qX12_leaves 224 L (.int x1 :: .int x0 :: .ref 246 :: []) (fk_E N y l) = (fk_ev d qX12_sets 0 [.ref 246, .int x0, .int x1] [] (fk_E N y l)).bind fun o => fk_ev (d + 1) qX12_leaves 227 L (o.1.toList ++ []) o.2) ∧
  (∀ (d : Nat) (L : List Value) (h : fk_H), fk_ev d qX12_leaves 227 L [] h = some (none, h)) := ⟨fun d a1 a2 a3 a4 a5 a6 x st h => fk_w_aloadn 0 [.ref x, a1, a2, a3, a4, a5, a6] dX12_leaves_0 rfl,
  fun d a0 a2 a3 a4 a5 a6 x st h => fk_w_iloadn 1 [a0, .int x, a2, a3, a4, a5, a6] dX12_leaves_1 rfl,
  fun d L st h => fk_w_iconst dX12_leaves_2 (by decide),
  fun d L x0 x1 N y l  => fk_g_call [.int x0, .int x1] [] rfl lm_12_295 dX12_leaves_3 rfl ⟨rfl, by decide⟩ (by simp) fk_at_246,
  fun d a0 a1 a2 a3 a4 a5 a6 x st h => fk_w_istoren 2 7 [] [a0, a1, a2, a3, a4, a5, a6] [a0, a1, .int x, a3, a4, a5, a6] dX12_leaves_6 rfl rfl (by decide) rfl,
  fun d a0 a1 a3 a4 a5 a6 x st h => fk_w_iloadn 2 [a0, a1, .int x, a3, a4, a5, a6] dX12_leaves_7 rfl,
  fun d L st h => fk_w_iconst dX12_leaves_8 (by decide),
  fun d L x y st h => fk_r_icmp_ne dX12_leaves_9 (by decide),
  fun d L h => fk_r_vret dX12_leaves_12 rfl,
  fun d a1 a2 a3 a4 a5 a6 x st h => fk_w_aloadn 0 [.ref x, a1, a2, a3, a4, a5, a6] dX12_leaves_13 rfl,
  fun d a0 a2 a3 a4 a5 a6 x st h => fk_w_iloadn 1 [a0, .int x, a2, a3, a4, a5, a6] dX12_leaves_14 rfl,
  fun d a0 a1 a3 a4 a5 a6 x st h => fk_w_iloadn 2 [a0, a1, .int x, a3, a4, a5, a6] dX12_leaves_15 rfl,
  fun d L x0 x1 N y l  => fk_g_call [.int x0, .int x1] [] rfl lm_12_295 dX12_leaves_16 rfl ⟨rfl, by decide⟩ (by simp) fk_at_246,
  fun d a0 a1 a2 a3 a4 a5 a6 x st h => fk_w_istoren 3 7 [] [a0, a1, a2, a3, a4, a5, a6] [a0, a1, a2, .int x, a4, a5, a6] dX12_leaves_19 rfl rfl (by decide) rfl,
  fun d a0 a1 a2 a4 a5 a6 x st h => fk_w_iloadn 3 [a0, a1, a2, .int x, a4, a5, a6] dX12_leaves_20 rfl,
  fun d L st h => fk_w_iconst dX12_leaves_21 (by decide),
  fun d L x y st h => fk_r_icmp_eq dX12_leaves_22 (by decide),
  fun d a1 a2 a3 a4 a5 a6 x st h => fk_w_aloadn 0 [.ref x, a1, a2, a3, a4, a5, a6] dX12_leaves_25 rfl,
  fun d a0 a2 a3 a4 a5 a6 x st h => fk_w_iloadn 1 [a0, .int x, a2, a3, a4, a5, a6] dX12_leaves_26 rfl,
  fun d a0 a1 a3 a4 a5 a6 x st h => fk_w_iloadn 2 [a0, a1, .int x, a3, a4, a5, a6] dX12_leaves_27 rfl,
  fun d L x0 x1 N y l  => fk_g_call [.int x0, .int x1] [] rfl lm_12_292 dX12_leaves_28 rfl ⟨rfl, by decide⟩ (by simp) fk_at_246,
  fun d a1 a2 a3 a4 a5 a6 x st h => fk_w_aloadn 0 [.ref x, a1, a2, a3, a4, a5, a6] dX12_leaves_31 rfl,
  fun d a0 a2 a3 a4 a5 a6 x st h => fk_w_iloadn 1 [a0, .int x, a2, a3, a4, a5, a6] dX12_leaves_32 rfl,
  fun d a0 a1 a2 a4 a5 a6 x st h => fk_w_iloadn 3 [a0, a1, a2, .int x, a4, a5, a6] dX12_leaves_33 rfl,
  fun d L x0 x1 w0 N y l  => fk_g_call [.int x0, .int x1] [w0] rfl lm_12_292 dX12_leaves_34 rfl ⟨rfl, by decide⟩ (by simp) fk_at_246,
  fun d L x y st h => fk_r_isub dX12_leaves_37,
  fun d a1 a2 a3 a4 a5 a6 x st h => fk_w_aloadn 0 [.ref x, a1, a2, a3, a4, a5, a6] dX12_leaves_38 rfl,
  fun d a0 a2 a3 a4 a5 a6 x st h => fk_w_iloadn 1 [a0, .int x, a2, a3, a4, a5, a6] dX12_leaves_39 rfl,
  fun d L x0 w0 N y l  => fk_g_call [.int x0] [w0] rfl lm_12_298 dX12_leaves_40 rfl ⟨rfl, by decide⟩ (by simp) fk_at_246,
  fun d L x y st h => fk_r_icmp_gt dX12_leaves_43 (by decide),
  fun d a1 a2 a3 a4 a5 a6 x st h => fk_w_aloadn 0 [.ref x, a1, a2, a3, a4, a5, a6] dX12_leaves_46 rfl,
  fun d L st N y l => fk_g_getC rfl lf_12_7 (by decide) rfl dX12_leaves_47 fk_at_246,
  fun d L st h => fk_w_sipush dX12_leaves_50 (by decide),
  fun d L st N y l i hi => fk_g_iald fk_at_247 fk_ln_247 (by decide) dX12_leaves_53 hi,
  fun d L st h => fk_w_bipush dX12_leaves_54 (by decide),
  fun d L x y st h => fk_r_icmp_ge dX12_leaves_56 (by decide),
  fun d a1 a2 a3 a4 a5 a6 x st h => fk_w_aloadn 0 [.ref x, a1, a2, a3, a4, a5, a6] dX12_leaves_59 rfl,
  fun d L st N y l => fk_g_getC rfl lf_12_7 (by decide) rfl dX12_leaves_60 fk_at_246,
  fun d L st h => fk_w_sipush dX12_leaves_63 (by decide),
  fun d a0 a2 a3 a4 a5 a6 x st h => fk_w_iloadn 1 [a0, .int x, a2, a3, a4, a5, a6] dX12_leaves_66 rfl,
  fun d L x y st h => fk_r_iadd dX12_leaves_67,
  fun d L st N y l i hi => fk_g_iald fk_at_247 fk_ln_247 (by decide) dX12_leaves_68 hi,
  fun d L st h => fk_w_iconst dX12_leaves_69 (by decide),
  fun d L x y st h => fk_r_icmp_le dX12_leaves_70 (by decide),
  fun d L st h => fk_w_iconst dX12_leaves_73 (by decide),
  fun d L st h => fk_r_goto dX12_leaves_74 (by decide),
  fun d L st h => fk_w_iconst dX12_leaves_77 (by decide),
  fun d a0 a1 a2 a3 a4 a5 a6 x st h => fk_w_istore 4 7 [] [a0, a1, a2, a3, a4, a5, a6] [a0, a1, a2, a3, .int x, a5, a6] dX12_leaves_78 rfl rfl (by decide) rfl,
  fun d a0 a1 a2 a3 a5 a6 x st h => fk_w_iload 4 [a0, a1, a2, a3, .int x, a5, a6] dX12_leaves_80 rfl,
  fun d L x st h => fk_r_if_eq dX12_leaves_82 (by decide),
  fun d a1 a2 a3 a4 a5 a6 x st h => fk_w_aloadn 0 [.ref x, a1, a2, a3, a4, a5, a6] dX12_leaves_85 rfl,
  fun d L st N y l => fk_g_getC rfl lf_12_7 (by decide) rfl dX12_leaves_86 fk_at_246,
  fun d L st h => fk_w_sipush dX12_leaves_89 (by decide),
  fun d a0 a2 a3 a4 a5 a6 x st h => fk_w_iloadn 1 [a0, .int x, a2, a3, a4, a5, a6] dX12_leaves_92 rfl,
  fun d L x y st h => fk_r_iadd dX12_leaves_93,
  fun d L st N y l i hi => fk_g_iald fk_at_247 fk_ln_247 (by decide) dX12_leaves_94 hi,
  fun d a0 a1 a2 a3 a4 a5 a6 x st h => fk_w_istore 5 7 [] [a0, a1, a2, a3, a4, a5, a6] [a0, a1, a2, a3, a4, .int x, a6] dX12_leaves_95 rfl rfl (by decide) rfl,
  fun d a1 a2 a3 a4 a5 a6 x st h => fk_w_aloadn 0 [.ref x, a1, a2, a3, a4, a5, a6] dX12_leaves_97 rfl,
  fun d a1 a2 a3 a4 a5 a6 x st h => fk_w_aloadn 0 [.ref x, a1, a2, a3, a4, a5, a6] dX12_leaves_98 rfl,
  fun d L st N y l => fk_g_getC rfl lf_12_7 (by decide) rfl dX12_leaves_99 fk_at_246,
  fun d L st h => fk_w_iconst dX12_leaves_102 (by decide),
  fun d a0 a2 a3 a4 a5 a6 x st h => fk_w_iloadn 1 [a0, .int x, a2, a3, a4, a5, a6] dX12_leaves_103 rfl,
  fun d L x y st h => fk_r_iadd dX12_leaves_104,
  fun d L st N y l i hi => fk_g_iald fk_at_247 fk_ln_247 (by decide) dX12_leaves_105 hi,
  fun d a0 a2 a3 a4 a5 a6 x st h => fk_w_iloadn 1 [a0, .int x, a2, a3, a4, a5, a6] dX12_leaves_106 rfl,
  fun d a0 a1 a2 a3 a4 a6 x st h => fk_w_iload 5 [a0, a1, a2, a3, a4, .int x, a6] dX12_leaves_107 rfl,
  fun d L st h => fk_w_iconst dX12_leaves_109 (by decide),
  fun d L x y st h => fk_r_idiv dX12_leaves_110,
  fun d L x0 x1 x2 N y l  => fk_g_call [.int x0, .int x1, .int x2] [] rfl lm_12_139 dX12_leaves_111 rfl ⟨rfl, by decide⟩ (by simp) fk_at_246,
  fun d a0 a1 a2 a3 a4 a5 a6 x st h => fk_w_istore 6 7 [] [a0, a1, a2, a3, a4, a5, a6] [a0, a1, a2, a3, a4, a5, .int x] dX12_leaves_114 rfl rfl (by decide) rfl,
  fun d a1 a2 a3 a4 a5 a6 x st h => fk_w_aloadn 0 [.ref x, a1, a2, a3, a4, a5, a6] dX12_leaves_116 rfl,
  fun d L st N y l => fk_g_getC rfl lf_12_7 (by decide) rfl dX12_leaves_117 fk_at_246,
  fun d L st h => fk_w_sipush dX12_leaves_120 (by decide),
  fun d a0 a2 a3 a4 a5 a6 x st h => fk_w_iloadn 1 [a0, .int x, a2, a3, a4, a5, a6] dX12_leaves_123 rfl,
  fun d L x y st h => fk_r_iadd dX12_leaves_124,
  fun d a0 a1 a2 a3 a4 a6 x st h => fk_w_iload 5 [a0, a1, a2, a3, a4, .int x, a6] dX12_leaves_125 rfl,
  fun d a0 a1 a2 a3 a4 a6 x st h => fk_w_iload 5 [a0, a1, a2, a3, a4, .int x, a6] dX12_leaves_127 rfl,
  fun d L st h => fk_w_iconst dX12_leaves_129 (by decide),
  fun d L x y st h => fk_r_idiv dX12_leaves_130,
  fun d L x y st h => fk_r_isub dX12_leaves_131,
  fun d L st N y l i v hi => fk_g_iast fk_at_247 fk_ln_247 (by decide) dX12_leaves_132 hi,
  fun d a1 a2 a3 a4 a5 a6 x st h => fk_w_aloadn 0 [.ref x, a1, a2, a3, a4, a5, a6] dX12_leaves_133 rfl,
  fun d L st N y l => fk_g_getC rfl lf_12_7 (by decide) rfl dX12_leaves_134 fk_at_246,
  fun d L st h => fk_w_sipush dX12_leaves_137 (by decide),
  fun d a0 a1 a2 a3 a4 a5 x st h => fk_w_iload 6 [a0, a1, a2, a3, a4, a5, .int x] dX12_leaves_140 rfl,
  fun d L x y st h => fk_r_iadd dX12_leaves_142,
  fun d a1 a2 a3 a4 a5 a6 x st h => fk_w_aloadn 0 [.ref x, a1, a2, a3, a4, a5, a6] dX12_leaves_143 rfl,
  fun d L st N y l => fk_g_getC rfl lf_12_7 (by decide) rfl dX12_leaves_144 fk_at_246,
  fun d L st h => fk_w_sipush dX12_leaves_147 (by decide),
  fun d a0 a2 a3 a4 a5 a6 x st h => fk_w_iloadn 1 [a0, .int x, a2, a3, a4, a5, a6] dX12_leaves_150 rfl,
  fun d L x y st h => fk_r_iadd dX12_leaves_151,
  fun d L st N y l i hi => fk_g_iald fk_at_247 fk_ln_247 (by decide) dX12_leaves_152 hi,
  fun d L st N y l i v hi => fk_g_iast fk_at_247 fk_ln_247 (by decide) dX12_leaves_153 hi,
  fun d a1 a2 a3 a4 a5 a6 x st h => fk_w_aloadn 0 [.ref x, a1, a2, a3, a4, a5, a6] dX12_leaves_154 rfl,
  fun d L st N y l => fk_g_getC rfl lf_12_7 (by decide) rfl dX12_leaves_155 fk_at_246,
  fun d L st h => fk_w_sipush dX12_leaves_158 (by decide),
  fun d a0 a1 a2 a3 a4 a5 x st h => fk_w_iload 6 [a0, a1, a2, a3, a4, a5, .int x] dX12_leaves_161 rfl,
  fun d L x y st h => fk_r_iadd dX12_leaves_163,
  fun d a1 a2 a3 a4 a5 a6 x st h => fk_w_aloadn 0 [.ref x, a1, a2, a3, a4, a5, a6] dX12_leaves_164 rfl,
  fun d L st N y l => fk_g_getC rfl lf_12_7 (by decide) rfl dX12_leaves_165 fk_at_246,
  fun d L st h => fk_w_sipush dX12_leaves_168 (by decide),
  fun d a0 a2 a3 a4 a5 a6 x st h => fk_w_iloadn 1 [a0, .int x, a2, a3, a4, a5, a6] dX12_leaves_171 rfl,
  fun d L x y st h => fk_r_iadd dX12_leaves_172,
  fun d L st N y l i hi => fk_g_iald fk_at_247 fk_ln_247 (by decide) dX12_leaves_173 hi,
  fun d L st N y l i v hi => fk_g_iast fk_at_247 fk_ln_247 (by decide) dX12_leaves_174 hi,
  fun d a1 a2 a3 a4 a5 a6 x st h => fk_w_aloadn 0 [.ref x, a1, a2, a3, a4, a5, a6] dX12_leaves_175 rfl,
  fun d L st N y l => fk_g_getC rfl lf_12_7 (by decide) rfl dX12_leaves_176 fk_at_246,
  fun d L st h => fk_w_sipush dX12_leaves_179 (by decide),
  fun d a0 a1 a2 a3 a4 a5 x st h => fk_w_iload 6 [a0, a1, a2, a3, a4, a5, .int x] dX12_leaves_182 rfl,
  fun d L x y st h => fk_r_iadd dX12_leaves_184,
  fun d a1 a2 a3 a4 a5 a6 x st h => fk_w_aloadn 0 [.ref x, a1, a2, a3, a4, a5, a6] dX12_leaves_185 rfl,
  fun d L st N y l => fk_g_getC rfl lf_12_7 (by decide) rfl dX12_leaves_186 fk_at_246,
  fun d L st h => fk_w_sipush dX12_leaves_189 (by decide),
  fun d a0 a2 a3 a4 a5 a6 x st h => fk_w_iloadn 1 [a0, .int x, a2, a3, a4, a5, a6] dX12_leaves_192 rfl,
  fun d L x y st h => fk_r_iadd dX12_leaves_193,
  fun d L st N y l i hi => fk_g_iald fk_at_247 fk_ln_247 (by decide) dX12_leaves_194 hi,
  fun d L st N y l i v hi => fk_g_iast fk_at_247 fk_ln_247 (by decide) dX12_leaves_195 hi,
  fun d a1 a2 a3 a4 a5 a6 x st h => fk_w_aloadn 0 [.ref x, a1, a2, a3, a4, a5, a6] dX12_leaves_196 rfl,
  fun d L st N y l => fk_g_getC rfl lf_12_7 (by decide) rfl dX12_leaves_197 fk_at_246,
  fun d L st h => fk_w_sipush dX12_leaves_200 (by decide),
  fun d a1 a2 a3 a4 a5 a6 x st h => fk_w_aloadn 0 [.ref x, a1, a2, a3, a4, a5, a6] dX12_leaves_203 rfl,
  fun d L st N y l => fk_g_getC rfl lf_12_7 (by decide) rfl dX12_leaves_204 fk_at_246,
  fun d L st h => fk_w_sipush dX12_leaves_207 (by decide),
  fun d L st N y l i hi => fk_g_iald fk_at_247 fk_ln_247 (by decide) dX12_leaves_210 hi,
  fun d L st h => fk_w_iconst dX12_leaves_211 (by decide),
  fun d L x y st h => fk_r_iadd dX12_leaves_212,
  fun d L st N y l i v hi => fk_g_iast fk_at_247 fk_ln_247 (by decide) dX12_leaves_213 hi,
  fun d a1 a2 a3 a4 a5 a6 x st h => fk_w_aloadn 0 [.ref x, a1, a2, a3, a4, a5, a6] dX12_leaves_214 rfl,
  fun d a0 a1 a2 a3 a4 a5 x st h => fk_w_iload 6 [a0, a1, a2, a3, a4, a5, .int x] dX12_leaves_215 rfl,
  fun d a0 a1 a2 a4 a5 a6 x st h => fk_w_iloadn 3 [a0, a1, a2, .int x, a4, a5, a6] dX12_leaves_217 rfl,
  fun d L x0 x1 N y l  => fk_g_call [.int x0, .int x1] [] rfl lm_12_301 dX12_leaves_218 rfl ⟨rfl, by decide⟩ (by simp) fk_at_246,
  fun d a1 a2 a3 a4 a5 a6 x st h => fk_w_aloadn 0 [.ref x, a1, a2, a3, a4, a5, a6] dX12_leaves_221 rfl,
  fun d a0 a2 a3 a4 a5 a6 x st h => fk_w_iloadn 1 [a0, .int x, a2, a3, a4, a5, a6] dX12_leaves_222 rfl,
  fun d a0 a1 a3 a4 a5 a6 x st h => fk_w_iloadn 2 [a0, a1, .int x, a3, a4, a5, a6] dX12_leaves_223 rfl,
  fun d L x0 x1 N y l  => fk_g_call [.int x0, .int x1] [] rfl lm_12_301 dX12_leaves_224 rfl ⟨rfl, by decide⟩ (by simp) fk_at_246,
  fun d L h => fk_r_vret dX12_leaves_227 rfl⟩
theorem dX12_hourGoes_0 : decode cX12_hourGoes 0 = .ok (.aload_n 0, 1) := by decide +kernel
theorem dX12_hourGoes_1 : decode cX12_hourGoes 1 = .ok (.invokevirtual 304, 3) := by decide +kernel
theorem dX12_hourGoes_4 : decode cX12_hourGoes 4 = .ok (.iconst 0, 1) := by decide +kernel
theorem dX12_hourGoes_5 : decode cX12_hourGoes 5 = .ok (.istore_n 1, 1) := by decide +kernel
theorem dX12_hourGoes_6 : decode cX12_hourGoes 6 = .ok (.iload_n 1, 1) := by decide +kernel
theorem dX12_hourGoes_7 : decode cX12_hourGoes 7 = .ok (.bipush 64, 2) := by decide +kernel
theorem dX12_hourGoes_9 : decode cX12_hourGoes 9 = .ok (.if_icmp .ge 16, 3) := by decide +kernel
theorem dX12_hourGoes_12 : decode cX12_hourGoes 12 = .ok (.aload_n 0, 1) := by decide +kernel
theorem dX12_hourGoes_13 : decode cX12_hourGoes 13 = .ok (.getfield 78, 3) := by decide +kernel
theorem dX12_hourGoes_16 : decode cX12_hourGoes 16 = .ok (.iload_n 1, 1) := by decide +kernel
theorem dX12_hourGoes_17 : decode cX12_hourGoes 17 = .ok (.iconst 0, 1) := by decide +kernel
theorem dX12_hourGoes_18 : decode cX12_hourGoes 18 = .ok (.bastore, 1) := by decide +kernel
theorem dX12_hourGoes_19 : decode cX12_hourGoes 19 = .ok (.iinc 1 1, 3) := by decide +kernel
theorem dX12_hourGoes_22 : decode cX12_hourGoes 22 = .ok (.goto (-16), 3) := by decide +kernel
theorem dX12_hourGoes_25 : decode cX12_hourGoes 25 = .ok (.iconst 0, 1) := by decide +kernel
theorem dX12_hourGoes_26 : decode cX12_hourGoes 26 = .ok (.istore_n 1, 1) := by decide +kernel
theorem dX12_hourGoes_27 : decode cX12_hourGoes 27 = .ok (.iload_n 1, 1) := by decide +kernel
theorem dX12_hourGoes_28 : decode cX12_hourGoes 28 = .ok (.aload_n 0, 1) := by decide +kernel
theorem dX12_hourGoes_29 : decode cX12_hourGoes 29 = .ok (.getfield 7, 3) := by decide +kernel
theorem dX12_hourGoes_32 : decode cX12_hourGoes 32 = .ok (.sipush 833, 3) := by decide +kernel
theorem dX12_hourGoes_35 : decode cX12_hourGoes 35 = .ok (.iaload, 1) := by decide +kernel
theorem dX12_hourGoes_36 : decode cX12_hourGoes 36 = .ok (.if_icmp .ge 52, 3) := by decide +kernel
theorem dX12_hourGoes_39 : decode cX12_hourGoes 39 = .ok (.aload_n 0, 1) := by decide +kernel
theorem dX12_hourGoes_40 : decode cX12_hourGoes 40 = .ok (.iload_n 1, 1) := by decide +kernel
theorem dX12_hourGoes_41 : decode cX12_hourGoes 41 = .ok (.invokevirtual 269, 3) := by decide +kernel
theorem dX12_hourGoes_44 : decode cX12_hourGoes 44 = .ok (.ifCond .eq 38, 3) := by decide +kernel
theorem dX12_hourGoes_47 : decode cX12_hourGoes 47 = .ok (.aload_n 0, 1) := by decide +kernel
theorem dX12_hourGoes_48 : decode cX12_hourGoes 48 = .ok (.getfield 7, 3) := by decide +kernel
theorem dX12_hourGoes_51 : decode cX12_hourGoes 51 = .ok (.sipush 512, 3) := by decide +kernel
theorem dX12_hourGoes_54 : decode cX12_hourGoes 54 = .ok (.iload_n 1, 1) := by decide +kernel
theorem dX12_hourGoes_55 : decode cX12_hourGoes 55 = .ok (.iadd, 1) := by decide +kernel
theorem dX12_hourGoes_56 : decode cX12_hourGoes 56 = .ok (.iaload, 1) := by decide +kernel
theorem dX12_hourGoes_57 : decode cX12_hourGoes 57 = .ok (.ifCond .le 25, 3) := by decide +kernel
theorem dX12_hourGoes_60 : decode cX12_hourGoes 60 = .ok (.aload_n 0, 1) := by decide +kernel
theorem dX12_hourGoes_61 : decode cX12_hourGoes 61 = .ok (.getfield 7, 3) := by decide +kernel
theorem dX12_hourGoes_64 : decode cX12_hourGoes 64 = .ok (.sipush 512, 3) := by decide +kernel
theorem dX12_hourGoes_67 : decode cX12_hourGoes 67 = .ok (.iload_n 1, 1) := by decide +kernel
theorem dX12_hourGoes_68 : decode cX12_hourGoes 68 = .ok (.iadd, 1) := by decide +kernel
theorem dX12_hourGoes_69 : decode cX12_hourGoes 69 = .ok (.aload_n 0, 1) := by decide +kernel
theorem dX12_hourGoes_70 : decode cX12_hourGoes 70 = .ok (.getfield 7, 3) := by decide +kernel
theorem dX12_hourGoes_73 : decode cX12_hourGoes 73 = .ok (.sipush 512, 3) := by decide +kernel
theorem dX12_hourGoes_76 : decode cX12_hourGoes 76 = .ok (.iload_n 1, 1) := by decide +kernel
theorem dX12_hourGoes_77 : decode cX12_hourGoes 77 = .ok (.iadd, 1) := by decide +kernel
theorem dX12_hourGoes_78 : decode cX12_hourGoes 78 = .ok (.iaload, 1) := by decide +kernel
theorem dX12_hourGoes_79 : decode cX12_hourGoes 79 = .ok (.iconst 1, 1) := by decide +kernel
theorem dX12_hourGoes_80 : decode cX12_hourGoes 80 = .ok (.isub, 1) := by decide +kernel
theorem dX12_hourGoes_81 : decode cX12_hourGoes 81 = .ok (.iastore, 1) := by decide +kernel
theorem dX12_hourGoes_82 : decode cX12_hourGoes 82 = .ok (.iinc 1 1, 3) := by decide +kernel
theorem dX12_hourGoes_85 : decode cX12_hourGoes 85 = .ok (.goto (-58), 3) := by decide +kernel
theorem dX12_hourGoes_88 : decode cX12_hourGoes 88 = .ok (.iconst 0, 1) := by decide +kernel
theorem dX12_hourGoes_89 : decode cX12_hourGoes 89 = .ok (.istore_n 1, 1) := by decide +kernel
theorem dX12_hourGoes_90 : decode cX12_hourGoes 90 = .ok (.iload_n 1, 1) := by decide +kernel
theorem dX12_hourGoes_91 : decode cX12_hourGoes 91 = .ok (.aload_n 0, 1) := by decide +kernel
theorem dX12_hourGoes_92 : decode cX12_hourGoes 92 = .ok (.getfield 7, 3) := by decide +kernel
theorem dX12_hourGoes_95 : decode cX12_hourGoes 95 = .ok (.sipush 833, 3) := by decide +kernel
theorem dX12_hourGoes_98 : decode cX12_hourGoes 98 = .ok (.iaload, 1) := by decide +kernel
theorem dX12_hourGoes_99 : decode cX12_hourGoes 99 = .ok (.if_icmp .ge 35, 3) := by decide +kernel
theorem dX12_hourGoes_102 : decode cX12_hourGoes 102 = .ok (.aload_n 0, 1) := by decide +kernel
theorem dX12_hourGoes_103 : decode cX12_hourGoes 103 = .ok (.iload_n 1, 1) := by decide +kernel
theorem dX12_hourGoes_104 : decode cX12_hourGoes 104 = .ok (.invokevirtual 126, 3) := by decide +kernel
theorem dX12_hourGoes_107 : decode cX12_hourGoes 107 = .ok (.ifCond .eq 21, 3) := by decide +kernel
theorem dX12_hourGoes_110 : decode cX12_hourGoes 110 = .ok (.aload_n 0, 1) := by decide +kernel
theorem dX12_hourGoes_111 : decode cX12_hourGoes 111 = .ok (.getfield 7, 3) := by decide +kernel
theorem dX12_hourGoes_114 : decode cX12_hourGoes 114 = .ok (.sipush 320, 3) := by decide +kernel
theorem dX12_hourGoes_117 : decode cX12_hourGoes 117 = .ok (.iload_n 1, 1) := by decide +kernel
theorem dX12_hourGoes_118 : decode cX12_hourGoes 118 = .ok (.iadd, 1) := by decide +kernel
theorem dX12_hourGoes_119 : decode cX12_hourGoes 119 = .ok (.iaload, 1) := by decide +kernel
theorem dX12_hourGoes_120 : decode cX12_hourGoes 120 = .ok (.ifCond .ge 8, 3) := by decide +kernel
theorem dX12_hourGoes_123 : decode cX12_hourGoes 123 = .ok (.aload_n 0, 1) := by decide +kernel
theorem dX12_hourGoes_124 : decode cX12_hourGoes 124 = .ok (.iload_n 1, 1) := by decide +kernel
theorem dX12_hourGoes_125 : decode cX12_hourGoes 125 = .ok (.invokevirtual 307, 3) := by decide +kernel
theorem dX12_hourGoes_128 : decode cX12_hourGoes 128 = .ok (.iinc 1 1, 3) := by decide +kernel
theorem dX12_hourGoes_131 : decode cX12_hourGoes 131 = .ok (.goto (-41), 3) := by decide +kernel
theorem dX12_hourGoes_134 : decode cX12_hourGoes 134 = .ok (.iconst 0, 1) := by decide +kernel
theorem dX12_hourGoes_135 : decode cX12_hourGoes 135 = .ok (.istore_n 1, 1) := by decide +kernel
theorem dX12_hourGoes_136 : decode cX12_hourGoes 136 = .ok (.iload_n 1, 1) := by decide +kernel
theorem dX12_hourGoes_137 : decode cX12_hourGoes 137 = .ok (.aload_n 0, 1) := by decide +kernel
theorem dX12_hourGoes_138 : decode cX12_hourGoes 138 = .ok (.getfield 7, 3) := by decide +kernel
theorem dX12_hourGoes_141 : decode cX12_hourGoes 141 = .ok (.sipush 833, 3) := by decide +kernel
theorem dX12_hourGoes_144 : decode cX12_hourGoes 144 = .ok (.iaload, 1) := by decide +kernel
theorem dX12_hourGoes_145 : decode cX12_hourGoes 145 = .ok (.if_icmp .ge 95, 3) := by decide +kernel
theorem dX12_hourGoes_148 : decode cX12_hourGoes 148 = .ok (.iload_n 1, 1) := by decide +kernel
theorem dX12_hourGoes_149 : decode cX12_hourGoes 149 = .ok (.iconst 1, 1) := by decide +kernel
theorem dX12_hourGoes_150 : decode cX12_hourGoes 150 = .ok (.iadd, 1) := by decide +kernel
theorem dX12_hourGoes_151 : decode cX12_hourGoes 151 = .ok (.istore_n 2, 1) := by decide +kernel
theorem dX12_hourGoes_152 : decode cX12_hourGoes 152 = .ok (.iload_n 2, 1) := by decide +kernel
theorem dX12_hourGoes_153 : decode cX12_hourGoes 153 = .ok (.aload_n 0, 1) := by decide +kernel
theorem dX12_hourGoes_154 : decode cX12_hourGoes 154 = .ok (.getfield 7, 3) := by decide +kernel
theorem dX12_hourGoes_157 : decode cX12_hourGoes 157 = .ok (.sipush 833, 3) := by decide +kernel
theorem dX12_hourGoes_160 : decode cX12_hourGoes 160 = .ok (.iaload, 1) := by decide +kernel
theorem dX12_hourGoes_161 : decode cX12_hourGoes 161 = .ok (.if_icmp .ge 73, 3) := by decide +kernel
theorem dX12_hourGoes_164 : decode cX12_hourGoes 164 = .ok (.aload_n 0, 1) := by decide +kernel
theorem dX12_hourGoes_165 : decode cX12_hourGoes 165 = .ok (.iload_n 1, 1) := by decide +kernel
theorem dX12_hourGoes_166 : decode cX12_hourGoes 166 = .ok (.invokevirtual 269, 3) := by decide +kernel
theorem dX12_hourGoes_169 : decode cX12_hourGoes 169 = .ok (.ifCond .eq 59, 3) := by decide +kernel
theorem dX12_hourGoes_172 : decode cX12_hourGoes 172 = .ok (.aload_n 0, 1) := by decide +kernel
theorem dX12_hourGoes_173 : decode cX12_hourGoes 173 = .ok (.iload_n 2, 1) := by decide +kernel
theorem dX12_hourGoes_174 : decode cX12_hourGoes 174 = .ok (.invokevirtual 269, 3) := by decide +kernel
theorem dX12_hourGoes_177 : decode cX12_hourGoes 177 = .ok (.ifCond .eq 51, 3) := by decide +kernel
theorem dX12_hourGoes_180 : decode cX12_hourGoes 180 = .ok (.aload_n 0, 1) := by decide +kernel
theorem dX12_hourGoes_181 : decode cX12_hourGoes 181 = .ok (.getfield 7, 3) := by decide +kernel
theorem dX12_hourGoes_184 : decode cX12_hourGoes 184 = .ok (.iconst 0, 1) := by decide +kernel
theorem dX12_hourGoes_185 : decode cX12_hourGoes 185 = .ok (.iload_n 1, 1) := by decide +kernel
theorem dX12_hourGoes_186 : decode cX12_hourGoes 186 = .ok (.iadd, 1) := by decide +kernel
theorem dX12_hourGoes_187 : decode cX12_hourGoes 187 = .ok (.iaload, 1) := by decide +kernel
theorem dX12_hourGoes_188 : decode cX12_hourGoes 188 = .ok (.aload_n 0, 1) := by decide +kernel
theorem dX12_hourGoes_189 : decode cX12_hourGoes 189 = .ok (.getfield 7, 3) := by decide +kernel
theorem dX12_hourGoes_192 : decode cX12_hourGoes 192 = .ok (.iconst 0, 1) := by decide +kernel
theorem dX12_hourGoes_193 : decode cX12_hourGoes 193 = .ok (.iload_n 2, 1) := by decide +kernel
theorem dX12_hourGoes_194 : decode cX12_hourGoes 194 = .ok (.iadd, 1) := by decide +kernel
theorem dX12_hourGoes_195 : decode cX12_hourGoes 195 = .ok (.iaload, 1) := by decide +kernel
theorem dX12_hourGoes_196 : decode cX12_hourGoes 196 = .ok (.if_icmp .ne 32, 3) := by decide +kernel
theorem dX12_hourGoes_199 : decode cX12_hourGoes 199 = .ok (.aload_n 0, 1) := by decide +kernel
theorem dX12_hourGoes_200 : decode cX12_hourGoes 200 = .ok (.getfield 7, 3) := by decide +kernel
theorem dX12_hourGoes_203 : decode cX12_hourGoes 203 = .ok (.sipush 320, 3) := by decide +kernel
theorem dX12_hourGoes_206 : decode cX12_hourGoes 206 = .ok (.iload_n 1, 1) := by decide +kernel
theorem dX12_hourGoes_207 : decode cX12_hourGoes 207 = .ok (.iadd, 1) := by decide +kernel
theorem dX12_hourGoes_208 : decode cX12_hourGoes 208 = .ok (.iaload, 1) := by decide +kernel
theorem dX12_hourGoes_209 : decode cX12_hourGoes 209 = .ok (.aload_n 0, 1) := by decide +kernel
theorem dX12_hourGoes_210 : decode cX12_hourGoes 210 = .ok (.getfield 7, 3) := by decide +kernel
theorem dX12_hourGoes_213 : decode cX12_hourGoes 213 = .ok (.sipush 320, 3) := by decide +kernel
theorem dX12_hourGoes_216 : decode cX12_hourGoes 216 = .ok (.iload_n 2, 1) := by decide +kernel
theorem dX12_hourGoes_217 : decode cX12_hourGoes 217 = .ok (.iadd, 1) := by decide +kernel
theorem dX12_hourGoes_218 : decode cX12_hourGoes 218 = .ok (.iaload, 1) := by decide +kernel
theorem dX12_hourGoes_219 : decode cX12_hourGoes 219 = .ok (.if_icmp .ne 9, 3) := by decide +kernel
theorem dX12_hourGoes_222 : decode cX12_hourGoes 222 = .ok (.aload_n 0, 1) := by decide +kernel
theorem dX12_hourGoes_223 : decode cX12_hourGoes 223 = .ok (.iload_n 1, 1) := by decide +kernel
theorem dX12_hourGoes_224 : decode cX12_hourGoes 224 = .ok (.iload_n 2, 1) := by decide +kernel
theorem dX12_hourGoes_225 : decode cX12_hourGoes 225 = .ok (.invokevirtual 310, 3) := by decide +kernel
theorem dX12_hourGoes_228 : decode cX12_hourGoes 228 = .ok (.iinc 2 1, 3) := by decide +kernel
theorem dX12_hourGoes_231 : decode cX12_hourGoes 231 = .ok (.goto (-79), 3) := by decide +kernel
theorem dX12_hourGoes_234 : decode cX12_hourGoes 234 = .ok (.iinc 1 1, 3) := by decide +kernel
theorem dX12_hourGoes_237 : decode cX12_hourGoes 237 = .ok (.goto (-101), 3) := by decide +kernel
theorem dX12_hourGoes_240 : decode cX12_hourGoes 240 = .ok (.iconst 0, 1) := by decide +kernel
theorem dX12_hourGoes_241 : decode cX12_hourGoes 241 = .ok (.istore_n 1, 1) := by decide +kernel
theorem dX12_hourGoes_242 : decode cX12_hourGoes 242 = .ok (.iload_n 1, 1) := by decide +kernel
theorem dX12_hourGoes_243 : decode cX12_hourGoes 243 = .ok (.aload_n 0, 1) := by decide +kernel
theorem dX12_hourGoes_244 : decode cX12_hourGoes 244 = .ok (.getfield 7, 3) := by decide +kernel
theorem dX12_hourGoes_247 : decode cX12_hourGoes 247 = .ok (.sipush 833, 3) := by decide +kernel
theorem dX12_hourGoes_250 : decode cX12_hourGoes 250 = .ok (.iaload, 1) := by decide +kernel
theorem dX12_hourGoes_251 : decode cX12_hourGoes 251 = .ok (.if_icmp .ge 31, 3) := by decide +kernel
theorem dX12_hourGoes_254 : decode cX12_hourGoes 254 = .ok (.aload_n 0, 1) := by decide +kernel
theorem dX12_hourGoes_255 : decode cX12_hourGoes 255 = .ok (.iload_n 1, 1) := by decide +kernel
theorem dX12_hourGoes_256 : decode cX12_hourGoes 256 = .ok (.invokevirtual 269, 3) := by decide +kernel
theorem dX12_hourGoes_259 : decode cX12_hourGoes 259 = .ok (.ifCond .eq 17, 3) := by decide +kernel
theorem dX12_hourGoes_262 : decode cX12_hourGoes 262 = .ok (.aload_n 0, 1) := by decide +kernel
theorem dX12_hourGoes_263 : decode cX12_hourGoes 263 = .ok (.getfield 78, 3) := by decide +kernel
theorem dX12_hourGoes_266 : decode cX12_hourGoes 266 = .ok (.iload_n 1, 1) := by decide +kernel
theorem dX12_hourGoes_267 : decode cX12_hourGoes 267 = .ok (.baload, 1) := by decide +kernel
theorem dX12_hourGoes_268 : decode cX12_hourGoes 268 = .ok (.ifCond .eq 8, 3) := by decide +kernel
theorem dX12_hourGoes_271 : decode cX12_hourGoes 271 = .ok (.aload_n 0, 1) := by decide +kernel
theorem dX12_hourGoes_272 : decode cX12_hourGoes 272 = .ok (.iload_n 1, 1) := by decide +kernel
theorem dX12_hourGoes_273 : decode cX12_hourGoes 273 = .ok (.invokevirtual 313, 3) := by decide +kernel
theorem dX12_hourGoes_276 : decode cX12_hourGoes 276 = .ok (.iinc 1 1, 3) := by decide +kernel
theorem dX12_hourGoes_279 : decode cX12_hourGoes 279 = .ok (.goto (-37), 3) := by decide +kernel
theorem dX12_hourGoes_282 : decode cX12_hourGoes 282 = .ok (.iconst 0, 1) := by decide +kernel
theorem dX12_hourGoes_283 : decode cX12_hourGoes 283 = .ok (.istore_n 1, 1) := by decide +kernel
theorem dX12_hourGoes_284 : decode cX12_hourGoes 284 = .ok (.iload_n 1, 1) := by decide +kernel
theorem dX12_hourGoes_285 : decode cX12_hourGoes 285 = .ok (.aload_n 0, 1) := by decide +kernel
theorem dX12_hourGoes_286 : decode cX12_hourGoes 286 = .ok (.getfield 7, 3) := by decide +kernel
theorem dX12_hourGoes_289 : decode cX12_hourGoes 289 = .ok (.sipush 833, 3) := by decide +kernel
theorem dX12_hourGoes_292 : decode cX12_hourGoes 292 = .ok (.iaload, 1) := by decide +kernel
theorem dX12_hourGoes_293 : decode cX12_hourGoes 293 = .ok (.if_icmp .ge 22, 3) := by decide +kernel
theorem dX12_hourGoes_296 : decode cX12_hourGoes 296 = .ok (.aload_n 0, 1) := by decide +kernel
theorem dX12_hourGoes_297 : decode cX12_hourGoes 297 = .ok (.iload_n 1, 1) := by decide +kernel
theorem dX12_hourGoes_298 : decode cX12_hourGoes 298 = .ok (.invokevirtual 269, 3) := by decide +kernel
theorem dX12_hourGoes_301 : decode cX12_hourGoes 301 = .ok (.ifCond .eq 8, 3) := by decide +kernel
theorem dX12_hourGoes_304 : decode cX12_hourGoes 304 = .ok (.aload_n 0, 1) := by decide +kernel
theorem dX12_hourGoes_305 : decode cX12_hourGoes 305 = .ok (.iload_n 1, 1) := by decide +kernel
theorem dX12_hourGoes_306 : decode cX12_hourGoes 306 = .ok (.invokevirtual 316, 3) := by decide +kernel
theorem dX12_hourGoes_309 : decode cX12_hourGoes 309 = .ok (.iinc 1 1, 3) := by decide +kernel
theorem dX12_hourGoes_312 : decode cX12_hourGoes 312 = .ok (.goto (-28), 3) := by decide +kernel
theorem dX12_hourGoes_315 : decode cX12_hourGoes 315 = .ok (.iconst 0, 1) := by decide +kernel
theorem dX12_hourGoes_316 : decode cX12_hourGoes 316 = .ok (.istore_n 1, 1) := by decide +kernel
theorem dX12_hourGoes_317 : decode cX12_hourGoes 317 = .ok (.iload_n 1, 1) := by decide +kernel
theorem dX12_hourGoes_318 : decode cX12_hourGoes 318 = .ok (.aload_n 0, 1) := by decide +kernel
theorem dX12_hourGoes_319 : decode cX12_hourGoes 319 = .ok (.getfield 7, 3) := by decide +kernel
theorem dX12_hourGoes_322 : decode cX12_hourGoes 322 = .ok (.sipush 833, 3) := by decide +kernel
theorem dX12_hourGoes_325 : decode cX12_hourGoes 325 = .ok (.iaload, 1) := by decide +kernel
theorem dX12_hourGoes_326 : decode cX12_hourGoes 326 = .ok (.if_icmp .ge 35, 3) := by decide +kernel
theorem dX12_hourGoes_329 : decode cX12_hourGoes 329 = .ok (.aload_n 0, 1) := by decide +kernel
theorem dX12_hourGoes_330 : decode cX12_hourGoes 330 = .ok (.iload_n 1, 1) := by decide +kernel
theorem dX12_hourGoes_331 : decode cX12_hourGoes 331 = .ok (.invokevirtual 269, 3) := by decide +kernel
theorem dX12_hourGoes_334 : decode cX12_hourGoes 334 = .ok (.ifCond .eq 21, 3) := by decide +kernel
theorem dX12_hourGoes_337 : decode cX12_hourGoes 337 = .ok (.aload_n 0, 1) := by decide +kernel
theorem dX12_hourGoes_338 : decode cX12_hourGoes 338 = .ok (.getfield 7, 3) := by decide +kernel
theorem dX12_hourGoes_341 : decode cX12_hourGoes 341 = .ok (.sipush 512, 3) := by decide +kernel
theorem dX12_hourGoes_344 : decode cX12_hourGoes 344 = .ok (.iload_n 1, 1) := by decide +kernel
theorem dX12_hourGoes_345 : decode cX12_hourGoes 345 = .ok (.iadd, 1) := by decide +kernel
theorem dX12_hourGoes_346 : decode cX12_hourGoes 346 = .ok (.iaload, 1) := by decide +kernel
theorem dX12_hourGoes_347 : decode cX12_hourGoes 347 = .ok (.ifCond .ne 8, 3) := by decide +kernel
theorem dX12_hourGoes_350 : decode cX12_hourGoes 350 = .ok (.aload_n 0, 1) := by decide +kernel
theorem dX12_hourGoes_351 : decode cX12_hourGoes 351 = .ok (.iload_n 1, 1) := by decide +kernel
theorem dX12_hourGoes_352 : decode cX12_hourGoes 352 = .ok (.invokevirtual 319, 3) := by decide +kernel
theorem dX12_hourGoes_355 : decode cX12_hourGoes 355 = .ok (.iinc 1 1, 3) := by decide +kernel
theorem dX12_hourGoes_358 : decode cX12_hourGoes 358 = .ok (.goto (-41), 3) := by decide +kernel
theorem dX12_hourGoes_361 : decode cX12_hourGoes 361 = .ok (.aload_n 0, 1) := by decide +kernel
theorem dX12_hourGoes_362 : decode cX12_hourGoes 362 = .ok (.getfield 7, 3) := by decide +kernel
theorem dX12_hourGoes_365 : decode cX12_hourGoes 365 = .ok (.sipush 832, 3) := by decide +kernel
theorem dX12_hourGoes_368 : decode cX12_hourGoes 368 = .ok (.aload_n 0, 1) := by decide +kernel
theorem dX12_hourGoes_369 : decode cX12_hourGoes 369 = .ok (.getfield 7, 3) := by decide +kernel
theorem dX12_hourGoes_372 : decode cX12_hourGoes 372 = .ok (.sipush 832, 3) := by decide +kernel
theorem dX12_hourGoes_375 : decode cX12_hourGoes 375 = .ok (.iaload, 1) := by decide +kernel
theorem dX12_hourGoes_376 : decode cX12_hourGoes 376 = .ok (.iconst 1, 1) := by decide +kernel
theorem dX12_hourGoes_377 : decode cX12_hourGoes 377 = .ok (.iadd, 1) := by decide +kernel
theorem dX12_hourGoes_378 : decode cX12_hourGoes 378 = .ok (.iastore, 1) := by decide +kernel
theorem dX12_hourGoes_379 : decode cX12_hourGoes 379 = .ok (.return_, 1) := by decide +kernel
theorem rX12_hourGoes : (∀ (d : Nat) (a1 a2 : Value) (x : Nat) (st : List Value) (h : fk_H), fk_ev d qX12_hourGoes 0 [.ref x, a1, a2] st h = fk_ev d qX12_hourGoes 1 [.ref x, a1, a2] (.ref x :: st) h) ∧
  (∀ (d : Nat) (L : List Value)   (N : Nat) (y : Nat → Nat → Int32) (l : Nat → Nat → Int64), fk_ev (d + 1) qX12_hourGoes 1 L (.ref 246 :: []) (fk_E N y l) = (fk_ev d qX12_remembers 0 [.ref 246, .null, .null] [] (fk_E N y l)).bind fun o => fk_ev (d + 1) qX12_hourGoes 4 L (o.1.toList ++ []) o.2) ∧
  (∀ (d : Nat) (L st : List Value) (h : fk_H), fk_ev d qX12_hourGoes 4 L st h = fk_ev d qX12_hourGoes 5 L (.int (nI 0) :: st) h) ∧
  (∀ (d : Nat) (a0 a1 a2 : Value) (x : Int32) (st : List Value) (h : fk_H), fk_ev d qX12_hourGoes 5 [a0, a1, a2] (.int x :: st) h = fk_ev d qX12_hourGoes 6 [a0, .int x, a2] st h) ∧
  (∀ (d : Nat) (L st : List Value) (h : fk_H), fk_ev d qX12_hourGoes 7 L st h = fk_ev d qX12_hourGoes 9 L (.int (nI 64) :: st) h) ∧
  (∀ (d : Nat) (L : List Value) (x y : Int32) (st : List Value) (h : fk_H), fk_ev d qX12_hourGoes 9 L (.int y :: .int x :: st) h = if y ≤ x then fk_ev d qX12_hourGoes 25 L st h else fk_ev d qX12_hourGoes 12 L st h) ∧
  (∀ (d : Nat) (a1 a2 : Value) (x : Nat) (st : List Value) (h : fk_H), fk_ev d qX12_hourGoes 12 [.ref x, a1, a2] st h = fk_ev d qX12_hourGoes 13 [.ref x, a1, a2] (.ref x :: st) h) ∧
  (∀ (d : Nat) (L st : List Value) (N : Nat) (y : Nat → Nat → Int32) (l : Nat → Nat → Int64), fk_ev d qX12_hourGoes 13 L (.ref 246 :: st) (fk_E N y l) = fk_ev d qX12_hourGoes 16 L (.ref 269 :: st) (fk_E N y l)) ∧
  (∀ (d : Nat) (a0 a2 : Value) (x : Int32) (st : List Value) (h : fk_H), fk_ev d qX12_hourGoes 16 [a0, .int x, a2] st h = fk_ev d qX12_hourGoes 17 [a0, .int x, a2] (.int x :: st) h) ∧
  (∀ (d : Nat) (L st : List Value) (h : fk_H), fk_ev d qX12_hourGoes 17 L st h = fk_ev d qX12_hourGoes 18 L (.int (nI 0) :: st) h) ∧
  (∀ (d : Nat) (L st : List Value) (N : Nat) (y : Nat → Nat → Int32) (l : Nat → Nat → Int64) (i : Nat) (v : Int32), i < 64 → fk_ev d qX12_hourGoes 18 L (.int v :: .int (nI i) :: .ref 269 :: st) (fk_E N y l) = fk_ev d qX12_hourGoes 19 L st (fk_E N (fk_u y 269 i (vp_nar .boolean v)) l)) ∧
  (∀ (d : Nat) (a0 a2 : Value) (x : Int32) (st : List Value) (h : fk_H), fk_ev d qX12_hourGoes 19 [a0, .int x, a2] st h = fk_ev d qX12_hourGoes 22 [a0, .int (x + nI 1), a2] st h) ∧
  (∀ (d : Nat) (L st : List Value) (h : fk_H), fk_ev d qX12_hourGoes 22 L st h = fk_ev d qX12_hourGoes 6 L st h) ∧
  (∀ (d : Nat) (L st : List Value) (h : fk_H), fk_ev d qX12_hourGoes 25 L st h = fk_ev d qX12_hourGoes 26 L (.int (nI 0) :: st) h) ∧
  (∀ (d : Nat) (a0 a1 a2 : Value) (x : Int32) (st : List Value) (h : fk_H), fk_ev d qX12_hourGoes 26 [a0, a1, a2] (.int x :: st) h = fk_ev d qX12_hourGoes 27 [a0, .int x, a2] st h) ∧
  (∀ (d : Nat) (a1 a2 : Value) (x : Nat) (st : List Value) (h : fk_H), fk_ev d qX12_hourGoes 28 [.ref x, a1, a2] st h = fk_ev d qX12_hourGoes 29 [.ref x, a1, a2] (.ref x :: st) h) ∧
  (∀ (d : Nat) (L st : List Value) (N : Nat) (y : Nat → Nat → Int32) (l : Nat → Nat → Int64), fk_ev d qX12_hourGoes 29 L (.ref 246 :: st) (fk_E N y l) = fk_ev d qX12_hourGoes 32 L (.ref 247 :: st) (fk_E N y l)) ∧
  (∀ (d : Nat) (L st : List Value) (h : fk_H), fk_ev d qX12_hourGoes 32 L st h = fk_ev d qX12_hourGoes 35 L (.int (nI 833) :: st) h) ∧
  (∀ (d : Nat) (L st : List Value) (N : Nat) (y : Nat → Nat → Int32) (l : Nat → Nat → Int64) (i : Nat), i < 3912 → fk_ev d qX12_hourGoes 35 L (.int (nI i) :: .ref 247 :: st) (fk_E N y l) = fk_ev d qX12_hourGoes 36 L (.int (y 247 i) :: st) (fk_E N y l)) ∧
  (∀ (d : Nat) (L : List Value) (x y : Int32) (st : List Value) (h : fk_H), fk_ev d qX12_hourGoes 36 L (.int y :: .int x :: st) h = if y ≤ x then fk_ev d qX12_hourGoes 88 L st h else fk_ev d qX12_hourGoes 39 L st h) ∧
  (∀ (d : Nat) (a1 a2 : Value) (x : Nat) (st : List Value) (h : fk_H), fk_ev d qX12_hourGoes 39 [.ref x, a1, a2] st h = fk_ev d qX12_hourGoes 40 [.ref x, a1, a2] (.ref x :: st) h) ∧
  (∀ (d : Nat) (a0 a2 : Value) (x : Int32) (st : List Value) (h : fk_H), fk_ev d qX12_hourGoes 40 [a0, .int x, a2] st h = fk_ev d qX12_hourGoes 41 [a0, .int x, a2] (.int x :: st) h) ∧
  (∀ (d : Nat) (L : List Value) (x0 : Int32)  (N : Nat) (y : Nat → Nat → Int32) (l : Nat → Nat → Int64), fk_ev (d + 1) qX12_hourGoes 41 L (.int x0 :: .ref 246 :: []) (fk_E N y l) = (fk_ev d qX12_isAt 0 [.ref 246, .int x0] [] (fk_E N y l)).bind fun o => fk_ev (d + 1) qX12_hourGoes 44 L (o.1.toList ++ []) o.2) ∧
  (∀ (d : Nat) (L : List Value) (x : Int32) (st : List Value) (h : fk_H), fk_ev d qX12_hourGoes 44 L (.int x :: st) h = if x = nI 0 then fk_ev d qX12_hourGoes 82 L st h else fk_ev d qX12_hourGoes 47 L st h) ∧
  (∀ (d : Nat) (a1 a2 : Value) (x : Nat) (st : List Value) (h : fk_H), fk_ev d qX12_hourGoes 47 [.ref x, a1, a2] st h = fk_ev d qX12_hourGoes 48 [.ref x, a1, a2] (.ref x :: st) h) ∧
  (∀ (d : Nat) (L st : List Value) (N : Nat) (y : Nat → Nat → Int32) (l : Nat → Nat → Int64), fk_ev d qX12_hourGoes 48 L (.ref 246 :: st) (fk_E N y l) = fk_ev d qX12_hourGoes 51 L (.ref 247 :: st) (fk_E N y l)) ∧
  (∀ (d : Nat) (L st : List Value) (h : fk_H), fk_ev d qX12_hourGoes 51 L st h = fk_ev d qX12_hourGoes 54 L (.int (nI 512) :: st) h) ∧
  (∀ (d : Nat) (a0 a2 : Value) (x : Int32) (st : List Value) (h : fk_H), fk_ev d qX12_hourGoes 54 [a0, .int x, a2] st h = fk_ev d qX12_hourGoes 55 [a0, .int x, a2] (.int x :: st) h) ∧
  (∀ (d : Nat) (L : List Value) (x y : Int32) (st : List Value) (h : fk_H), fk_ev d qX12_hourGoes 55 L (.int y :: .int x :: st) h = fk_ev d qX12_hourGoes 56 L (.int (x + y) :: st) h) ∧
  (∀ (d : Nat) (L st : List Value) (N : Nat) (y : Nat → Nat → Int32) (l : Nat → Nat → Int64) (i : Nat), i < 3912 → fk_ev d qX12_hourGoes 56 L (.int (nI i) :: .ref 247 :: st) (fk_E N y l) = fk_ev d qX12_hourGoes 57 L (.int (y 247 i) :: st) (fk_E N y l)) ∧
  (∀ (d : Nat) (L : List Value) (x : Int32) (st : List Value) (h : fk_H), fk_ev d qX12_hourGoes 57 L (.int x :: st) h = if x ≤ nI 0 then fk_ev d qX12_hourGoes 82 L st h else fk_ev d qX12_hourGoes 60 L st h) ∧
  (∀ (d : Nat) (a1 a2 : Value) (x : Nat) (st : List Value) (h : fk_H), fk_ev d qX12_hourGoes 60 [.ref x, a1, a2] st h = fk_ev d qX12_hourGoes 61 [.ref x, a1, a2] (.ref x :: st) h) ∧
  (∀ (d : Nat) (L st : List Value) (N : Nat) (y : Nat → Nat → Int32) (l : Nat → Nat → Int64), fk_ev d qX12_hourGoes 61 L (.ref 246 :: st) (fk_E N y l) = fk_ev d qX12_hourGoes 64 L (.ref 247 :: st) (fk_E N y l)) ∧
  (∀ (d : Nat) (L st : List Value) (h : fk_H), fk_ev d qX12_hourGoes 64 L st h = fk_ev d qX12_hourGoes 67 L (.int (nI 512) :: st) h) ∧
  (∀ (d : Nat) (a0 a2 : Value) (x : Int32) (st : List Value) (h : fk_H), fk_ev d qX12_hourGoes 67 [a0, .int x, a2] st h = fk_ev d qX12_hourGoes 68 [a0, .int x, a2] (.int x :: st) h) ∧
  (∀ (d : Nat) (L : List Value) (x y : Int32) (st : List Value) (h : fk_H), fk_ev d qX12_hourGoes 68 L (.int y :: .int x :: st) h = fk_ev d qX12_hourGoes 69 L (.int (x + y) :: st) h) ∧
  (∀ (d : Nat) (a1 a2 : Value) (x : Nat) (st : List Value) (h : fk_H), fk_ev d qX12_hourGoes 69 [.ref x, a1, a2] st h = fk_ev d qX12_hourGoes 70 [.ref x, a1, a2] (.ref x :: st) h) ∧
  (∀ (d : Nat) (L st : List Value) (N : Nat) (y : Nat → Nat → Int32) (l : Nat → Nat → Int64), fk_ev d qX12_hourGoes 70 L (.ref 246 :: st) (fk_E N y l) = fk_ev d qX12_hourGoes 73 L (.ref 247 :: st) (fk_E N y l)) ∧
  (∀ (d : Nat) (L st : List Value) (h : fk_H), fk_ev d qX12_hourGoes 73 L st h = fk_ev d qX12_hourGoes 76 L (.int (nI 512) :: st) h) ∧
  (∀ (d : Nat) (a0 a2 : Value) (x : Int32) (st : List Value) (h : fk_H), fk_ev d qX12_hourGoes 76 [a0, .int x, a2] st h = fk_ev d qX12_hourGoes 77 [a0, .int x, a2] (.int x :: st) h) ∧
  (∀ (d : Nat) (L : List Value) (x y : Int32) (st : List Value) (h : fk_H), fk_ev d qX12_hourGoes 77 L (.int y :: .int x :: st) h = fk_ev d qX12_hourGoes 78 L (.int (x + y) :: st) h) ∧
  (∀ (d : Nat) (L st : List Value) (N : Nat) (y : Nat → Nat → Int32) (l : Nat → Nat → Int64) (i : Nat), i < 3912 → fk_ev d qX12_hourGoes 78 L (.int (nI i) :: .ref 247 :: st) (fk_E N y l) = fk_ev d qX12_hourGoes 79 L (.int (y 247 i) :: st) (fk_E N y l)) ∧
  (∀ (d : Nat) (L st : List Value) (h : fk_H), fk_ev d qX12_hourGoes 79 L st h = fk_ev d qX12_hourGoes 80 L (.int (nI 1) :: st) h) ∧
  (∀ (d : Nat) (L : List Value) (x y : Int32) (st : List Value) (h : fk_H), fk_ev d qX12_hourGoes 80 L (.int y :: .int x :: st) h = fk_ev d qX12_hourGoes 81 L (.int (x - y) :: st) h) ∧
  (∀ (d : Nat) (L st : List Value) (N : Nat) (y : Nat → Nat → Int32) (l : Nat → Nat → Int64) (i : Nat) (v : Int32), i < 3912 → fk_ev d qX12_hourGoes 81 L (.int v :: .int (nI i) :: .ref 247 :: st) (fk_E N y l) = fk_ev d qX12_hourGoes 82 L st (fk_E N (fk_u y 247 i v) l)) ∧
  (∀ (d : Nat) (a0 a2 : Value) (x : Int32) (st : List Value) (h : fk_H), fk_ev d qX12_hourGoes 82 [a0, .int x, a2] st h = fk_ev d qX12_hourGoes 85 [a0, .int (x + nI 1), a2] st h) ∧
  (∀ (d : Nat) (L st : List Value) (h : fk_H), fk_ev d qX12_hourGoes 85 L st h = fk_ev d qX12_hourGoes 27 L st h) ∧
  (∀ (d : Nat) (L st : List Value) (h : fk_H), fk_ev d qX12_hourGoes 88 L st h = fk_ev d qX12_hourGoes 89 L (.int (nI 0) :: st) h) ∧
  (∀ (d : Nat) (a0 a1 a2 : Value) (x : Int32) (st : List Value) (h : fk_H), fk_ev d qX12_hourGoes 89 [a0, a1, a2] (.int x :: st) h = fk_ev d qX12_hourGoes 90 [a0, .int x, a2] st h) ∧
  (∀ (d : Nat) (a1 a2 : Value) (x : Nat) (st : List Value) (h : fk_H), fk_ev d qX12_hourGoes 91 [.ref x, a1, a2] st h = fk_ev d qX12_hourGoes 92 [.ref x, a1, a2] (.ref x :: st) h) ∧
  (∀ (d : Nat) (L st : List Value) (N : Nat) (y : Nat → Nat → Int32) (l : Nat → Nat → Int64), fk_ev d qX12_hourGoes 92 L (.ref 246 :: st) (fk_E N y l) = fk_ev d qX12_hourGoes 95 L (.ref 247 :: st) (fk_E N y l)) ∧
  (∀ (d : Nat) (L st : List Value) (h : fk_H), fk_ev d qX12_hourGoes 95 L st h = fk_ev d qX12_hourGoes 98 L (.int (nI 833) :: st) h) ∧
  (∀ (d : Nat) (L st : List Value) (N : Nat) (y : Nat → Nat → Int32) (l : Nat → Nat → Int64) (i : Nat), i < 3912 → fk_ev d qX12_hourGoes 98 L (.int (nI i) :: .ref 247 :: st) (fk_E N y l) = fk_ev d qX12_hourGoes 99 L (.int (y 247 i) :: st) (fk_E N y l)) ∧
  (∀ (d : Nat) (L : List Value) (x y : Int32) (st : List Value) (h : fk_H), fk_ev d qX12_hourGoes 99 L (.int y :: .int x :: st) h = if y ≤ x then fk_ev d qX12_hourGoes 134 L st h else fk_ev d qX12_hourGoes 102 L st h) ∧
  (∀ (d : Nat) (a1 a2 : Value) (x : Nat) (st : List Value) (h : fk_H), fk_ev d qX12_hourGoes 102 [.ref x, a1, a2] st h = fk_ev d qX12_hourGoes 103 [.ref x, a1, a2] (.ref x :: st) h) ∧
  (∀ (d : Nat) (a0 a2 : Value) (x : Int32) (st : List Value) (h : fk_H), fk_ev d qX12_hourGoes 103 [a0, .int x, a2] st h = fk_ev d qX12_hourGoes 104 [a0, .int x, a2] (.int x :: st) h) ∧
  (∀ (d : Nat) (L : List Value) (x0 : Int32)  (N : Nat) (y : Nat → Nat → Int32) (l : Nat → Nat → Int64), fk_ev (d + 1) qX12_hourGoes 104 L (.int x0 :: .ref 246 :: []) (fk_E N y l) = (fk_ev d qX12_lives 0 [.ref 246, .int x0] [] (fk_E N y l)).bind fun o => fk_ev (d + 1) qX12_hourGoes 107 L (o.1.toList ++ []) o.2) ∧
  (∀ (d : Nat) (L : List Value) (x : Int32) (st : List Value) (h : fk_H), fk_ev d qX12_hourGoes 107 L (.int x :: st) h = if x = nI 0 then fk_ev d qX12_hourGoes 128 L st h else fk_ev d qX12_hourGoes 110 L st h) ∧
  (∀ (d : Nat) (a1 a2 : Value) (x : Nat) (st : List Value) (h : fk_H), fk_ev d qX12_hourGoes 110 [.ref x, a1, a2] st h = fk_ev d qX12_hourGoes 111 [.ref x, a1, a2] (.ref x :: st) h) ∧
  (∀ (d : Nat) (L st : List Value) (N : Nat) (y : Nat → Nat → Int32) (l : Nat → Nat → Int64), fk_ev d qX12_hourGoes 111 L (.ref 246 :: st) (fk_E N y l) = fk_ev d qX12_hourGoes 114 L (.ref 247 :: st) (fk_E N y l)) ∧
  (∀ (d : Nat) (L st : List Value) (h : fk_H), fk_ev d qX12_hourGoes 114 L st h = fk_ev d qX12_hourGoes 117 L (.int (nI 320) :: st) h) ∧
  (∀ (d : Nat) (a0 a2 : Value) (x : Int32) (st : List Value) (h : fk_H), fk_ev d qX12_hourGoes 117 [a0, .int x, a2] st h = fk_ev d qX12_hourGoes 118 [a0, .int x, a2] (.int x :: st) h) ∧
  (∀ (d : Nat) (L : List Value) (x y : Int32) (st : List Value) (h : fk_H), fk_ev d qX12_hourGoes 118 L (.int y :: .int x :: st) h = fk_ev d qX12_hourGoes 119 L (.int (x + y) :: st) h) ∧
  (∀ (d : Nat) (L st : List Value) (N : Nat) (y : Nat → Nat → Int32) (l : Nat → Nat → Int64) (i : Nat), i < 3912 → fk_ev d qX12_hourGoes 119 L (.int (nI i) :: .ref 247 :: st) (fk_E N y l) = fk_ev d qX12_hourGoes 120 L (.int (y 247 i) :: st) (fk_E N y l)) ∧
  (∀ (d : Nat) (L : List Value) (x : Int32) (st : List Value) (h : fk_H), fk_ev d qX12_hourGoes 120 L (.int x :: st) h = if nI 0 ≤ x then fk_ev d qX12_hourGoes 128 L st h else fk_ev d qX12_hourGoes 123 L st h) ∧
  (∀ (d : Nat) (a1 a2 : Value) (x : Nat) (st : List Value) (h : fk_H), fk_ev d qX12_hourGoes 123 [.ref x, a1, a2] st h = fk_ev d qX12_hourGoes 124 [.ref x, a1, a2] (.ref x :: st) h) ∧
  (∀ (d : Nat) (a0 a2 : Value) (x : Int32) (st : List Value) (h : fk_H), fk_ev d qX12_hourGoes 124 [a0, .int x, a2] st h = fk_ev d qX12_hourGoes 125 [a0, .int x, a2] (.int x :: st) h) ∧
  (∀ (d : Nat) (L : List Value) (x0 : Int32)  (N : Nat) (y : Nat → Nat → Int32) (l : Nat → Nat → Int64), fk_ev (d + 1) qX12_hourGoes 125 L (.int x0 :: .ref 246 :: []) (fk_E N y l) = (fk_ev d qX12_goesOn 0 [.ref 246, .int x0] [] (fk_E N y l)).bind fun o => fk_ev (d + 1) qX12_hourGoes 128 L (o.1.toList ++ []) o.2) ∧
  (∀ (d : Nat) (a0 a2 : Value) (x : Int32) (st : List Value) (h : fk_H), fk_ev d qX12_hourGoes 128 [a0, .int x, a2] st h = fk_ev d qX12_hourGoes 131 [a0, .int (x + nI 1), a2] st h) ∧
  (∀ (d : Nat) (L st : List Value) (h : fk_H), fk_ev d qX12_hourGoes 131 L st h = fk_ev d qX12_hourGoes 90 L st h) ∧
  (∀ (d : Nat) (L st : List Value) (h : fk_H), fk_ev d qX12_hourGoes 134 L st h = fk_ev d qX12_hourGoes 135 L (.int (nI 0) :: st) h) ∧
  (∀ (d : Nat) (a0 a1 a2 : Value) (x : Int32) (st : List Value) (h : fk_H), fk_ev d qX12_hourGoes 135 [a0, a1, a2] (.int x :: st) h = fk_ev d qX12_hourGoes 136 [a0, .int x, a2] st h) ∧
  (∀ (d : Nat) (a1 a2 : Value) (x : Nat) (st : List Value) (h : fk_H), fk_ev d qX12_hourGoes 137 [.ref x, a1, a2] st h = fk_ev d qX12_hourGoes 138 [.ref x, a1, a2] (.ref x :: st) h) ∧
  (∀ (d : Nat) (L st : List Value) (N : Nat) (y : Nat → Nat → Int32) (l : Nat → Nat → Int64), fk_ev d qX12_hourGoes 138 L (.ref 246 :: st) (fk_E N y l) = fk_ev d qX12_hourGoes 141 L (.ref 247 :: st) (fk_E N y l)) ∧
  (∀ (d : Nat) (L st : List Value) (h : fk_H), fk_ev d qX12_hourGoes 141 L st h = fk_ev d qX12_hourGoes 144 L (.int (nI 833) :: st) h) ∧
  (∀ (d : Nat) (L st : List Value) (N : Nat) (y : Nat → Nat → Int32) (l : Nat → Nat → Int64) (i : Nat), i < 3912 → fk_ev d qX12_hourGoes 144 L (.int (nI i) :: .ref 247 :: st) (fk_E N y l) = fk_ev d qX12_hourGoes 145 L (.int (y 247 i) :: st) (fk_E N y l)) ∧
  (∀ (d : Nat) (L : List Value) (x y : Int32) (st : List Value) (h : fk_H), fk_ev d qX12_hourGoes 145 L (.int y :: .int x :: st) h = if y ≤ x then fk_ev d qX12_hourGoes 240 L st h else fk_ev d qX12_hourGoes 148 L st h) ∧
  (∀ (d : Nat) (a0 a2 : Value) (x : Int32) (st : List Value) (h : fk_H), fk_ev d qX12_hourGoes 148 [a0, .int x, a2] st h = fk_ev d qX12_hourGoes 149 [a0, .int x, a2] (.int x :: st) h) ∧
  (∀ (d : Nat) (L st : List Value) (h : fk_H), fk_ev d qX12_hourGoes 149 L st h = fk_ev d qX12_hourGoes 150 L (.int (nI 1) :: st) h) ∧
  (∀ (d : Nat) (L : List Value) (x y : Int32) (st : List Value) (h : fk_H), fk_ev d qX12_hourGoes 150 L (.int y :: .int x :: st) h = fk_ev d qX12_hourGoes 151 L (.int (x + y) :: st) h) ∧
  (∀ (d : Nat) (a0 a1 a2 : Value) (x : Int32) (st : List Value) (h : fk_H), fk_ev d qX12_hourGoes 151 [a0, a1, a2] (.int x :: st) h = fk_ev d qX12_hourGoes 152 [a0, a1, .int x] st h) ∧
  (∀ (d : Nat) (a1 a2 : Value) (x : Nat) (st : List Value) (h : fk_H), fk_ev d qX12_hourGoes 153 [.ref x, a1, a2] st h = fk_ev d qX12_hourGoes 154 [.ref x, a1, a2] (.ref x :: st) h) ∧
  (∀ (d : Nat) (L st : List Value) (N : Nat) (y : Nat → Nat → Int32) (l : Nat → Nat → Int64), fk_ev d qX12_hourGoes 154 L (.ref 246 :: st) (fk_E N y l) = fk_ev d qX12_hourGoes 157 L (.ref 247 :: st) (fk_E N y l)) ∧
  (∀ (d : Nat) (L st : List Value) (h : fk_H), fk_ev d qX12_hourGoes 157 L st h = fk_ev d qX12_hourGoes 160 L (.int (nI 833) :: st) h) ∧
  (∀ (d : Nat) (L st : List Value) (N : Nat) (y : Nat → Nat → Int32) (l : Nat → Nat → Int64) (i : Nat), i < 3912 → fk_ev d qX12_hourGoes 160 L (.int (nI i) :: .ref 247 :: st) (fk_E N y l) = fk_ev d qX12_hourGoes 161 L (.int (y 247 i) :: st) (fk_E N y l)) ∧
  (∀ (d : Nat) (L : List Value) (x y : Int32) (st : List Value) (h : fk_H), fk_ev d qX12_hourGoes 161 L (.int y :: .int x :: st) h = if y ≤ x then fk_ev d qX12_hourGoes 234 L st h else fk_ev d qX12_hourGoes 164 L st h) ∧
  (∀ (d : Nat) (a1 a2 : Value) (x : Nat) (st : List Value) (h : fk_H), fk_ev d qX12_hourGoes 164 [.ref x, a1, a2] st h = fk_ev d qX12_hourGoes 165 [.ref x, a1, a2] (.ref x :: st) h) ∧
  (∀ (d : Nat) (a0 a2 : Value) (x : Int32) (st : List Value) (h : fk_H), fk_ev d qX12_hourGoes 165 [a0, .int x, a2] st h = fk_ev d qX12_hourGoes 166 [a0, .int x, a2] (.int x :: st) h) ∧
  (∀ (d : Nat) (L : List Value) (x0 : Int32)  (N : Nat) (y : Nat → Nat → Int32) (l : Nat → Nat → Int64), fk_ev (d + 1) qX12_hourGoes 166 L (.int x0 :: .ref 246 :: []) (fk_E N y l) = (fk_ev d qX12_isAt 0 [.ref 246, .int x0] [] (fk_E N y l)).bind fun o => fk_ev (d + 1) qX12_hourGoes 169 L (o.1.toList ++ []) o.2) ∧
  (∀ (d : Nat) (L : List Value) (x : Int32) (st : List Value) (h : fk_H), fk_ev d qX12_hourGoes 169 L (.int x :: st) h = if x = nI 0 then fk_ev d qX12_hourGoes 228 L st h else fk_ev d qX12_hourGoes 172 L st h) ∧
  (∀ (d : Nat) (a1 a2 : Value) (x : Nat) (st : List Value) (h : fk_H), fk_ev d qX12_hourGoes 172 [.ref x, a1, a2] st h = fk_ev d qX12_hourGoes 173 [.ref x, a1, a2] (.ref x :: st) h) ∧
  (∀ (d : Nat) (a0 a1 : Value) (x : Int32) (st : List Value) (h : fk_H), fk_ev d qX12_hourGoes 173 [a0, a1, .int x] st h = fk_ev d qX12_hourGoes 174 [a0, a1, .int x] (.int x :: st) h) ∧
  (∀ (d : Nat) (L : List Value) (x0 : Int32)  (N : Nat) (y : Nat → Nat → Int32) (l : Nat → Nat → Int64), fk_ev (d + 1) qX12_hourGoes 174 L (.int x0 :: .ref 246 :: []) (fk_E N y l) = (fk_ev d qX12_isAt 0 [.ref 246, .int x0] [] (fk_E N y l)).bind fun o => fk_ev (d + 1) qX12_hourGoes 177 L (o.1.toList ++ []) o.2) ∧
  (∀ (d : Nat) (L : List Value) (x : Int32) (st : List Value) (h : fk_H), fk_ev d qX12_hourGoes 177 L (.int x :: st) h = if x = nI 0 then fk_ev d qX12_hourGoes 228 L st h else fk_ev d qX12_hourGoes 180 L st h) ∧
  (∀ (d : Nat) (a1 a2 : Value) (x : Nat) (st : List Value) (h : fk_H), fk_ev d qX12_hourGoes 180 [.ref x, a1, a2] st h = fk_ev d qX12_hourGoes 181 [.ref x, a1, a2] (.ref x :: st) h) ∧
  (∀ (d : Nat) (L st : List Value) (N : Nat) (y : Nat → Nat → Int32) (l : Nat → Nat → Int64), fk_ev d qX12_hourGoes 181 L (.ref 246 :: st) (fk_E N y l) = fk_ev d qX12_hourGoes 184 L (.ref 247 :: st) (fk_E N y l)) ∧
  (∀ (d : Nat) (L st : List Value) (h : fk_H), fk_ev d qX12_hourGoes 184 L st h = fk_ev d qX12_hourGoes 185 L (.int (nI 0) :: st) h) ∧
  (∀ (d : Nat) (a0 a2 : Value) (x : Int32) (st : List Value) (h : fk_H), fk_ev d qX12_hourGoes 185 [a0, .int x, a2] st h = fk_ev d qX12_hourGoes 186 [a0, .int x, a2] (.int x :: st) h) ∧
  (∀ (d : Nat) (L : List Value) (x y : Int32) (st : List Value) (h : fk_H), fk_ev d qX12_hourGoes 186 L (.int y :: .int x :: st) h = fk_ev d qX12_hourGoes 187 L (.int (x + y) :: st) h) ∧
  (∀ (d : Nat) (L st : List Value) (N : Nat) (y : Nat → Nat → Int32) (l : Nat → Nat → Int64) (i : Nat), i < 3912 → fk_ev d qX12_hourGoes 187 L (.int (nI i) :: .ref 247 :: st) (fk_E N y l) = fk_ev d qX12_hourGoes 188 L (.int (y 247 i) :: st) (fk_E N y l)) ∧
  (∀ (d : Nat) (a1 a2 : Value) (x : Nat) (st : List Value) (h : fk_H), fk_ev d qX12_hourGoes 188 [.ref x, a1, a2] st h = fk_ev d qX12_hourGoes 189 [.ref x, a1, a2] (.ref x :: st) h) ∧
  (∀ (d : Nat) (L st : List Value) (N : Nat) (y : Nat → Nat → Int32) (l : Nat → Nat → Int64), fk_ev d qX12_hourGoes 189 L (.ref 246 :: st) (fk_E N y l) = fk_ev d qX12_hourGoes 192 L (.ref 247 :: st) (fk_E N y l)) ∧
  (∀ (d : Nat) (L st : List Value) (h : fk_H), fk_ev d qX12_hourGoes 192 L st h = fk_ev d qX12_hourGoes 193 L (.int (nI 0) :: st) h) ∧
  (∀ (d : Nat) (a0 a1 : Value) (x : Int32) (st : List Value) (h : fk_H), fk_ev d qX12_hourGoes 193 [a0, a1, .int x] st h = fk_ev d qX12_hourGoes 194 [a0, a1, .int x] (.int x :: st) h) ∧
  (∀ (d : Nat) (L : List Value) (x y : Int32) (st : List Value) (h : fk_H), fk_ev d qX12_hourGoes 194 L (.int y :: .int x :: st) h = fk_ev d qX12_hourGoes 195 L (.int (x + y) :: st) h) ∧
  (∀ (d : Nat) (L st : List Value) (N : Nat) (y : Nat → Nat → Int32) (l : Nat → Nat → Int64) (i : Nat), i < 3912 → fk_ev d qX12_hourGoes 195 L (.int (nI i) :: .ref 247 :: st) (fk_E N y l) = fk_ev d qX12_hourGoes 196 L (.int (y 247 i) :: st) (fk_E N y l)) ∧
  (∀ (d : Nat) (L : List Value) (x y : Int32) (st : List Value) (h : fk_H), fk_ev d qX12_hourGoes 196 L (.int y :: .int x :: st) h = if ¬ x = y then fk_ev d qX12_hourGoes 228 L st h else fk_ev d qX12_hourGoes 199 L st h) ∧
  (∀ (d : Nat) (a1 a2 : Value) (x : Nat) (st : List Value) (h : fk_H), fk_ev d qX12_hourGoes 199 [.ref x, a1, a2] st h = fk_ev d qX12_hourGoes 200 [.ref x, a1, a2] (.ref x :: st) h) ∧
  (∀ (d : Nat) (L st : List Value) (N : Nat) (y : Nat → Nat → Int32) (l : Nat → Nat → Int64), fk_ev d qX12_hourGoes 200 L (.ref 246 :: st) (fk_E N y l) = fk_ev d qX12_hourGoes 203 L (.ref 247 :: st) (fk_E N y l)) ∧
  (∀ (d : Nat) (L st : List Value) (h : fk_H), fk_ev d qX12_hourGoes 203 L st h = fk_ev d qX12_hourGoes 206 L (.int (nI 320) :: st) h) ∧
  (∀ (d : Nat) (a0 a2 : Value) (x : Int32) (st : List Value) (h : fk_H), fk_ev d qX12_hourGoes 206 [a0, .int x, a2] st h = fk_ev d qX12_hourGoes 207 [a0, .int x, a2] (.int x :: st) h) ∧
  (∀ (d : Nat) (L : List Value) (x y : Int32) (st : List Value) (h : fk_H), fk_ev d qX12_hourGoes 207 L (.int y :: .int x :: st) h = fk_ev d qX12_hourGoes 208 L (.int (x + y) :: st) h) ∧
  (∀ (d : Nat) (L st : List Value) (N : Nat) (y : Nat → Nat → Int32) (l : Nat → Nat → Int64) (i : Nat), i < 3912 → fk_ev d qX12_hourGoes 208 L (.int (nI i) :: .ref 247 :: st) (fk_E N y l) = fk_ev d qX12_hourGoes 209 L (.int (y 247 i) :: st) (fk_E N y l)) ∧
  (∀ (d : Nat) (a1 a2 : Value) (x : Nat) (st : List Value) (h : fk_H), fk_ev d qX12_hourGoes 209 [.ref x, a1, a2] st h = fk_ev d qX12_hourGoes 210 [.ref x, a1, a2] (.ref x :: st) h) ∧
  (∀ (d : Nat) (L st : List Value) (N : Nat) (y : Nat → Nat → Int32) (l : Nat → Nat → Int64), fk_ev d qX12_hourGoes 210 L (.ref 246 :: st) (fk_E N y l) = fk_ev d qX12_hourGoes 213 L (.ref 247 :: st) (fk_E N y l)) ∧
  (∀ (d : Nat) (L st : List Value) (h : fk_H), fk_ev d qX12_hourGoes 213 L st h = fk_ev d qX12_hourGoes 216 L (.int (nI 320) :: st) h) ∧
  (∀ (d : Nat) (a0 a1 : Value) (x : Int32) (st : List Value) (h : fk_H), fk_ev d qX12_hourGoes 216 [a0, a1, .int x] st h = fk_ev d qX12_hourGoes 217 [a0, a1, .int x] (.int x :: st) h) ∧
  (∀ (d : Nat) (L : List Value) (x y : Int32) (st : List Value) (h : fk_H), fk_ev d qX12_hourGoes 217 L (.int y :: .int x :: st) h = fk_ev d qX12_hourGoes 218 L (.int (x + y) :: st) h) ∧
  (∀ (d : Nat) (L st : List Value) (N : Nat) (y : Nat → Nat → Int32) (l : Nat → Nat → Int64) (i : Nat), i < 3912 → fk_ev d qX12_hourGoes 218 L (.int (nI i) :: .ref 247 :: st) (fk_E N y l) = fk_ev d qX12_hourGoes 219 L (.int (y 247 i) :: st) (fk_E N y l)) ∧
  (∀ (d : Nat) (L : List Value) (x y : Int32) (st : List Value) (h : fk_H), fk_ev d qX12_hourGoes 219 L (.int y :: .int x :: st) h = if ¬ x = y then fk_ev d qX12_hourGoes 228 L st h else fk_ev d qX12_hourGoes 222 L st h) ∧
  (∀ (d : Nat) (a1 a2 : Value) (x : Nat) (st : List Value) (h : fk_H), fk_ev d qX12_hourGoes 222 [.ref x, a1, a2] st h = fk_ev d qX12_hourGoes 223 [.ref x, a1, a2] (.ref x :: st) h) ∧
  (∀ (d : Nat) (a0 a2 : Value) (x : Int32) (st : List Value) (h : fk_H), fk_ev d qX12_hourGoes 223 [a0, .int x, a2] st h = fk_ev d qX12_hourGoes 224 [a0, .int x, a2] (.int x :: st) h) ∧
  (∀ (d : Nat) (a0 a1 : Value) (x : Int32) (st : List Value) (h : fk_H), fk_ev d qX12_hourGoes 224 [a0, a1, .int x] st h = fk_ev d qX12_hourGoes 225 [a0, a1, .int x] (.int x :: st) h) ∧
  (∀ (d : Nat) (L : List Value) (x0 : Int32) (x1 : Int32)  (N : Nat) (y : Nat → Nat → Int32) (l : Nat → Nat → Int64), fk_ev (d + 1) qX12_hourGoes 225 L (.int x1 :: .int x0 :: .ref 246 :: []) (fk_E N y l) = (fk_ev d qX12_merges 0 [.ref 246, .int x0, .int x1, .null, .null, .null] [] (fk_E N y l)).bind fun o => fk_ev (d + 1) qX12_hourGoes 228 L (o.1.toList ++ []) o.2) ∧
  (∀ (d : Nat) (a0 a1 : Value) (x : Int32) (st : List Value) (h : fk_H), fk_ev d qX12_hourGoes 228 [a0, a1, .int x] st h = fk_ev d qX12_hourGoes 231 [a0, a1, .int (x + nI 1)] st h) ∧
  (∀ (d : Nat) (L st : List Value) (h : fk_H), fk_ev d qX12_hourGoes 231 L st h = fk_ev d qX12_hourGoes 152 L st h) ∧
  (∀ (d : Nat) (a0 a2 : Value) (x : Int32) (st : List Value) (h : fk_H), fk_ev d qX12_hourGoes 234 [a0, .int x, a2] st h = fk_ev d qX12_hourGoes 237 [a0, .int (x + nI 1), a2] st h) ∧
  (∀ (d : Nat) (L st : List Value) (h : fk_H), fk_ev d qX12_hourGoes 237 L st h = fk_ev d qX12_hourGoes 136 L st h) ∧
  (∀ (d : Nat) (L st : List Value) (h : fk_H), fk_ev d qX12_hourGoes 240 L st h = fk_ev d qX12_hourGoes 241 L (.int (nI 0) :: st) h) ∧
  (∀ (d : Nat) (a0 a1 a2 : Value) (x : Int32) (st : List Value) (h : fk_H), fk_ev d qX12_hourGoes 241 [a0, a1, a2] (.int x :: st) h = fk_ev d qX12_hourGoes 242 [a0, .int x, a2] st h) ∧
  (∀ (d : Nat) (a1 a2 : Value) (x : Nat) (st : List Value) (h : fk_H), fk_ev d qX12_hourGoes 243 [.ref x, a1, a2] st h = fk_ev d qX12_hourGoes 244 [.ref x, a1, a2] (.ref x :: st) h) ∧
  (∀ (d : Nat) (L st : List Value) (N : Nat) (y : Nat → Nat → Int32) (l : Nat → Nat → Int64), fk_ev d qX12_hourGoes 244 L (.ref 246 :: st) (fk_E N y l) = fk_ev d qX12_hourGoes 247 L (.ref 247 :: st) (fk_E N y l)) ∧
  (∀ (d : Nat) (L st : List Value) (h : fk_H), fk_ev d qX12_hourGoes 247 L st h = fk_ev d qX12_hourGoes 250 L (.int (nI 833) :: st) h) ∧
  (∀ (d : Nat) (L st : List Value) (N : Nat) (y : Nat → Nat → Int32) (l : Nat → Nat → Int64) (i : Nat), i < 3912 → fk_ev d qX12_hourGoes 250 L (.int (nI i) :: .ref 247 :: st) (fk_E N y l) = fk_ev d qX12_hourGoes 251 L (.int (y 247 i) :: st) (fk_E N y l)) ∧
  (∀ (d : Nat) (L : List Value) (x y : Int32) (st : List Value) (h : fk_H), fk_ev d qX12_hourGoes 251 L (.int y :: .int x :: st) h = if y ≤ x then fk_ev d qX12_hourGoes 282 L st h else fk_ev d qX12_hourGoes 254 L st h) ∧
  (∀ (d : Nat) (a1 a2 : Value) (x : Nat) (st : List Value) (h : fk_H), fk_ev d qX12_hourGoes 254 [.ref x, a1, a2] st h = fk_ev d qX12_hourGoes 255 [.ref x, a1, a2] (.ref x :: st) h) ∧
  (∀ (d : Nat) (a0 a2 : Value) (x : Int32) (st : List Value) (h : fk_H), fk_ev d qX12_hourGoes 255 [a0, .int x, a2] st h = fk_ev d qX12_hourGoes 256 [a0, .int x, a2] (.int x :: st) h) ∧
  (∀ (d : Nat) (L : List Value) (x0 : Int32)  (N : Nat) (y : Nat → Nat → Int32) (l : Nat → Nat → Int64), fk_ev (d + 1) qX12_hourGoes 256 L (.int x0 :: .ref 246 :: []) (fk_E N y l) = (fk_ev d qX12_isAt 0 [.ref 246, .int x0] [] (fk_E N y l)).bind fun o => fk_ev (d + 1) qX12_hourGoes 259 L (o.1.toList ++ []) o.2) ∧
  (∀ (d : Nat) (L : List Value) (x : Int32) (st : List Value) (h : fk_H), fk_ev d qX12_hourGoes 259 L (.int x :: st) h = if x = nI 0 then fk_ev d qX12_hourGoes 276 L st h else fk_ev d qX12_hourGoes 262 L st h) ∧
  (∀ (d : Nat) (a1 a2 : Value) (x : Nat) (st : List Value) (h : fk_H), fk_ev d qX12_hourGoes 262 [.ref x, a1, a2] st h = fk_ev d qX12_hourGoes 263 [.ref x, a1, a2] (.ref x :: st) h) ∧
  (∀ (d : Nat) (L st : List Value) (N : Nat) (y : Nat → Nat → Int32) (l : Nat → Nat → Int64), fk_ev d qX12_hourGoes 263 L (.ref 246 :: st) (fk_E N y l) = fk_ev d qX12_hourGoes 266 L (.ref 269 :: st) (fk_E N y l)) ∧
  (∀ (d : Nat) (a0 a2 : Value) (x : Int32) (st : List Value) (h : fk_H), fk_ev d qX12_hourGoes 266 [a0, .int x, a2] st h = fk_ev d qX12_hourGoes 267 [a0, .int x, a2] (.int x :: st) h) ∧
  (∀ (d : Nat) (L st : List Value) (N : Nat) (y : Nat → Nat → Int32) (l : Nat → Nat → Int64) (i : Nat), i < 64 → fk_ev d qX12_hourGoes 267 L (.int (nI i) :: .ref 269 :: st) (fk_E N y l) = fk_ev d qX12_hourGoes 268 L (.int (y 269 i) :: st) (fk_E N y l)) ∧
  (∀ (d : Nat) (L : List Value) (x : Int32) (st : List Value) (h : fk_H), fk_ev d qX12_hourGoes 268 L (.int x :: st) h = if x = nI 0 then fk_ev d qX12_hourGoes 276 L st h else fk_ev d qX12_hourGoes 271 L st h) ∧
  (∀ (d : Nat) (a1 a2 : Value) (x : Nat) (st : List Value) (h : fk_H), fk_ev d qX12_hourGoes 271 [.ref x, a1, a2] st h = fk_ev d qX12_hourGoes 272 [.ref x, a1, a2] (.ref x :: st) h) ∧
  (∀ (d : Nat) (a0 a2 : Value) (x : Int32) (st : List Value) (h : fk_H), fk_ev d qX12_hourGoes 272 [a0, .int x, a2] st h = fk_ev d qX12_hourGoes 273 [a0, .int x, a2] (.int x :: st) h) ∧
  (∀ (d : Nat) (L : List Value) (x0 : Int32)  (N : Nat) (y : Nat → Nat → Int32) (l : Nat → Nat → Int64), fk_ev (d + 1) qX12_hourGoes 273 L (.int x0 :: .ref 246 :: []) (fk_E N y l) = (fk_ev d qX12_arrives 0 [.ref 246, .int x0, .null] [] (fk_E N y l)).bind fun o => fk_ev (d + 1) qX12_hourGoes 276 L (o.1.toList ++ []) o.2) ∧
  (∀ (d : Nat) (a0 a2 : Value) (x : Int32) (st : List Value) (h : fk_H), fk_ev d qX12_hourGoes 276 [a0, .int x, a2] st h = fk_ev d qX12_hourGoes 279 [a0, .int (x + nI 1), a2] st h) ∧
  (∀ (d : Nat) (L st : List Value) (h : fk_H), fk_ev d qX12_hourGoes 279 L st h = fk_ev d qX12_hourGoes 242 L st h) ∧
  (∀ (d : Nat) (L st : List Value) (h : fk_H), fk_ev d qX12_hourGoes 282 L st h = fk_ev d qX12_hourGoes 283 L (.int (nI 0) :: st) h) ∧
  (∀ (d : Nat) (a0 a1 a2 : Value) (x : Int32) (st : List Value) (h : fk_H), fk_ev d qX12_hourGoes 283 [a0, a1, a2] (.int x :: st) h = fk_ev d qX12_hourGoes 284 [a0, .int x, a2] st h) ∧
  (∀ (d : Nat) (a1 a2 : Value) (x : Nat) (st : List Value) (h : fk_H), fk_ev d qX12_hourGoes 285 [.ref x, a1, a2] st h = fk_ev d qX12_hourGoes 286 [.ref x, a1, a2] (.ref x :: st) h) ∧
  (∀ (d : Nat) (L st : List Value) (N : Nat) (y : Nat → Nat → Int32) (l : Nat → Nat → Int64), fk_ev d qX12_hourGoes 286 L (.ref 246 :: st) (fk_E N y l) = fk_ev d qX12_hourGoes 289 L (.ref 247 :: st) (fk_E N y l)) ∧
  (∀ (d : Nat) (L st : List Value) (h : fk_H), fk_ev d qX12_hourGoes 289 L st h = fk_ev d qX12_hourGoes 292 L (.int (nI 833) :: st) h) ∧
  (∀ (d : Nat) (L st : List Value) (N : Nat) (y : Nat → Nat → Int32) (l : Nat → Nat → Int64) (i : Nat), i < 3912 → fk_ev d qX12_hourGoes 292 L (.int (nI i) :: .ref 247 :: st) (fk_E N y l) = fk_ev d qX12_hourGoes 293 L (.int (y 247 i) :: st) (fk_E N y l)) ∧
  (∀ (d : Nat) (L : List Value) (x y : Int32) (st : List Value) (h : fk_H), fk_ev d qX12_hourGoes 293 L (.int y :: .int x :: st) h = if y ≤ x then fk_ev d qX12_hourGoes 315 L st h else fk_ev d qX12_hourGoes 296 L st h) ∧
  (∀ (d : Nat) (a1 a2 : Value) (x : Nat) (st : List Value) (h : fk_H), fk_ev d qX12_hourGoes 296 [.ref x, a1, a2] st h = fk_ev d qX12_hourGoes 297 [.ref x, a1, a2] (.ref x :: st) h) ∧
  (∀ (d : Nat) (a0 a2 : Value) (x : Int32) (st : List Value) (h : fk_H), fk_ev d qX12_hourGoes 297 [a0, .int x, a2] st h = fk_ev d qX12_hourGoes 298 [a0, .int x, a2] (.int x :: st) h) ∧
  (∀ (d : Nat) (L : List Value) (x0 : Int32)  (N : Nat) (y : Nat → Nat → Int32) (l : Nat → Nat → Int64), fk_ev (d + 1) qX12_hourGoes 298 L (.int x0 :: .ref 246 :: []) (fk_E N y l) = (fk_ev d qX12_isAt 0 [.ref 246, .int x0] [] (fk_E N y l)).bind fun o => fk_ev (d + 1) qX12_hourGoes 301 L (o.1.toList ++ []) o.2) ∧
  (∀ (d : Nat) (L : List Value) (x : Int32) (st : List Value) (h : fk_H), fk_ev d qX12_hourGoes 301 L (.int x :: st) h = if x = nI 0 then fk_ev d qX12_hourGoes 309 L st h else fk_ev d qX12_hourGoes 304 L st h) ∧
  (∀ (d : Nat) (a1 a2 : Value) (x : Nat) (st : List Value) (h : fk_H), fk_ev d qX12_hourGoes 304 [.ref x, a1, a2] st h = fk_ev d qX12_hourGoes 305 [.ref x, a1, a2] (.ref x :: st) h) ∧
  (∀ (d : Nat) (a0 a2 : Value) (x : Int32) (st : List Value) (h : fk_H), fk_ev d qX12_hourGoes 305 [a0, .int x, a2] st h = fk_ev d qX12_hourGoes 306 [a0, .int x, a2] (.int x :: st) h) ∧
  (∀ (d : Nat) (L : List Value) (x0 : Int32)  (N : Nat) (y : Nat → Nat → Int32) (l : Nat → Nat → Int64), fk_ev (d + 1) qX12_hourGoes 306 L (.int x0 :: .ref 246 :: []) (fk_E N y l) = (fk_ev d qX12_mayDie 0 [.ref 246, .int x0, .null] [] (fk_E N y l)).bind fun o => fk_ev (d + 1) qX12_hourGoes 309 L (o.1.toList ++ []) o.2) ∧
  (∀ (d : Nat) (a0 a2 : Value) (x : Int32) (st : List Value) (h : fk_H), fk_ev d qX12_hourGoes 309 [a0, .int x, a2] st h = fk_ev d qX12_hourGoes 312 [a0, .int (x + nI 1), a2] st h) ∧
  (∀ (d : Nat) (L st : List Value) (h : fk_H), fk_ev d qX12_hourGoes 312 L st h = fk_ev d qX12_hourGoes 284 L st h) ∧
  (∀ (d : Nat) (L st : List Value) (h : fk_H), fk_ev d qX12_hourGoes 315 L st h = fk_ev d qX12_hourGoes 316 L (.int (nI 0) :: st) h) ∧
  (∀ (d : Nat) (a0 a1 a2 : Value) (x : Int32) (st : List Value) (h : fk_H), fk_ev d qX12_hourGoes 316 [a0, a1, a2] (.int x :: st) h = fk_ev d qX12_hourGoes 317 [a0, .int x, a2] st h) ∧
  (∀ (d : Nat) (a1 a2 : Value) (x : Nat) (st : List Value) (h : fk_H), fk_ev d qX12_hourGoes 318 [.ref x, a1, a2] st h = fk_ev d qX12_hourGoes 319 [.ref x, a1, a2] (.ref x :: st) h) ∧
  (∀ (d : Nat) (L st : List Value) (N : Nat) (y : Nat → Nat → Int32) (l : Nat → Nat → Int64), fk_ev d qX12_hourGoes 319 L (.ref 246 :: st) (fk_E N y l) = fk_ev d qX12_hourGoes 322 L (.ref 247 :: st) (fk_E N y l)) ∧
  (∀ (d : Nat) (L st : List Value) (h : fk_H), fk_ev d qX12_hourGoes 322 L st h = fk_ev d qX12_hourGoes 325 L (.int (nI 833) :: st) h) ∧
  (∀ (d : Nat) (L st : List Value) (N : Nat) (y : Nat → Nat → Int32) (l : Nat → Nat → Int64) (i : Nat), i < 3912 → fk_ev d qX12_hourGoes 325 L (.int (nI i) :: .ref 247 :: st) (fk_E N y l) = fk_ev d qX12_hourGoes 326 L (.int (y 247 i) :: st) (fk_E N y l)) ∧
  (∀ (d : Nat) (L : List Value) (x y : Int32) (st : List Value) (h : fk_H), fk_ev d qX12_hourGoes 326 L (.int y :: .int x :: st) h = if y ≤ x then fk_ev d qX12_hourGoes 361 L st h else fk_ev d qX12_hourGoes 329 L st h) ∧
  (∀ (d : Nat) (a1 a2 : Value) (x : Nat) (st : List Value) (h : fk_H), fk_ev d qX12_hourGoes 329 [.ref x, a1, a2] st h = fk_ev d qX12_hourGoes 330 [.ref x, a1, a2] (.ref x :: st) h) ∧
  (∀ (d : Nat) (a0 a2 : Value) (x : Int32) (st : List Value) (h : fk_H), fk_ev d qX12_hourGoes 330 [a0, .int x, a2] st h = fk_ev d qX12_hourGoes 331 [a0, .int x, a2] (.int x :: st) h) ∧
  (∀ (d : Nat) (L : List Value) (x0 : Int32)  (N : Nat) (y : Nat → Nat → Int32) (l : Nat → Nat → Int64), fk_ev (d + 1) qX12_hourGoes 331 L (.int x0 :: .ref 246 :: []) (fk_E N y l) = (fk_ev d qX12_isAt 0 [.ref 246, .int x0] [] (fk_E N y l)).bind fun o => fk_ev (d + 1) qX12_hourGoes 334 L (o.1.toList ++ []) o.2) ∧
  (∀ (d : Nat) (L : List Value) (x : Int32) (st : List Value) (h : fk_H), fk_ev d qX12_hourGoes 334 L (.int x :: st) h = if x = nI 0 then fk_ev d qX12_hourGoes 355 L st h else fk_ev d qX12_hourGoes 337 L st h) ∧
  (∀ (d : Nat) (a1 a2 : Value) (x : Nat) (st : List Value) (h : fk_H), fk_ev d qX12_hourGoes 337 [.ref x, a1, a2] st h = fk_ev d qX12_hourGoes 338 [.ref x, a1, a2] (.ref x :: st) h) ∧
  (∀ (d : Nat) (L st : List Value) (N : Nat) (y : Nat → Nat → Int32) (l : Nat → Nat → Int64), fk_ev d qX12_hourGoes 338 L (.ref 246 :: st) (fk_E N y l) = fk_ev d qX12_hourGoes 341 L (.ref 247 :: st) (fk_E N y l)) ∧
  (∀ (d : Nat) (L st : List Value) (h : fk_H), fk_ev d qX12_hourGoes 341 L st h = fk_ev d qX12_hourGoes 344 L (.int (nI 512) :: st) h) ∧
  (∀ (d : Nat) (a0 a2 : Value) (x : Int32) (st : List Value) (h : fk_H), fk_ev d qX12_hourGoes 344 [a0, .int x, a2] st h = fk_ev d qX12_hourGoes 345 [a0, .int x, a2] (.int x :: st) h) ∧
  (∀ (d : Nat) (L : List Value) (x y : Int32) (st : List Value) (h : fk_H), fk_ev d qX12_hourGoes 345 L (.int y :: .int x :: st) h = fk_ev d qX12_hourGoes 346 L (.int (x + y) :: st) h) ∧
  (∀ (d : Nat) (L st : List Value) (N : Nat) (y : Nat → Nat → Int32) (l : Nat → Nat → Int64) (i : Nat), i < 3912 → fk_ev d qX12_hourGoes 346 L (.int (nI i) :: .ref 247 :: st) (fk_E N y l) = fk_ev d qX12_hourGoes 347 L (.int (y 247 i) :: st) (fk_E N y l)) ∧
  (∀ (d : Nat) (L : List Value) (x : Int32) (st : List Value) (h : fk_H), fk_ev d qX12_hourGoes 347 L (.int x :: st) h = if ¬ x = nI 0 then fk_ev d qX12_hourGoes 355 L st h else fk_ev d qX12_hourGoes 350 L st h) ∧
  (∀ (d : Nat) (a1 a2 : Value) (x : Nat) (st : List Value) (h : fk_H), fk_ev d qX12_hourGoes 350 [.ref x, a1, a2] st h = fk_ev d qX12_hourGoes 351 [.ref x, a1, a2] (.ref x :: st) h) ∧
  (∀ (d : Nat) (a0 a2 : Value) (x : Int32) (st : List Value) (h : fk_H), fk_ev d qX12_hourGoes 351 [a0, .int x, a2] st h = fk_ev d qX12_hourGoes 352 [a0, .int x, a2] (.int x :: st) h) ∧
  (∀ (d : Nat) (L : List Value) (x0 : Int32)  (N : Nat) (y : Nat → Nat → Int32) (l : Nat → Nat → Int64), fk_ev (d + 1) qX12_hourGoes 352 L (.int x0 :: .ref 246 :: []) (fk_E N y l) = (fk_ev d qX12_leaves 0 [.ref 246, .int x0, .null, .null, .null, .null, .null] [] (fk_E N y l)).bind fun o => fk_ev (d + 1) qX12_hourGoes 355 L (o.1.toList ++ []) o.2) ∧
  (∀ (d : Nat) (a0 a2 : Value) (x : Int32) (st : List Value) (h : fk_H), fk_ev d qX12_hourGoes 355 [a0, .int x, a2] st h = fk_ev d qX12_hourGoes 358 [a0, .int (x + nI 1), a2] st h) ∧
  (∀ (d : Nat) (L st : List Value) (h : fk_H), fk_ev d qX12_hourGoes 358 L st h = fk_ev d qX12_hourGoes 317 L st h) ∧
  (∀ (d : Nat) (a1 a2 : Value) (x : Nat) (st : List Value) (h : fk_H), fk_ev d qX12_hourGoes 361 [.ref x, a1, a2] st h = fk_ev d qX12_hourGoes 362 [.ref x, a1, a2] (.ref x :: st) h) ∧
  (∀ (d : Nat) (L st : List Value) (N : Nat) (y : Nat → Nat → Int32) (l : Nat → Nat → Int64), fk_ev d qX12_hourGoes 362 L (.ref 246 :: st) (fk_E N y l) = fk_ev d qX12_hourGoes 365 L (.ref 247 :: st) (fk_E N y l)) ∧
  (∀ (d : Nat) (L st : List Value) (h : fk_H), fk_ev d qX12_hourGoes 365 L st h = fk_ev d qX12_hourGoes 368 L (.int (nI 832) :: st) h) ∧
  (∀ (d : Nat) (a1 a2 : Value) (x : Nat) (st : List Value) (h : fk_H), fk_ev d qX12_hourGoes 368 [.ref x, a1, a2] st h = fk_ev d qX12_hourGoes 369 [.ref x, a1, a2] (.ref x :: st) h) ∧
  (∀ (d : Nat) (L st : List Value) (N : Nat) (y : Nat → Nat → Int32) (l : Nat → Nat → Int64), fk_ev d qX12_hourGoes 369 L (.ref 246 :: st) (fk_E N y l) = fk_ev d qX12_hourGoes 372 L (.ref 247 :: st) (fk_E N y l)) ∧
  (∀ (d : Nat) (L st : List Value) (h : fk_H), fk_ev d qX12_hourGoes 372 L st h = fk_ev d qX12_hourGoes 375 L (.int (nI 832) :: st) h) ∧
  (∀ (d : Nat) (L st : List Value) (N : Nat) (y : Nat → Nat → Int32) (l : Nat → Nat → Int64) (i : Nat), i < 3912 → fk_ev d qX12_hourGoes 375 L (.int (nI i) :: .ref 247 :: st) (fk_E N y l) = fk_ev d qX12_hourGoes 376 L (.int (y 247 i) :: st) (fk_E N y l)) ∧
  (∀ (d : Nat) (L st : List Value) (h : fk_H), fk_ev d qX12_hourGoes 376 L st h = fk_ev d qX12_hourGoes 377 L (.int (nI 1) :: st) h) ∧
  (∀ (d : Nat) (L : List Value) (x y : Int32) (st : List Value) (h : fk_H), fk_ev d qX12_hourGoes 377 L (.int y :: .int x :: st) h = fk_ev d qX12_hourGoes 378 L (.int (x + y) :: st) h) ∧
  (∀ (d : Nat) (L st : List Value) (N : Nat) (y : Nat → Nat → Int32) (l : Nat → Nat → Int64) (i : Nat) (v : Int32), i < 3912 → fk_ev d qX12_hourGoes 378 L (.int v :: .int (nI i) :: .ref 247 :: st) (fk_E N y l) = fk_ev d qX12_hourGoes 379 L st (fk_E N (fk_u y 247 i v) l)) ∧
  (∀ (d : Nat) (L : List Value) (h : fk_H), fk_ev d qX12_hourGoes 379 L [] h = some (none, h)) := ⟨fun d a1 a2 x st h => fk_w_aloadn 0 [.ref x, a1, a2] dX12_hourGoes_0 rfl,
  fun d L  N y l  => fk_g_call [] [] rfl lm_12_304 dX12_hourGoes_1 rfl ⟨rfl, by decide⟩ (by simp) fk_at_246,
  fun d L st h => fk_w_iconst dX12_hourGoes_4 (by decide),
  fun d a0 a1 a2 x st h => fk_w_istoren 1 3 [] [a0, a1, a2] [a0, .int x, a2] dX12_hourGoes_5 rfl rfl (by decide) rfl,
  fun d L st h => fk_w_bipush dX12_hourGoes_7 (by decide),
  fun d L x y st h => fk_r_icmp_ge dX12_hourGoes_9 (by decide),
  fun d a1 a2 x st h => fk_w_aloadn 0 [.ref x, a1, a2] dX12_hourGoes_12 rfl,
  fun d L st N y l => fk_g_getC rfl lf_12_78 (by decide) rfl dX12_hourGoes_13 fk_at_246,
  fun d a0 a2 x st h => fk_w_iloadn 1 [a0, .int x, a2] dX12_hourGoes_16 rfl,
  fun d L st h => fk_w_iconst dX12_hourGoes_17 (by decide),
  fun d L st N y l i v hi => fk_g_bast22 fk_at_269 fk_ln_269 (by decide) dX12_hourGoes_18 hi,
  fun d a0 a2 x st h => fk_w_iinc 1 3 (1) [] [a0, .int x, a2] [a0, .int (x + nI 1), a2] dX12_hourGoes_19 rfl rfl rfl (by decide) rfl,
  fun d L st h => fk_r_goto dX12_hourGoes_22 (by decide),
  fun d L st h => fk_w_iconst dX12_hourGoes_25 (by decide),
  fun d a0 a1 a2 x st h => fk_w_istoren 1 3 [] [a0, a1, a2] [a0, .int x, a2] dX12_hourGoes_26 rfl rfl (by decide) rfl,
  fun d a1 a2 x st h => fk_w_aloadn 0 [.ref x, a1, a2] dX12_hourGoes_28 rfl,
  fun d L st N y l => fk_g_getC rfl lf_12_7 (by decide) rfl dX12_hourGoes_29 fk_at_246,
  fun d L st h => fk_w_sipush dX12_hourGoes_32 (by decide),
  fun d L st N y l i hi => fk_g_iald fk_at_247 fk_ln_247 (by decide) dX12_hourGoes_35 hi,
  fun d L x y st h => fk_r_icmp_ge dX12_hourGoes_36 (by decide),
  fun d a1 a2 x st h => fk_w_aloadn 0 [.ref x, a1, a2] dX12_hourGoes_39 rfl,
  fun d a0 a2 x st h => fk_w_iloadn 1 [a0, .int x, a2] dX12_hourGoes_40 rfl,
  fun d L x0 N y l  => fk_g_call [.int x0] [] rfl lm_12_269 dX12_hourGoes_41 rfl ⟨rfl, by decide⟩ (by simp) fk_at_246,
  fun d L x st h => fk_r_if_eq dX12_hourGoes_44 (by decide),
  fun d a1 a2 x st h => fk_w_aloadn 0 [.ref x, a1, a2] dX12_hourGoes_47 rfl,
  fun d L st N y l => fk_g_getC rfl lf_12_7 (by decide) rfl dX12_hourGoes_48 fk_at_246,
  fun d L st h => fk_w_sipush dX12_hourGoes_51 (by decide),
  fun d a0 a2 x st h => fk_w_iloadn 1 [a0, .int x, a2] dX12_hourGoes_54 rfl,
  fun d L x y st h => fk_r_iadd dX12_hourGoes_55,
  fun d L st N y l i hi => fk_g_iald fk_at_247 fk_ln_247 (by decide) dX12_hourGoes_56 hi,
  fun d L x st h => fk_r_if_le dX12_hourGoes_57 (by decide),
  fun d a1 a2 x st h => fk_w_aloadn 0 [.ref x, a1, a2] dX12_hourGoes_60 rfl,
  fun d L st N y l => fk_g_getC rfl lf_12_7 (by decide) rfl dX12_hourGoes_61 fk_at_246,
  fun d L st h => fk_w_sipush dX12_hourGoes_64 (by decide),
  fun d a0 a2 x st h => fk_w_iloadn 1 [a0, .int x, a2] dX12_hourGoes_67 rfl,
  fun d L x y st h => fk_r_iadd dX12_hourGoes_68,
  fun d a1 a2 x st h => fk_w_aloadn 0 [.ref x, a1, a2] dX12_hourGoes_69 rfl,
  fun d L st N y l => fk_g_getC rfl lf_12_7 (by decide) rfl dX12_hourGoes_70 fk_at_246,
  fun d L st h => fk_w_sipush dX12_hourGoes_73 (by decide),
  fun d a0 a2 x st h => fk_w_iloadn 1 [a0, .int x, a2] dX12_hourGoes_76 rfl,
  fun d L x y st h => fk_r_iadd dX12_hourGoes_77,
  fun d L st N y l i hi => fk_g_iald fk_at_247 fk_ln_247 (by decide) dX12_hourGoes_78 hi,
  fun d L st h => fk_w_iconst dX12_hourGoes_79 (by decide),
  fun d L x y st h => fk_r_isub dX12_hourGoes_80,
  fun d L st N y l i v hi => fk_g_iast fk_at_247 fk_ln_247 (by decide) dX12_hourGoes_81 hi,
  fun d a0 a2 x st h => fk_w_iinc 1 3 (1) [] [a0, .int x, a2] [a0, .int (x + nI 1), a2] dX12_hourGoes_82 rfl rfl rfl (by decide) rfl,
  fun d L st h => fk_r_goto dX12_hourGoes_85 (by decide),
  fun d L st h => fk_w_iconst dX12_hourGoes_88 (by decide),
  fun d a0 a1 a2 x st h => fk_w_istoren 1 3 [] [a0, a1, a2] [a0, .int x, a2] dX12_hourGoes_89 rfl rfl (by decide) rfl,
  fun d a1 a2 x st h => fk_w_aloadn 0 [.ref x, a1, a2] dX12_hourGoes_91 rfl,
  fun d L st N y l => fk_g_getC rfl lf_12_7 (by decide) rfl dX12_hourGoes_92 fk_at_246,
  fun d L st h => fk_w_sipush dX12_hourGoes_95 (by decide),
  fun d L st N y l i hi => fk_g_iald fk_at_247 fk_ln_247 (by decide) dX12_hourGoes_98 hi,
  fun d L x y st h => fk_r_icmp_ge dX12_hourGoes_99 (by decide),
  fun d a1 a2 x st h => fk_w_aloadn 0 [.ref x, a1, a2] dX12_hourGoes_102 rfl,
  fun d a0 a2 x st h => fk_w_iloadn 1 [a0, .int x, a2] dX12_hourGoes_103 rfl,
  fun d L x0 N y l  => fk_g_call [.int x0] [] rfl lm_12_126 dX12_hourGoes_104 rfl ⟨rfl, by decide⟩ (by simp) fk_at_246,
  fun d L x st h => fk_r_if_eq dX12_hourGoes_107 (by decide),
  fun d a1 a2 x st h => fk_w_aloadn 0 [.ref x, a1, a2] dX12_hourGoes_110 rfl,
  fun d L st N y l => fk_g_getC rfl lf_12_7 (by decide) rfl dX12_hourGoes_111 fk_at_246,
  fun d L st h => fk_w_sipush dX12_hourGoes_114 (by decide),
  fun d a0 a2 x st h => fk_w_iloadn 1 [a0, .int x, a2] dX12_hourGoes_117 rfl,
  fun d L x y st h => fk_r_iadd dX12_hourGoes_118,
  fun d L st N y l i hi => fk_g_iald fk_at_247 fk_ln_247 (by decide) dX12_hourGoes_119 hi,
  fun d L x st h => fk_r_if_ge dX12_hourGoes_120 (by decide),
  fun d a1 a2 x st h => fk_w_aloadn 0 [.ref x, a1, a2] dX12_hourGoes_123 rfl,
  fun d a0 a2 x st h => fk_w_iloadn 1 [a0, .int x, a2] dX12_hourGoes_124 rfl,
  fun d L x0 N y l  => fk_g_call [.int x0] [] rfl lm_12_307 dX12_hourGoes_125 rfl ⟨rfl, by decide⟩ (by simp) fk_at_246,
  fun d a0 a2 x st h => fk_w_iinc 1 3 (1) [] [a0, .int x, a2] [a0, .int (x + nI 1), a2] dX12_hourGoes_128 rfl rfl rfl (by decide) rfl,
  fun d L st h => fk_r_goto dX12_hourGoes_131 (by decide),
  fun d L st h => fk_w_iconst dX12_hourGoes_134 (by decide),
  fun d a0 a1 a2 x st h => fk_w_istoren 1 3 [] [a0, a1, a2] [a0, .int x, a2] dX12_hourGoes_135 rfl rfl (by decide) rfl,
  fun d a1 a2 x st h => fk_w_aloadn 0 [.ref x, a1, a2] dX12_hourGoes_137 rfl,
  fun d L st N y l => fk_g_getC rfl lf_12_7 (by decide) rfl dX12_hourGoes_138 fk_at_246,
  fun d L st h => fk_w_sipush dX12_hourGoes_141 (by decide),
  fun d L st N y l i hi => fk_g_iald fk_at_247 fk_ln_247 (by decide) dX12_hourGoes_144 hi,
  fun d L x y st h => fk_r_icmp_ge dX12_hourGoes_145 (by decide),
  fun d a0 a2 x st h => fk_w_iloadn 1 [a0, .int x, a2] dX12_hourGoes_148 rfl,
  fun d L st h => fk_w_iconst dX12_hourGoes_149 (by decide),
  fun d L x y st h => fk_r_iadd dX12_hourGoes_150,
  fun d a0 a1 a2 x st h => fk_w_istoren 2 3 [] [a0, a1, a2] [a0, a1, .int x] dX12_hourGoes_151 rfl rfl (by decide) rfl,
  fun d a1 a2 x st h => fk_w_aloadn 0 [.ref x, a1, a2] dX12_hourGoes_153 rfl,
  fun d L st N y l => fk_g_getC rfl lf_12_7 (by decide) rfl dX12_hourGoes_154 fk_at_246,
  fun d L st h => fk_w_sipush dX12_hourGoes_157 (by decide),
  fun d L st N y l i hi => fk_g_iald fk_at_247 fk_ln_247 (by decide) dX12_hourGoes_160 hi,
  fun d L x y st h => fk_r_icmp_ge dX12_hourGoes_161 (by decide),
  fun d a1 a2 x st h => fk_w_aloadn 0 [.ref x, a1, a2] dX12_hourGoes_164 rfl,
  fun d a0 a2 x st h => fk_w_iloadn 1 [a0, .int x, a2] dX12_hourGoes_165 rfl,
  fun d L x0 N y l  => fk_g_call [.int x0] [] rfl lm_12_269 dX12_hourGoes_166 rfl ⟨rfl, by decide⟩ (by simp) fk_at_246,
  fun d L x st h => fk_r_if_eq dX12_hourGoes_169 (by decide),
  fun d a1 a2 x st h => fk_w_aloadn 0 [.ref x, a1, a2] dX12_hourGoes_172 rfl,
  fun d a0 a1 x st h => fk_w_iloadn 2 [a0, a1, .int x] dX12_hourGoes_173 rfl,
  fun d L x0 N y l  => fk_g_call [.int x0] [] rfl lm_12_269 dX12_hourGoes_174 rfl ⟨rfl, by decide⟩ (by simp) fk_at_246,
  fun d L x st h => fk_r_if_eq dX12_hourGoes_177 (by decide),
  fun d a1 a2 x st h => fk_w_aloadn 0 [.ref x, a1, a2] dX12_hourGoes_180 rfl,
  fun d L st N y l => fk_g_getC rfl lf_12_7 (by decide) rfl dX12_hourGoes_181 fk_at_246,
  fun d L st h => fk_w_iconst dX12_hourGoes_184 (by decide),
  fun d a0 a2 x st h => fk_w_iloadn 1 [a0, .int x, a2] dX12_hourGoes_185 rfl,
  fun d L x y st h => fk_r_iadd dX12_hourGoes_186,
  fun d L st N y l i hi => fk_g_iald fk_at_247 fk_ln_247 (by decide) dX12_hourGoes_187 hi,
  fun d a1 a2 x st h => fk_w_aloadn 0 [.ref x, a1, a2] dX12_hourGoes_188 rfl,
  fun d L st N y l => fk_g_getC rfl lf_12_7 (by decide) rfl dX12_hourGoes_189 fk_at_246,
  fun d L st h => fk_w_iconst dX12_hourGoes_192 (by decide),
  fun d a0 a1 x st h => fk_w_iloadn 2 [a0, a1, .int x] dX12_hourGoes_193 rfl,
  fun d L x y st h => fk_r_iadd dX12_hourGoes_194,
  fun d L st N y l i hi => fk_g_iald fk_at_247 fk_ln_247 (by decide) dX12_hourGoes_195 hi,
  fun d L x y st h => fk_r_icmp_ne dX12_hourGoes_196 (by decide),
  fun d a1 a2 x st h => fk_w_aloadn 0 [.ref x, a1, a2] dX12_hourGoes_199 rfl,
  fun d L st N y l => fk_g_getC rfl lf_12_7 (by decide) rfl dX12_hourGoes_200 fk_at_246,
  fun d L st h => fk_w_sipush dX12_hourGoes_203 (by decide),
  fun d a0 a2 x st h => fk_w_iloadn 1 [a0, .int x, a2] dX12_hourGoes_206 rfl,
  fun d L x y st h => fk_r_iadd dX12_hourGoes_207,
  fun d L st N y l i hi => fk_g_iald fk_at_247 fk_ln_247 (by decide) dX12_hourGoes_208 hi,
  fun d a1 a2 x st h => fk_w_aloadn 0 [.ref x, a1, a2] dX12_hourGoes_209 rfl,
  fun d L st N y l => fk_g_getC rfl lf_12_7 (by decide) rfl dX12_hourGoes_210 fk_at_246,
  fun d L st h => fk_w_sipush dX12_hourGoes_213 (by decide),
  fun d a0 a1 x st h => fk_w_iloadn 2 [a0, a1, .int x] dX12_hourGoes_216 rfl,
  fun d L x y st h => fk_r_iadd dX12_hourGoes_217,
  fun d L st N y l i hi => fk_g_iald fk_at_247 fk_ln_247 (by decide) dX12_hourGoes_218 hi,
  fun d L x y st h => fk_r_icmp_ne dX12_hourGoes_219 (by decide),
  fun d a1 a2 x st h => fk_w_aloadn 0 [.ref x, a1, a2] dX12_hourGoes_222 rfl,
  fun d a0 a2 x st h => fk_w_iloadn 1 [a0, .int x, a2] dX12_hourGoes_223 rfl,
  fun d a0 a1 x st h => fk_w_iloadn 2 [a0, a1, .int x] dX12_hourGoes_224 rfl,
  fun d L x0 x1 N y l  => fk_g_call [.int x0, .int x1] [] rfl lm_12_310 dX12_hourGoes_225 rfl ⟨rfl, by decide⟩ (by simp) fk_at_246,
  fun d a0 a1 x st h => fk_w_iinc 2 3 (1) [] [a0, a1, .int x] [a0, a1, .int (x + nI 1)] dX12_hourGoes_228 rfl rfl rfl (by decide) rfl,
  fun d L st h => fk_r_goto dX12_hourGoes_231 (by decide),
  fun d a0 a2 x st h => fk_w_iinc 1 3 (1) [] [a0, .int x, a2] [a0, .int (x + nI 1), a2] dX12_hourGoes_234 rfl rfl rfl (by decide) rfl,
  fun d L st h => fk_r_goto dX12_hourGoes_237 (by decide),
  fun d L st h => fk_w_iconst dX12_hourGoes_240 (by decide),
  fun d a0 a1 a2 x st h => fk_w_istoren 1 3 [] [a0, a1, a2] [a0, .int x, a2] dX12_hourGoes_241 rfl rfl (by decide) rfl,
  fun d a1 a2 x st h => fk_w_aloadn 0 [.ref x, a1, a2] dX12_hourGoes_243 rfl,
  fun d L st N y l => fk_g_getC rfl lf_12_7 (by decide) rfl dX12_hourGoes_244 fk_at_246,
  fun d L st h => fk_w_sipush dX12_hourGoes_247 (by decide),
  fun d L st N y l i hi => fk_g_iald fk_at_247 fk_ln_247 (by decide) dX12_hourGoes_250 hi,
  fun d L x y st h => fk_r_icmp_ge dX12_hourGoes_251 (by decide),
  fun d a1 a2 x st h => fk_w_aloadn 0 [.ref x, a1, a2] dX12_hourGoes_254 rfl,
  fun d a0 a2 x st h => fk_w_iloadn 1 [a0, .int x, a2] dX12_hourGoes_255 rfl,
  fun d L x0 N y l  => fk_g_call [.int x0] [] rfl lm_12_269 dX12_hourGoes_256 rfl ⟨rfl, by decide⟩ (by simp) fk_at_246,
  fun d L x st h => fk_r_if_eq dX12_hourGoes_259 (by decide),
  fun d a1 a2 x st h => fk_w_aloadn 0 [.ref x, a1, a2] dX12_hourGoes_262 rfl,
  fun d L st N y l => fk_g_getC rfl lf_12_78 (by decide) rfl dX12_hourGoes_263 fk_at_246,
  fun d a0 a2 x st h => fk_w_iloadn 1 [a0, .int x, a2] dX12_hourGoes_266 rfl,
  fun d L st N y l i hi => fk_g_bald (Or.inr rfl) fk_at_269 fk_ln_269 (by decide) dX12_hourGoes_267 hi,
  fun d L x st h => fk_r_if_eq dX12_hourGoes_268 (by decide),
  fun d a1 a2 x st h => fk_w_aloadn 0 [.ref x, a1, a2] dX12_hourGoes_271 rfl,
  fun d a0 a2 x st h => fk_w_iloadn 1 [a0, .int x, a2] dX12_hourGoes_272 rfl,
  fun d L x0 N y l  => fk_g_call [.int x0] [] rfl lm_12_313 dX12_hourGoes_273 rfl ⟨rfl, by decide⟩ (by simp) fk_at_246,
  fun d a0 a2 x st h => fk_w_iinc 1 3 (1) [] [a0, .int x, a2] [a0, .int (x + nI 1), a2] dX12_hourGoes_276 rfl rfl rfl (by decide) rfl,
  fun d L st h => fk_r_goto dX12_hourGoes_279 (by decide),
  fun d L st h => fk_w_iconst dX12_hourGoes_282 (by decide),
  fun d a0 a1 a2 x st h => fk_w_istoren 1 3 [] [a0, a1, a2] [a0, .int x, a2] dX12_hourGoes_283 rfl rfl (by decide) rfl,
  fun d a1 a2 x st h => fk_w_aloadn 0 [.ref x, a1, a2] dX12_hourGoes_285 rfl,
  fun d L st N y l => fk_g_getC rfl lf_12_7 (by decide) rfl dX12_hourGoes_286 fk_at_246,
  fun d L st h => fk_w_sipush dX12_hourGoes_289 (by decide),
  fun d L st N y l i hi => fk_g_iald fk_at_247 fk_ln_247 (by decide) dX12_hourGoes_292 hi,
  fun d L x y st h => fk_r_icmp_ge dX12_hourGoes_293 (by decide),
  fun d a1 a2 x st h => fk_w_aloadn 0 [.ref x, a1, a2] dX12_hourGoes_296 rfl,
  fun d a0 a2 x st h => fk_w_iloadn 1 [a0, .int x, a2] dX12_hourGoes_297 rfl,
  fun d L x0 N y l  => fk_g_call [.int x0] [] rfl lm_12_269 dX12_hourGoes_298 rfl ⟨rfl, by decide⟩ (by simp) fk_at_246,
  fun d L x st h => fk_r_if_eq dX12_hourGoes_301 (by decide),
  fun d a1 a2 x st h => fk_w_aloadn 0 [.ref x, a1, a2] dX12_hourGoes_304 rfl,
  fun d a0 a2 x st h => fk_w_iloadn 1 [a0, .int x, a2] dX12_hourGoes_305 rfl,
  fun d L x0 N y l  => fk_g_call [.int x0] [] rfl lm_12_316 dX12_hourGoes_306 rfl ⟨rfl, by decide⟩ (by simp) fk_at_246,
  fun d a0 a2 x st h => fk_w_iinc 1 3 (1) [] [a0, .int x, a2] [a0, .int (x + nI 1), a2] dX12_hourGoes_309 rfl rfl rfl (by decide) rfl,
  fun d L st h => fk_r_goto dX12_hourGoes_312 (by decide),
  fun d L st h => fk_w_iconst dX12_hourGoes_315 (by decide),
  fun d a0 a1 a2 x st h => fk_w_istoren 1 3 [] [a0, a1, a2] [a0, .int x, a2] dX12_hourGoes_316 rfl rfl (by decide) rfl,
  fun d a1 a2 x st h => fk_w_aloadn 0 [.ref x, a1, a2] dX12_hourGoes_318 rfl,
  fun d L st N y l => fk_g_getC rfl lf_12_7 (by decide) rfl dX12_hourGoes_319 fk_at_246,
  fun d L st h => fk_w_sipush dX12_hourGoes_322 (by decide),
  fun d L st N y l i hi => fk_g_iald fk_at_247 fk_ln_247 (by decide) dX12_hourGoes_325 hi,
  fun d L x y st h => fk_r_icmp_ge dX12_hourGoes_326 (by decide),
  fun d a1 a2 x st h => fk_w_aloadn 0 [.ref x, a1, a2] dX12_hourGoes_329 rfl,
  fun d a0 a2 x st h => fk_w_iloadn 1 [a0, .int x, a2] dX12_hourGoes_330 rfl,
  fun d L x0 N y l  => fk_g_call [.int x0] [] rfl lm_12_269 dX12_hourGoes_331 rfl ⟨rfl, by decide⟩ (by simp) fk_at_246,
  fun d L x st h => fk_r_if_eq dX12_hourGoes_334 (by decide),
  fun d a1 a2 x st h => fk_w_aloadn 0 [.ref x, a1, a2] dX12_hourGoes_337 rfl,
  fun d L st N y l => fk_g_getC rfl lf_12_7 (by decide) rfl dX12_hourGoes_338 fk_at_246,
  fun d L st h => fk_w_sipush dX12_hourGoes_341 (by decide),
  fun d a0 a2 x st h => fk_w_iloadn 1 [a0, .int x, a2] dX12_hourGoes_344 rfl,
  fun d L x y st h => fk_r_iadd dX12_hourGoes_345,
  fun d L st N y l i hi => fk_g_iald fk_at_247 fk_ln_247 (by decide) dX12_hourGoes_346 hi,
  fun d L x st h => fk_r_if_ne dX12_hourGoes_347 (by decide),
  fun d a1 a2 x st h => fk_w_aloadn 0 [.ref x, a1, a2] dX12_hourGoes_350 rfl,
  fun d a0 a2 x st h => fk_w_iloadn 1 [a0, .int x, a2] dX12_hourGoes_351 rfl,
  fun d L x0 N y l  => fk_g_call [.int x0] [] rfl lm_12_319 dX12_hourGoes_352 rfl ⟨rfl, by decide⟩ (by simp) fk_at_246,
  fun d a0 a2 x st h => fk_w_iinc 1 3 (1) [] [a0, .int x, a2] [a0, .int (x + nI 1), a2] dX12_hourGoes_355 rfl rfl rfl (by decide) rfl,
  fun d L st h => fk_r_goto dX12_hourGoes_358 (by decide),
  fun d a1 a2 x st h => fk_w_aloadn 0 [.ref x, a1, a2] dX12_hourGoes_361 rfl,
  fun d L st N y l => fk_g_getC rfl lf_12_7 (by decide) rfl dX12_hourGoes_362 fk_at_246,
  fun d L st h => fk_w_sipush dX12_hourGoes_365 (by decide),
  fun d a1 a2 x st h => fk_w_aloadn 0 [.ref x, a1, a2] dX12_hourGoes_368 rfl,
  fun d L st N y l => fk_g_getC rfl lf_12_7 (by decide) rfl dX12_hourGoes_369 fk_at_246,
  fun d L st h => fk_w_sipush dX12_hourGoes_372 (by decide),
  fun d L st N y l i hi => fk_g_iald fk_at_247 fk_ln_247 (by decide) dX12_hourGoes_375 hi,
  fun d L st h => fk_w_iconst dX12_hourGoes_376 (by decide),
  fun d L x y st h => fk_r_iadd dX12_hourGoes_377,
  fun d L st N y l i v hi => fk_g_iast fk_at_247 fk_ln_247 (by decide) dX12_hourGoes_378 hi,
  fun d L h => fk_r_vret dX12_hourGoes_379 rfl⟩
theorem hX12_hourGoes_6 : ∀ (d : Nat) (a0 a2 : Value) (x : Int32) (st : List Value) (h : fk_H), fk_ev d qX12_hourGoes 6 [a0, .int x, a2] st h = fk_ev d qX12_hourGoes 7 [a0, .int x, a2] (.int x :: st) h := fun d a0 a2 x st h => fk_w_iloadn 1 [a0, .int x, a2] dX12_hourGoes_6 rfl
theorem hX12_hourGoes_27 : ∀ (d : Nat) (a0 a2 : Value) (x : Int32) (st : List Value) (h : fk_H), fk_ev d qX12_hourGoes 27 [a0, .int x, a2] st h = fk_ev d qX12_hourGoes 28 [a0, .int x, a2] (.int x :: st) h := fun d a0 a2 x st h => fk_w_iloadn 1 [a0, .int x, a2] dX12_hourGoes_27 rfl
theorem hX12_hourGoes_90 : ∀ (d : Nat) (a0 a2 : Value) (x : Int32) (st : List Value) (h : fk_H), fk_ev d qX12_hourGoes 90 [a0, .int x, a2] st h = fk_ev d qX12_hourGoes 91 [a0, .int x, a2] (.int x :: st) h := fun d a0 a2 x st h => fk_w_iloadn 1 [a0, .int x, a2] dX12_hourGoes_90 rfl
theorem hX12_hourGoes_136 : ∀ (d : Nat) (a0 a2 : Value) (x : Int32) (st : List Value) (h : fk_H), fk_ev d qX12_hourGoes 136 [a0, .int x, a2] st h = fk_ev d qX12_hourGoes 137 [a0, .int x, a2] (.int x :: st) h := fun d a0 a2 x st h => fk_w_iloadn 1 [a0, .int x, a2] dX12_hourGoes_136 rfl
theorem hX12_hourGoes_152 : ∀ (d : Nat) (a0 a1 : Value) (x : Int32) (st : List Value) (h : fk_H), fk_ev d qX12_hourGoes 152 [a0, a1, .int x] st h = fk_ev d qX12_hourGoes 153 [a0, a1, .int x] (.int x :: st) h := fun d a0 a1 x st h => fk_w_iloadn 2 [a0, a1, .int x] dX12_hourGoes_152 rfl
theorem hX12_hourGoes_242 : ∀ (d : Nat) (a0 a2 : Value) (x : Int32) (st : List Value) (h : fk_H), fk_ev d qX12_hourGoes 242 [a0, .int x, a2] st h = fk_ev d qX12_hourGoes 243 [a0, .int x, a2] (.int x :: st) h := fun d a0 a2 x st h => fk_w_iloadn 1 [a0, .int x, a2] dX12_hourGoes_242 rfl
theorem hX12_hourGoes_284 : ∀ (d : Nat) (a0 a2 : Value) (x : Int32) (st : List Value) (h : fk_H), fk_ev d qX12_hourGoes 284 [a0, .int x, a2] st h = fk_ev d qX12_hourGoes 285 [a0, .int x, a2] (.int x :: st) h := fun d a0 a2 x st h => fk_w_iloadn 1 [a0, .int x, a2] dX12_hourGoes_284 rfl
theorem hX12_hourGoes_317 : ∀ (d : Nat) (a0 a2 : Value) (x : Int32) (st : List Value) (h : fk_H), fk_ev d qX12_hourGoes 317 [a0, .int x, a2] st h = fk_ev d qX12_hourGoes 318 [a0, .int x, a2] (.int x :: st) h := fun d a0 a2 x st h => fk_w_iloadn 1 [a0, .int x, a2] dX12_hourGoes_317 rfl
theorem dX12_hours_0 : decode cX12_hours 0 = .ok (.iload_n 1, 1) := by decide +kernel
theorem dX12_hours_1 : decode cX12_hours 1 = .ok (.iconst 1, 1) := by decide +kernel
theorem dX12_hours_2 : decode cX12_hours 2 = .ok (.bipush 48, 2) := by decide +kernel
theorem dX12_hours_4 : decode cX12_hours 4 = .ok (.invokestatic 112, 3) := by decide +kernel
theorem dX12_hours_7 : decode cX12_hours 7 = .ok (.ifCond .eq 19, 3) := by decide +kernel
theorem dX12_hours_10 : decode cX12_hours 10 = .ok (.aload_n 0, 1) := by decide +kernel
theorem dX12_hours_11 : decode cX12_hours 11 = .ok (.getfield 7, 3) := by decide +kernel
theorem dX12_hours_14 : decode cX12_hours 14 = .ok (.sipush 832, 3) := by decide +kernel
theorem dX12_hours_17 : decode cX12_hours 17 = .ok (.iaload, 1) := by decide +kernel
theorem dX12_hours_18 : decode cX12_hours 18 = .ok (.iload_n 1, 1) := by decide +kernel
theorem dX12_hours_19 : decode cX12_hours 19 = .ok (.iadd, 1) := by decide +kernel
theorem dX12_hours_20 : decode cX12_hours 20 = .ok (.sipush 999, 3) := by decide +kernel
theorem dX12_hours_23 : decode cX12_hours 23 = .ok (.if_icmp .le 5, 3) := by decide +kernel
theorem dX12_hours_26 : decode cX12_hours 26 = .ok (.iconst (-1), 1) := by decide +kernel
theorem dX12_hours_27 : decode cX12_hours 27 = .ok (.ireturn, 1) := by decide +kernel
theorem dX12_hours_28 : decode cX12_hours 28 = .ok (.iconst 0, 1) := by decide +kernel
theorem dX12_hours_29 : decode cX12_hours 29 = .ok (.istore_n 2, 1) := by decide +kernel
theorem dX12_hours_30 : decode cX12_hours 30 = .ok (.iload_n 2, 1) := by decide +kernel
theorem dX12_hours_31 : decode cX12_hours 31 = .ok (.iload_n 1, 1) := by decide +kernel
theorem dX12_hours_32 : decode cX12_hours 32 = .ok (.if_icmp .ge 13, 3) := by decide +kernel
theorem dX12_hours_35 : decode cX12_hours 35 = .ok (.aload_n 0, 1) := by decide +kernel
theorem dX12_hours_36 : decode cX12_hours 36 = .ok (.invokevirtual 322, 3) := by decide +kernel
theorem dX12_hours_39 : decode cX12_hours 39 = .ok (.iinc 2 1, 3) := by decide +kernel
theorem dX12_hours_42 : decode cX12_hours 42 = .ok (.goto (-12), 3) := by decide +kernel
theorem dX12_hours_45 : decode cX12_hours 45 = .ok (.aload_n 0, 1) := by decide +kernel
theorem dX12_hours_46 : decode cX12_hours 46 = .ok (.invokevirtual 325, 3) := by decide +kernel
theorem dX12_hours_49 : decode cX12_hours 49 = .ok (.ireturn, 1) := by decide +kernel
theorem rX12_hours : (∀ (d : Nat) (a0 a2 : Value) (x : Int32) (st : List Value) (h : fk_H), fk_ev d qX12_hours 0 [a0, .int x, a2] st h = fk_ev d qX12_hours 1 [a0, .int x, a2] (.int x :: st) h) ∧
  (∀ (d : Nat) (L st : List Value) (h : fk_H), fk_ev d qX12_hours 1 L st h = fk_ev d qX12_hours 2 L (.int (nI 1) :: st) h) ∧
  (∀ (d : Nat) (L st : List Value) (h : fk_H), fk_ev d qX12_hours 2 L st h = fk_ev d qX12_hours 4 L (.int (nI 48) :: st) h) ∧
  (∀ (d : Nat) (L : List Value) (x0 : Int32) (x1 : Int32) (x2 : Int32)  (h : fk_H), fk_ev (d + 1) qX12_hours 4 L (.int x2 :: .int x1 :: .int x0 :: []) h = (fk_ev d qX12_in 0 [.int x0, .int x1, .int x2] [] h).bind fun o => fk_ev (d + 1) qX12_hours 7 L (o.1.toList ++ []) o.2) ∧
  (∀ (d : Nat) (L : List Value) (x : Int32) (st : List Value) (h : fk_H), fk_ev d qX12_hours 7 L (.int x :: st) h = if x = nI 0 then fk_ev d qX12_hours 26 L st h else fk_ev d qX12_hours 10 L st h) ∧
  (∀ (d : Nat) (a1 a2 : Value) (x : Nat) (st : List Value) (h : fk_H), fk_ev d qX12_hours 10 [.ref x, a1, a2] st h = fk_ev d qX12_hours 11 [.ref x, a1, a2] (.ref x :: st) h) ∧
  (∀ (d : Nat) (L st : List Value) (N : Nat) (y : Nat → Nat → Int32) (l : Nat → Nat → Int64), fk_ev d qX12_hours 11 L (.ref 246 :: st) (fk_E N y l) = fk_ev d qX12_hours 14 L (.ref 247 :: st) (fk_E N y l)) ∧
  (∀ (d : Nat) (L st : List Value) (h : fk_H), fk_ev d qX12_hours 14 L st h = fk_ev d qX12_hours 17 L (.int (nI 832) :: st) h) ∧
  (∀ (d : Nat) (L st : List Value) (N : Nat) (y : Nat → Nat → Int32) (l : Nat → Nat → Int64) (i : Nat), i < 3912 → fk_ev d qX12_hours 17 L (.int (nI i) :: .ref 247 :: st) (fk_E N y l) = fk_ev d qX12_hours 18 L (.int (y 247 i) :: st) (fk_E N y l)) ∧
  (∀ (d : Nat) (a0 a2 : Value) (x : Int32) (st : List Value) (h : fk_H), fk_ev d qX12_hours 18 [a0, .int x, a2] st h = fk_ev d qX12_hours 19 [a0, .int x, a2] (.int x :: st) h) ∧
  (∀ (d : Nat) (L : List Value) (x y : Int32) (st : List Value) (h : fk_H), fk_ev d qX12_hours 19 L (.int y :: .int x :: st) h = fk_ev d qX12_hours 20 L (.int (x + y) :: st) h) ∧
  (∀ (d : Nat) (L st : List Value) (h : fk_H), fk_ev d qX12_hours 20 L st h = fk_ev d qX12_hours 23 L (.int (nI 999) :: st) h) ∧
  (∀ (d : Nat) (L : List Value) (x y : Int32) (st : List Value) (h : fk_H), fk_ev d qX12_hours 23 L (.int y :: .int x :: st) h = if x ≤ y then fk_ev d qX12_hours 28 L st h else fk_ev d qX12_hours 26 L st h) ∧
  (∀ (d : Nat) (L st : List Value) (h : fk_H), fk_ev d qX12_hours 26 L st h = fk_ev d qX12_hours 27 L (.int ((-1 : Int32)) :: st) h) ∧
  (∀ (d : Nat) (L : List Value) (x : Int32) (h : fk_H), fk_ev d qX12_hours 27 L [.int x] h = some (some (.int x), h)) ∧
  (∀ (d : Nat) (L st : List Value) (h : fk_H), fk_ev d qX12_hours 28 L st h = fk_ev d qX12_hours 29 L (.int (nI 0) :: st) h) ∧
  (∀ (d : Nat) (a0 a1 a2 : Value) (x : Int32) (st : List Value) (h : fk_H), fk_ev d qX12_hours 29 [a0, a1, a2] (.int x :: st) h = fk_ev d qX12_hours 30 [a0, a1, .int x] st h) ∧
  (∀ (d : Nat) (a0 a2 : Value) (x : Int32) (st : List Value) (h : fk_H), fk_ev d qX12_hours 31 [a0, .int x, a2] st h = fk_ev d qX12_hours 32 [a0, .int x, a2] (.int x :: st) h) ∧
  (∀ (d : Nat) (L : List Value) (x y : Int32) (st : List Value) (h : fk_H), fk_ev d qX12_hours 32 L (.int y :: .int x :: st) h = if y ≤ x then fk_ev d qX12_hours 45 L st h else fk_ev d qX12_hours 35 L st h) ∧
  (∀ (d : Nat) (a1 a2 : Value) (x : Nat) (st : List Value) (h : fk_H), fk_ev d qX12_hours 35 [.ref x, a1, a2] st h = fk_ev d qX12_hours 36 [.ref x, a1, a2] (.ref x :: st) h) ∧
  (∀ (d : Nat) (L : List Value)   (N : Nat) (y : Nat → Nat → Int32) (l : Nat → Nat → Int64), fk_ev (d + 1) qX12_hours 36 L (.ref 246 :: []) (fk_E N y l) = (fk_ev d qX12_hourGoes 0 [.ref 246, .null, .null] [] (fk_E N y l)).bind fun o => fk_ev (d + 1) qX12_hours 39 L (o.1.toList ++ []) o.2) ∧
  (∀ (d : Nat) (a0 a1 : Value) (x : Int32) (st : List Value) (h : fk_H), fk_ev d qX12_hours 39 [a0, a1, .int x] st h = fk_ev d qX12_hours 42 [a0, a1, .int (x + nI 1)] st h) ∧
  (∀ (d : Nat) (L st : List Value) (h : fk_H), fk_ev d qX12_hours 42 L st h = fk_ev d qX12_hours 30 L st h) ∧
  (∀ (d : Nat) (a1 a2 : Value) (x : Nat) (st : List Value) (h : fk_H), fk_ev d qX12_hours 45 [.ref x, a1, a2] st h = fk_ev d qX12_hours 46 [.ref x, a1, a2] (.ref x :: st) h) ∧
  (∀ (d : Nat) (L : List Value)   (N : Nat) (y : Nat → Nat → Int32) (l : Nat → Nat → Int64), fk_ev (d + 1) qX12_hours 46 L (.ref 246 :: []) (fk_E N y l) = (fk_ev d qX12_living 0 [.ref 246, .null, .null] [] (fk_E N y l)).bind fun o => fk_ev (d + 1) qX12_hours 49 L (o.1.toList ++ []) o.2) ∧
  (∀ (d : Nat) (L : List Value) (x : Int32) (h : fk_H), fk_ev d qX12_hours 49 L [.int x] h = some (some (.int x), h)) := ⟨fun d a0 a2 x st h => fk_w_iloadn 1 [a0, .int x, a2] dX12_hours_0 rfl,
  fun d L st h => fk_w_iconst dX12_hours_1 (by decide),
  fun d L st h => fk_w_bipush dX12_hours_2 (by decide),
  fun d L x0 x1 x2 h => fk_g_calls [.int x0, .int x1, .int x2] [] rfl lm_12_112 dX12_hours_4 rfl ⟨rfl, by decide⟩ (by simp),
  fun d L x st h => fk_r_if_eq dX12_hours_7 (by decide),
  fun d a1 a2 x st h => fk_w_aloadn 0 [.ref x, a1, a2] dX12_hours_10 rfl,
  fun d L st N y l => fk_g_getC rfl lf_12_7 (by decide) rfl dX12_hours_11 fk_at_246,
  fun d L st h => fk_w_sipush dX12_hours_14 (by decide),
  fun d L st N y l i hi => fk_g_iald fk_at_247 fk_ln_247 (by decide) dX12_hours_17 hi,
  fun d a0 a2 x st h => fk_w_iloadn 1 [a0, .int x, a2] dX12_hours_18 rfl,
  fun d L x y st h => fk_r_iadd dX12_hours_19,
  fun d L st h => fk_w_sipush dX12_hours_20 (by decide),
  fun d L x y st h => fk_r_icmp_le dX12_hours_23 (by decide),
  fun d L st h => fk_w_iconst dX12_hours_26 (by decide),
  fun d L x h => fk_r_ret dX12_hours_27 (Or.inl rfl),
  fun d L st h => fk_w_iconst dX12_hours_28 (by decide),
  fun d a0 a1 a2 x st h => fk_w_istoren 2 3 [] [a0, a1, a2] [a0, a1, .int x] dX12_hours_29 rfl rfl (by decide) rfl,
  fun d a0 a2 x st h => fk_w_iloadn 1 [a0, .int x, a2] dX12_hours_31 rfl,
  fun d L x y st h => fk_r_icmp_ge dX12_hours_32 (by decide),
  fun d a1 a2 x st h => fk_w_aloadn 0 [.ref x, a1, a2] dX12_hours_35 rfl,
  fun d L  N y l  => fk_g_call [] [] rfl lm_12_322 dX12_hours_36 rfl ⟨rfl, by decide⟩ (by simp) fk_at_246,
  fun d a0 a1 x st h => fk_w_iinc 2 3 (1) [] [a0, a1, .int x] [a0, a1, .int (x + nI 1)] dX12_hours_39 rfl rfl rfl (by decide) rfl,
  fun d L st h => fk_r_goto dX12_hours_42 (by decide),
  fun d a1 a2 x st h => fk_w_aloadn 0 [.ref x, a1, a2] dX12_hours_45 rfl,
  fun d L  N y l  => fk_g_call [] [] rfl lm_12_325 dX12_hours_46 rfl ⟨rfl, by decide⟩ (by simp) fk_at_246,
  fun d L x h => fk_r_ret dX12_hours_49 (Or.inl rfl)⟩
theorem hX12_hours_30 : ∀ (d : Nat) (a0 a1 : Value) (x : Int32) (st : List Value) (h : fk_H), fk_ev d qX12_hours 30 [a0, a1, .int x] st h = fk_ev d qX12_hours 31 [a0, a1, .int x] (.int x :: st) h := fun d a0 a1 x st h => fk_w_iloadn 2 [a0, a1, .int x] dX12_hours_30 rfl
theorem dX12_sumFor_0 : decode cX12_sumFor 0 = .ok (.iconst 0, 1) := by decide +kernel
theorem dX12_sumFor_1 : decode cX12_sumFor 1 = .ok (.istore_n 3, 1) := by decide +kernel
theorem dX12_sumFor_2 : decode cX12_sumFor 2 = .ok (.iconst 0, 1) := by decide +kernel
theorem dX12_sumFor_3 : decode cX12_sumFor 3 = .ok (.istore 4, 2) := by decide +kernel
theorem dX12_sumFor_5 : decode cX12_sumFor 5 = .ok (.iload 4, 2) := by decide +kernel
theorem dX12_sumFor_7 : decode cX12_sumFor 7 = .ok (.aload_n 0, 1) := by decide +kernel
theorem dX12_sumFor_8 : decode cX12_sumFor 8 = .ok (.getfield 7, 3) := by decide +kernel
theorem dX12_sumFor_11 : decode cX12_sumFor 11 = .ok (.sipush 833, 3) := by decide +kernel
theorem dX12_sumFor_14 : decode cX12_sumFor 14 = .ok (.iaload, 1) := by decide +kernel
theorem dX12_sumFor_15 : decode cX12_sumFor 15 = .ok (.if_icmp .ge 47, 3) := by decide +kernel
theorem dX12_sumFor_18 : decode cX12_sumFor 18 = .ok (.iload_n 3, 1) := by decide +kernel
theorem dX12_sumFor_19 : decode cX12_sumFor 19 = .ok (.aload_n 0, 1) := by decide +kernel
theorem dX12_sumFor_20 : decode cX12_sumFor 20 = .ok (.iload 4, 2) := by decide +kernel
theorem dX12_sumFor_22 : decode cX12_sumFor 22 = .ok (.invokevirtual 126, 3) := by decide +kernel
theorem dX12_sumFor_25 : decode cX12_sumFor 25 = .ok (.ifCond .eq 28, 3) := by decide +kernel
theorem dX12_sumFor_28 : decode cX12_sumFor 28 = .ok (.aload_n 0, 1) := by decide +kernel
theorem dX12_sumFor_29 : decode cX12_sumFor 29 = .ok (.getfield 7, 3) := by decide +kernel
theorem dX12_sumFor_32 : decode cX12_sumFor 32 = .ok (.iconst 0, 1) := by decide +kernel
theorem dX12_sumFor_33 : decode cX12_sumFor 33 = .ok (.iload 4, 2) := by decide +kernel
theorem dX12_sumFor_35 : decode cX12_sumFor 35 = .ok (.iadd, 1) := by decide +kernel
theorem dX12_sumFor_36 : decode cX12_sumFor 36 = .ok (.iaload, 1) := by decide +kernel
theorem dX12_sumFor_37 : decode cX12_sumFor 37 = .ok (.iload_n 2, 1) := by decide +kernel
theorem dX12_sumFor_38 : decode cX12_sumFor 38 = .ok (.if_icmp .ne 15, 3) := by decide +kernel
theorem dX12_sumFor_41 : decode cX12_sumFor 41 = .ok (.aload_n 0, 1) := by decide +kernel
theorem dX12_sumFor_42 : decode cX12_sumFor 42 = .ok (.getfield 7, 3) := by decide +kernel
theorem dX12_sumFor_45 : decode cX12_sumFor 45 = .ok (.iload_n 1, 1) := by decide +kernel
theorem dX12_sumFor_46 : decode cX12_sumFor 46 = .ok (.iload 4, 2) := by decide +kernel
theorem dX12_sumFor_48 : decode cX12_sumFor 48 = .ok (.iadd, 1) := by decide +kernel
theorem dX12_sumFor_49 : decode cX12_sumFor 49 = .ok (.iaload, 1) := by decide +kernel
theorem dX12_sumFor_50 : decode cX12_sumFor 50 = .ok (.goto 4, 3) := by decide +kernel
theorem dX12_sumFor_53 : decode cX12_sumFor 53 = .ok (.iconst 0, 1) := by decide +kernel
theorem dX12_sumFor_54 : decode cX12_sumFor 54 = .ok (.iadd, 1) := by decide +kernel
theorem dX12_sumFor_55 : decode cX12_sumFor 55 = .ok (.istore_n 3, 1) := by decide +kernel
theorem dX12_sumFor_56 : decode cX12_sumFor 56 = .ok (.iinc 4 1, 3) := by decide +kernel
theorem dX12_sumFor_59 : decode cX12_sumFor 59 = .ok (.goto (-54), 3) := by decide +kernel
theorem dX12_sumFor_62 : decode cX12_sumFor 62 = .ok (.iload_n 3, 1) := by decide +kernel
theorem dX12_sumFor_63 : decode cX12_sumFor 63 = .ok (.ireturn, 1) := by decide +kernel
theorem rX12_sumFor : (∀ (d : Nat) (L st : List Value) (h : fk_H), fk_ev d qX12_sumFor 0 L st h = fk_ev d qX12_sumFor 1 L (.int (nI 0) :: st) h) ∧
  (∀ (d : Nat) (a0 a1 a2 a3 a4 : Value) (x : Int32) (st : List Value) (h : fk_H), fk_ev d qX12_sumFor 1 [a0, a1, a2, a3, a4] (.int x :: st) h = fk_ev d qX12_sumFor 2 [a0, a1, a2, .int x, a4] st h) ∧
  (∀ (d : Nat) (L st : List Value) (h : fk_H), fk_ev d qX12_sumFor 2 L st h = fk_ev d qX12_sumFor 3 L (.int (nI 0) :: st) h) ∧
  (∀ (d : Nat) (a0 a1 a2 a3 a4 : Value) (x : Int32) (st : List Value) (h : fk_H), fk_ev d qX12_sumFor 3 [a0, a1, a2, a3, a4] (.int x :: st) h = fk_ev d qX12_sumFor 5 [a0, a1, a2, a3, .int x] st h) ∧
  (∀ (d : Nat) (a1 a2 a3 a4 : Value) (x : Nat) (st : List Value) (h : fk_H), fk_ev d qX12_sumFor 7 [.ref x, a1, a2, a3, a4] st h = fk_ev d qX12_sumFor 8 [.ref x, a1, a2, a3, a4] (.ref x :: st) h) ∧
  (∀ (d : Nat) (L st : List Value) (N : Nat) (y : Nat → Nat → Int32) (l : Nat → Nat → Int64), fk_ev d qX12_sumFor 8 L (.ref 246 :: st) (fk_E N y l) = fk_ev d qX12_sumFor 11 L (.ref 247 :: st) (fk_E N y l)) ∧
  (∀ (d : Nat) (L st : List Value) (h : fk_H), fk_ev d qX12_sumFor 11 L st h = fk_ev d qX12_sumFor 14 L (.int (nI 833) :: st) h) ∧
  (∀ (d : Nat) (L st : List Value) (N : Nat) (y : Nat → Nat → Int32) (l : Nat → Nat → Int64) (i : Nat), i < 3912 → fk_ev d qX12_sumFor 14 L (.int (nI i) :: .ref 247 :: st) (fk_E N y l) = fk_ev d qX12_sumFor 15 L (.int (y 247 i) :: st) (fk_E N y l)) ∧
  (∀ (d : Nat) (L : List Value) (x y : Int32) (st : List Value) (h : fk_H), fk_ev d qX12_sumFor 15 L (.int y :: .int x :: st) h = if y ≤ x then fk_ev d qX12_sumFor 62 L st h else fk_ev d qX12_sumFor 18 L st h) ∧
  (∀ (d : Nat) (a0 a1 a2 a4 : Value) (x : Int32) (st : List Value) (h : fk_H), fk_ev d qX12_sumFor 18 [a0, a1, a2, .int x, a4] st h = fk_ev d qX12_sumFor 19 [a0, a1, a2, .int x, a4] (.int x :: st) h) ∧
  (∀ (d : Nat) (a1 a2 a3 a4 : Value) (x : Nat) (st : List Value) (h : fk_H), fk_ev d qX12_sumFor 19 [.ref x, a1, a2, a3, a4] st h = fk_ev d qX12_sumFor 20 [.ref x, a1, a2, a3, a4] (.ref x :: st) h) ∧
  (∀ (d : Nat) (a0 a1 a2 a3 : Value) (x : Int32) (st : List Value) (h : fk_H), fk_ev d qX12_sumFor 20 [a0, a1, a2, a3, .int x] st h = fk_ev d qX12_sumFor 22 [a0, a1, a2, a3, .int x] (.int x :: st) h) ∧
  (∀ (d : Nat) (L : List Value) (x0 : Int32) (w0 : Value) (N : Nat) (y : Nat → Nat → Int32) (l : Nat → Nat → Int64), fk_ev (d + 1) qX12_sumFor 22 L (.int x0 :: .ref 246 :: [w0]) (fk_E N y l) = (fk_ev d qX12_lives 0 [.ref 246, .int x0] [] (fk_E N y l)).bind fun o => fk_ev (d + 1) qX12_sumFor 25 L (o.1.toList ++ [w0]) o.2) ∧
  (∀ (d : Nat) (L : List Value) (x : Int32) (st : List Value) (h : fk_H), fk_ev d qX12_sumFor 25 L (.int x :: st) h = if x = nI 0 then fk_ev d qX12_sumFor 53 L st h else fk_ev d qX12_sumFor 28 L st h) ∧
  (∀ (d : Nat) (a1 a2 a3 a4 : Value) (x : Nat) (st : List Value) (h : fk_H), fk_ev d qX12_sumFor 28 [.ref x, a1, a2, a3, a4] st h = fk_ev d qX12_sumFor 29 [.ref x, a1, a2, a3, a4] (.ref x :: st) h) ∧
  (∀ (d : Nat) (L st : List Value) (N : Nat) (y : Nat → Nat → Int32) (l : Nat → Nat → Int64), fk_ev d qX12_sumFor 29 L (.ref 246 :: st) (fk_E N y l) = fk_ev d qX12_sumFor 32 L (.ref 247 :: st) (fk_E N y l)) ∧
  (∀ (d : Nat) (L st : List Value) (h : fk_H), fk_ev d qX12_sumFor 32 L st h = fk_ev d qX12_sumFor 33 L (.int (nI 0) :: st) h) ∧
  (∀ (d : Nat) (a0 a1 a2 a3 : Value) (x : Int32) (st : List Value) (h : fk_H), fk_ev d qX12_sumFor 33 [a0, a1, a2, a3, .int x] st h = fk_ev d qX12_sumFor 35 [a0, a1, a2, a3, .int x] (.int x :: st) h) ∧
  (∀ (d : Nat) (L : List Value) (x y : Int32) (st : List Value) (h : fk_H), fk_ev d qX12_sumFor 35 L (.int y :: .int x :: st) h = fk_ev d qX12_sumFor 36 L (.int (x + y) :: st) h) ∧
  (∀ (d : Nat) (L st : List Value) (N : Nat) (y : Nat → Nat → Int32) (l : Nat → Nat → Int64) (i : Nat), i < 3912 → fk_ev d qX12_sumFor 36 L (.int (nI i) :: .ref 247 :: st) (fk_E N y l) = fk_ev d qX12_sumFor 37 L (.int (y 247 i) :: st) (fk_E N y l)) ∧
  (∀ (d : Nat) (a0 a1 a3 a4 : Value) (x : Int32) (st : List Value) (h : fk_H), fk_ev d qX12_sumFor 37 [a0, a1, .int x, a3, a4] st h = fk_ev d qX12_sumFor 38 [a0, a1, .int x, a3, a4] (.int x :: st) h) ∧
  (∀ (d : Nat) (L : List Value) (x y : Int32) (st : List Value) (h : fk_H), fk_ev d qX12_sumFor 38 L (.int y :: .int x :: st) h = if ¬ x = y then fk_ev d qX12_sumFor 53 L st h else fk_ev d qX12_sumFor 41 L st h) ∧
  (∀ (d : Nat) (a1 a2 a3 a4 : Value) (x : Nat) (st : List Value) (h : fk_H), fk_ev d qX12_sumFor 41 [.ref x, a1, a2, a3, a4] st h = fk_ev d qX12_sumFor 42 [.ref x, a1, a2, a3, a4] (.ref x :: st) h) ∧
  (∀ (d : Nat) (L st : List Value) (N : Nat) (y : Nat → Nat → Int32) (l : Nat → Nat → Int64), fk_ev d qX12_sumFor 42 L (.ref 246 :: st) (fk_E N y l) = fk_ev d qX12_sumFor 45 L (.ref 247 :: st) (fk_E N y l)) ∧
  (∀ (d : Nat) (a0 a2 a3 a4 : Value) (x : Int32) (st : List Value) (h : fk_H), fk_ev d qX12_sumFor 45 [a0, .int x, a2, a3, a4] st h = fk_ev d qX12_sumFor 46 [a0, .int x, a2, a3, a4] (.int x :: st) h) ∧
  (∀ (d : Nat) (a0 a1 a2 a3 : Value) (x : Int32) (st : List Value) (h : fk_H), fk_ev d qX12_sumFor 46 [a0, a1, a2, a3, .int x] st h = fk_ev d qX12_sumFor 48 [a0, a1, a2, a3, .int x] (.int x :: st) h) ∧
  (∀ (d : Nat) (L : List Value) (x y : Int32) (st : List Value) (h : fk_H), fk_ev d qX12_sumFor 48 L (.int y :: .int x :: st) h = fk_ev d qX12_sumFor 49 L (.int (x + y) :: st) h) ∧
  (∀ (d : Nat) (L st : List Value) (N : Nat) (y : Nat → Nat → Int32) (l : Nat → Nat → Int64) (i : Nat), i < 3912 → fk_ev d qX12_sumFor 49 L (.int (nI i) :: .ref 247 :: st) (fk_E N y l) = fk_ev d qX12_sumFor 50 L (.int (y 247 i) :: st) (fk_E N y l)) ∧
  (∀ (d : Nat) (L st : List Value) (h : fk_H), fk_ev d qX12_sumFor 50 L st h = fk_ev d qX12_sumFor 54 L st h) ∧
  (∀ (d : Nat) (L st : List Value) (h : fk_H), fk_ev d qX12_sumFor 53 L st h = fk_ev d qX12_sumFor 54 L (.int (nI 0) :: st) h) ∧
  (∀ (d : Nat) (L : List Value) (x y : Int32) (st : List Value) (h : fk_H), fk_ev d qX12_sumFor 54 L (.int y :: .int x :: st) h = fk_ev d qX12_sumFor 55 L (.int (x + y) :: st) h) ∧
  (∀ (d : Nat) (a0 a1 a2 a3 a4 : Value) (x : Int32) (st : List Value) (h : fk_H), fk_ev d qX12_sumFor 55 [a0, a1, a2, a3, a4] (.int x :: st) h = fk_ev d qX12_sumFor 56 [a0, a1, a2, .int x, a4] st h) ∧
  (∀ (d : Nat) (a0 a1 a2 a3 : Value) (x : Int32) (st : List Value) (h : fk_H), fk_ev d qX12_sumFor 56 [a0, a1, a2, a3, .int x] st h = fk_ev d qX12_sumFor 59 [a0, a1, a2, a3, .int (x + nI 1)] st h) ∧
  (∀ (d : Nat) (L st : List Value) (h : fk_H), fk_ev d qX12_sumFor 59 L st h = fk_ev d qX12_sumFor 5 L st h) ∧
  (∀ (d : Nat) (a0 a1 a2 a4 : Value) (x : Int32) (st : List Value) (h : fk_H), fk_ev d qX12_sumFor 62 [a0, a1, a2, .int x, a4] st h = fk_ev d qX12_sumFor 63 [a0, a1, a2, .int x, a4] (.int x :: st) h) ∧
  (∀ (d : Nat) (L : List Value) (x : Int32) (h : fk_H), fk_ev d qX12_sumFor 63 L [.int x] h = some (some (.int x), h)) := ⟨fun d L st h => fk_w_iconst dX12_sumFor_0 (by decide),
  fun d a0 a1 a2 a3 a4 x st h => fk_w_istoren 3 5 [] [a0, a1, a2, a3, a4] [a0, a1, a2, .int x, a4] dX12_sumFor_1 rfl rfl (by decide) rfl,
  fun d L st h => fk_w_iconst dX12_sumFor_2 (by decide),
  fun d a0 a1 a2 a3 a4 x st h => fk_w_istore 4 5 [] [a0, a1, a2, a3, a4] [a0, a1, a2, a3, .int x] dX12_sumFor_3 rfl rfl (by decide) rfl,
  fun d a1 a2 a3 a4 x st h => fk_w_aloadn 0 [.ref x, a1, a2, a3, a4] dX12_sumFor_7 rfl,
  fun d L st N y l => fk_g_getC rfl lf_12_7 (by decide) rfl dX12_sumFor_8 fk_at_246,
  fun d L st h => fk_w_sipush dX12_sumFor_11 (by decide),
  fun d L st N y l i hi => fk_g_iald fk_at_247 fk_ln_247 (by decide) dX12_sumFor_14 hi,
  fun d L x y st h => fk_r_icmp_ge dX12_sumFor_15 (by decide),
  fun d a0 a1 a2 a4 x st h => fk_w_iloadn 3 [a0, a1, a2, .int x, a4] dX12_sumFor_18 rfl,
  fun d a1 a2 a3 a4 x st h => fk_w_aloadn 0 [.ref x, a1, a2, a3, a4] dX12_sumFor_19 rfl,
  fun d a0 a1 a2 a3 x st h => fk_w_iload 4 [a0, a1, a2, a3, .int x] dX12_sumFor_20 rfl,
  fun d L x0 w0 N y l  => fk_g_call [.int x0] [w0] rfl lm_12_126 dX12_sumFor_22 rfl ⟨rfl, by decide⟩ (by simp) fk_at_246,
  fun d L x st h => fk_r_if_eq dX12_sumFor_25 (by decide),
  fun d a1 a2 a3 a4 x st h => fk_w_aloadn 0 [.ref x, a1, a2, a3, a4] dX12_sumFor_28 rfl,
  fun d L st N y l => fk_g_getC rfl lf_12_7 (by decide) rfl dX12_sumFor_29 fk_at_246,
  fun d L st h => fk_w_iconst dX12_sumFor_32 (by decide),
  fun d a0 a1 a2 a3 x st h => fk_w_iload 4 [a0, a1, a2, a3, .int x] dX12_sumFor_33 rfl,
  fun d L x y st h => fk_r_iadd dX12_sumFor_35,
  fun d L st N y l i hi => fk_g_iald fk_at_247 fk_ln_247 (by decide) dX12_sumFor_36 hi,
  fun d a0 a1 a3 a4 x st h => fk_w_iloadn 2 [a0, a1, .int x, a3, a4] dX12_sumFor_37 rfl,
  fun d L x y st h => fk_r_icmp_ne dX12_sumFor_38 (by decide),
  fun d a1 a2 a3 a4 x st h => fk_w_aloadn 0 [.ref x, a1, a2, a3, a4] dX12_sumFor_41 rfl,
  fun d L st N y l => fk_g_getC rfl lf_12_7 (by decide) rfl dX12_sumFor_42 fk_at_246,
  fun d a0 a2 a3 a4 x st h => fk_w_iloadn 1 [a0, .int x, a2, a3, a4] dX12_sumFor_45 rfl,
  fun d a0 a1 a2 a3 x st h => fk_w_iload 4 [a0, a1, a2, a3, .int x] dX12_sumFor_46 rfl,
  fun d L x y st h => fk_r_iadd dX12_sumFor_48,
  fun d L st N y l i hi => fk_g_iald fk_at_247 fk_ln_247 (by decide) dX12_sumFor_49 hi,
  fun d L st h => fk_r_goto dX12_sumFor_50 (by decide),
  fun d L st h => fk_w_iconst dX12_sumFor_53 (by decide),
  fun d L x y st h => fk_r_iadd dX12_sumFor_54,
  fun d a0 a1 a2 a3 a4 x st h => fk_w_istoren 3 5 [] [a0, a1, a2, a3, a4] [a0, a1, a2, .int x, a4] dX12_sumFor_55 rfl rfl (by decide) rfl,
  fun d a0 a1 a2 a3 x st h => fk_w_iinc 4 5 (1) [] [a0, a1, a2, a3, .int x] [a0, a1, a2, a3, .int (x + nI 1)] dX12_sumFor_56 rfl rfl rfl (by decide) rfl,
  fun d L st h => fk_r_goto dX12_sumFor_59 (by decide),
  fun d a0 a1 a2 a4 x st h => fk_w_iloadn 3 [a0, a1, a2, .int x, a4] dX12_sumFor_62 rfl,
  fun d L x h => fk_r_ret dX12_sumFor_63 (Or.inl rfl)⟩
theorem hX12_sumFor_5 : ∀ (d : Nat) (a0 a1 a2 a3 : Value) (x : Int32) (st : List Value) (h : fk_H), fk_ev d qX12_sumFor 5 [a0, a1, a2, a3, .int x] st h = fk_ev d qX12_sumFor 7 [a0, a1, a2, a3, .int x] (.int x :: st) h := fun d a0 a1 a2 a3 x st h => fk_w_iload 4 [a0, a1, a2, a3, .int x] dX12_sumFor_5 rfl
theorem dX12_triedBy_0 : decode cX12_triedBy 0 = .ok (.iload_n 1, 1) := by decide +kernel
theorem dX12_triedBy_1 : decode cX12_triedBy 1 = .ok (.tableswitch 112 0 4 #[35, 40, 58, 76, 94], 35) := by decide +kernel
theorem dX12_triedBy_36 : decode cX12_triedBy 36 = .ok (.aload_n 0, 1) := by decide +kernel
theorem dX12_triedBy_37 : decode cX12_triedBy 37 = .ok (.invokevirtual 325, 3) := by decide +kernel
theorem dX12_triedBy_40 : decode cX12_triedBy 40 = .ok (.ireturn, 1) := by decide +kernel
theorem dX12_triedBy_41 : decode cX12_triedBy 41 = .ok (.aload_n 0, 1) := by decide +kernel
theorem dX12_triedBy_42 : decode cX12_triedBy 42 = .ok (.getfield 7, 3) := by decide +kernel
theorem dX12_triedBy_45 : decode cX12_triedBy 45 = .ok (.sipush 838, 3) := by decide +kernel
theorem dX12_triedBy_48 : decode cX12_triedBy 48 = .ok (.iaload, 1) := by decide +kernel
theorem dX12_triedBy_49 : decode cX12_triedBy 49 = .ok (.aload_n 0, 1) := by decide +kernel
theorem dX12_triedBy_50 : decode cX12_triedBy 50 = .ok (.getfield 13, 3) := by decide +kernel
theorem dX12_triedBy_53 : decode cX12_triedBy 53 = .ok (.sipush 838, 3) := by decide +kernel
theorem dX12_triedBy_56 : decode cX12_triedBy 56 = .ok (.iaload, 1) := by decide +kernel
theorem dX12_triedBy_57 : decode cX12_triedBy 57 = .ok (.isub, 1) := by decide +kernel
theorem dX12_triedBy_58 : decode cX12_triedBy 58 = .ok (.ireturn, 1) := by decide +kernel
theorem dX12_triedBy_59 : decode cX12_triedBy 59 = .ok (.aload_n 0, 1) := by decide +kernel
theorem dX12_triedBy_60 : decode cX12_triedBy 60 = .ok (.getfield 7, 3) := by decide +kernel
theorem dX12_triedBy_63 : decode cX12_triedBy 63 = .ok (.sipush 837, 3) := by decide +kernel
theorem dX12_triedBy_66 : decode cX12_triedBy 66 = .ok (.iaload, 1) := by decide +kernel
theorem dX12_triedBy_67 : decode cX12_triedBy 67 = .ok (.aload_n 0, 1) := by decide +kernel
theorem dX12_triedBy_68 : decode cX12_triedBy 68 = .ok (.getfield 13, 3) := by decide +kernel
theorem dX12_triedBy_71 : decode cX12_triedBy 71 = .ok (.sipush 837, 3) := by decide +kernel
theorem dX12_triedBy_74 : decode cX12_triedBy 74 = .ok (.iaload, 1) := by decide +kernel
theorem dX12_triedBy_75 : decode cX12_triedBy 75 = .ok (.isub, 1) := by decide +kernel
theorem dX12_triedBy_76 : decode cX12_triedBy 76 = .ok (.ireturn, 1) := by decide +kernel
theorem dX12_triedBy_77 : decode cX12_triedBy 77 = .ok (.aload_n 0, 1) := by decide +kernel
theorem dX12_triedBy_78 : decode cX12_triedBy 78 = .ok (.getfield 7, 3) := by decide +kernel
theorem dX12_triedBy_81 : decode cX12_triedBy 81 = .ok (.sipush 836, 3) := by decide +kernel
theorem dX12_triedBy_84 : decode cX12_triedBy 84 = .ok (.iaload, 1) := by decide +kernel
theorem dX12_triedBy_85 : decode cX12_triedBy 85 = .ok (.aload_n 0, 1) := by decide +kernel
theorem dX12_triedBy_86 : decode cX12_triedBy 86 = .ok (.getfield 13, 3) := by decide +kernel
theorem dX12_triedBy_89 : decode cX12_triedBy 89 = .ok (.sipush 836, 3) := by decide +kernel
theorem dX12_triedBy_92 : decode cX12_triedBy 92 = .ok (.iaload, 1) := by decide +kernel
theorem dX12_triedBy_93 : decode cX12_triedBy 93 = .ok (.isub, 1) := by decide +kernel
theorem dX12_triedBy_94 : decode cX12_triedBy 94 = .ok (.ireturn, 1) := by decide +kernel
theorem dX12_triedBy_95 : decode cX12_triedBy 95 = .ok (.aload_n 0, 1) := by decide +kernel
theorem dX12_triedBy_96 : decode cX12_triedBy 96 = .ok (.getfield 7, 3) := by decide +kernel
theorem dX12_triedBy_99 : decode cX12_triedBy 99 = .ok (.sipush 835, 3) := by decide +kernel
theorem dX12_triedBy_102 : decode cX12_triedBy 102 = .ok (.iaload, 1) := by decide +kernel
theorem dX12_triedBy_103 : decode cX12_triedBy 103 = .ok (.aload_n 0, 1) := by decide +kernel
theorem dX12_triedBy_104 : decode cX12_triedBy 104 = .ok (.getfield 13, 3) := by decide +kernel
theorem dX12_triedBy_107 : decode cX12_triedBy 107 = .ok (.sipush 835, 3) := by decide +kernel
theorem dX12_triedBy_110 : decode cX12_triedBy 110 = .ok (.iaload, 1) := by decide +kernel
theorem dX12_triedBy_111 : decode cX12_triedBy 111 = .ok (.isub, 1) := by decide +kernel
theorem dX12_triedBy_112 : decode cX12_triedBy 112 = .ok (.ireturn, 1) := by decide +kernel
theorem dX12_triedBy_113 : decode cX12_triedBy 113 = .ok (.iload_n 1, 1) := by decide +kernel
theorem dX12_triedBy_114 : decode cX12_triedBy 114 = .ok (.bipush 20, 2) := by decide +kernel
theorem dX12_triedBy_116 : decode cX12_triedBy 116 = .ok (.if_icmp .ge 14, 3) := by decide +kernel
theorem dX12_triedBy_119 : decode cX12_triedBy 119 = .ok (.aload_n 0, 1) := by decide +kernel
theorem dX12_triedBy_120 : decode cX12_triedBy 120 = .ok (.iload_n 1, 1) := by decide +kernel
theorem dX12_triedBy_121 : decode cX12_triedBy 121 = .ok (.bipush 10, 2) := by decide +kernel
theorem dX12_triedBy_123 : decode cX12_triedBy 123 = .ok (.isub, 1) := by decide +kernel
theorem dX12_triedBy_124 : decode cX12_triedBy 124 = .ok (.invokevirtual 135, 3) := by decide +kernel
theorem dX12_triedBy_127 : decode cX12_triedBy 127 = .ok (.goto 34, 3) := by decide +kernel
theorem dX12_triedBy_130 : decode cX12_triedBy 130 = .ok (.iload_n 1, 1) := by decide +kernel
theorem dX12_triedBy_131 : decode cX12_triedBy 131 = .ok (.bipush 30, 2) := by decide +kernel
theorem dX12_triedBy_133 : decode cX12_triedBy 133 = .ok (.if_icmp .ge 17, 3) := by decide +kernel
theorem dX12_triedBy_136 : decode cX12_triedBy 136 = .ok (.aload_n 0, 1) := by decide +kernel
theorem dX12_triedBy_137 : decode cX12_triedBy 137 = .ok (.sipush 256, 3) := by decide +kernel
theorem dX12_triedBy_140 : decode cX12_triedBy 140 = .ok (.iload_n 1, 1) := by decide +kernel
theorem dX12_triedBy_141 : decode cX12_triedBy 141 = .ok (.bipush 20, 2) := by decide +kernel
theorem dX12_triedBy_143 : decode cX12_triedBy 143 = .ok (.isub, 1) := by decide +kernel
theorem dX12_triedBy_144 : decode cX12_triedBy 144 = .ok (.invokevirtual 328, 3) := by decide +kernel
theorem dX12_triedBy_147 : decode cX12_triedBy 147 = .ok (.goto 14, 3) := by decide +kernel
theorem dX12_triedBy_150 : decode cX12_triedBy 150 = .ok (.aload_n 0, 1) := by decide +kernel
theorem dX12_triedBy_151 : decode cX12_triedBy 151 = .ok (.sipush 576, 3) := by decide +kernel
theorem dX12_triedBy_154 : decode cX12_triedBy 154 = .ok (.iload_n 1, 1) := by decide +kernel
theorem dX12_triedBy_155 : decode cX12_triedBy 155 = .ok (.bipush 30, 2) := by decide +kernel
theorem dX12_triedBy_157 : decode cX12_triedBy 157 = .ok (.isub, 1) := by decide +kernel
theorem dX12_triedBy_158 : decode cX12_triedBy 158 = .ok (.invokevirtual 328, 3) := by decide +kernel
theorem dX12_triedBy_161 : decode cX12_triedBy 161 = .ok (.ireturn, 1) := by decide +kernel
theorem rX12_triedBy : (∀ (d : Nat) (a0 : Value) (x : Int32) (st : List Value) (h : fk_H), fk_ev d qX12_triedBy 0 [a0, .int x] st h = fk_ev d qX12_triedBy 1 [a0, .int x] (.int x :: st) h) ∧
  (∀ (d : Nat) (L st : List Value) (h : fk_H), fk_ev d qX12_triedBy 1 L (.int (nI 0) :: st) h = fk_ev d qX12_triedBy 36 L st h) ∧
  (∀ (d : Nat) (L st : List Value) (h : fk_H), fk_ev d qX12_triedBy 1 L (.int (nI 1) :: st) h = fk_ev d qX12_triedBy 41 L st h) ∧
  (∀ (d : Nat) (L st : List Value) (h : fk_H), fk_ev d qX12_triedBy 1 L (.int (nI 2) :: st) h = fk_ev d qX12_triedBy 59 L st h) ∧
  (∀ (d : Nat) (L st : List Value) (h : fk_H), fk_ev d qX12_triedBy 1 L (.int (nI 3) :: st) h = fk_ev d qX12_triedBy 77 L st h) ∧
  (∀ (d : Nat) (L st : List Value) (h : fk_H), fk_ev d qX12_triedBy 1 L (.int (nI 4) :: st) h = fk_ev d qX12_triedBy 95 L st h) ∧
  (∀ (d : Nat) (L : List Value) (x : Int32) (st : List Value) (h : fk_H), (x.toInt < 0 ∨ 4 < x.toInt) → fk_ev d qX12_triedBy 1 L (.int x :: st) h = fk_ev d qX12_triedBy 113 L st h) ∧
  (∀ (d : Nat) (a1 : Value) (x : Nat) (st : List Value) (h : fk_H), fk_ev d qX12_triedBy 36 [.ref x, a1] st h = fk_ev d qX12_triedBy 37 [.ref x, a1] (.ref x :: st) h) ∧
  (∀ (d : Nat) (L : List Value)   (N : Nat) (y : Nat → Nat → Int32) (l : Nat → Nat → Int64), fk_ev (d + 1) qX12_triedBy 37 L (.ref 246 :: []) (fk_E N y l) = (fk_ev d qX12_living 0 [.ref 246, .null, .null] [] (fk_E N y l)).bind fun o => fk_ev (d + 1) qX12_triedBy 40 L (o.1.toList ++ []) o.2) ∧
  (∀ (d : Nat) (L : List Value) (x : Int32) (h : fk_H), fk_ev d qX12_triedBy 40 L [.int x] h = some (some (.int x), h)) ∧
  (∀ (d : Nat) (a1 : Value) (x : Nat) (st : List Value) (h : fk_H), fk_ev d qX12_triedBy 41 [.ref x, a1] st h = fk_ev d qX12_triedBy 42 [.ref x, a1] (.ref x :: st) h) ∧
  (∀ (d : Nat) (L st : List Value) (N : Nat) (y : Nat → Nat → Int32) (l : Nat → Nat → Int64), fk_ev d qX12_triedBy 42 L (.ref 246 :: st) (fk_E N y l) = fk_ev d qX12_triedBy 45 L (.ref 247 :: st) (fk_E N y l)) ∧
  (∀ (d : Nat) (L st : List Value) (h : fk_H), fk_ev d qX12_triedBy 45 L st h = fk_ev d qX12_triedBy 48 L (.int (nI 838) :: st) h) ∧
  (∀ (d : Nat) (L st : List Value) (N : Nat) (y : Nat → Nat → Int32) (l : Nat → Nat → Int64) (i : Nat), i < 3912 → fk_ev d qX12_triedBy 48 L (.int (nI i) :: .ref 247 :: st) (fk_E N y l) = fk_ev d qX12_triedBy 49 L (.int (y 247 i) :: st) (fk_E N y l)) ∧
  (∀ (d : Nat) (a1 : Value) (x : Nat) (st : List Value) (h : fk_H), fk_ev d qX12_triedBy 49 [.ref x, a1] st h = fk_ev d qX12_triedBy 50 [.ref x, a1] (.ref x :: st) h) ∧
  (∀ (d : Nat) (L st : List Value) (N : Nat) (y : Nat → Nat → Int32) (l : Nat → Nat → Int64), fk_ev d qX12_triedBy 50 L (.ref 246 :: st) (fk_E N y l) = fk_ev d qX12_triedBy 53 L (.ref 248 :: st) (fk_E N y l)) ∧
  (∀ (d : Nat) (L st : List Value) (h : fk_H), fk_ev d qX12_triedBy 53 L st h = fk_ev d qX12_triedBy 56 L (.int (nI 838) :: st) h) ∧
  (∀ (d : Nat) (L st : List Value) (N : Nat) (y : Nat → Nat → Int32) (l : Nat → Nat → Int64) (i : Nat), i < 3912 → fk_ev d qX12_triedBy 56 L (.int (nI i) :: .ref 248 :: st) (fk_E N y l) = fk_ev d qX12_triedBy 57 L (.int (y 248 i) :: st) (fk_E N y l)) ∧
  (∀ (d : Nat) (L : List Value) (x y : Int32) (st : List Value) (h : fk_H), fk_ev d qX12_triedBy 57 L (.int y :: .int x :: st) h = fk_ev d qX12_triedBy 58 L (.int (x - y) :: st) h) ∧
  (∀ (d : Nat) (L : List Value) (x : Int32) (h : fk_H), fk_ev d qX12_triedBy 58 L [.int x] h = some (some (.int x), h)) ∧
  (∀ (d : Nat) (a1 : Value) (x : Nat) (st : List Value) (h : fk_H), fk_ev d qX12_triedBy 59 [.ref x, a1] st h = fk_ev d qX12_triedBy 60 [.ref x, a1] (.ref x :: st) h) ∧
  (∀ (d : Nat) (L st : List Value) (N : Nat) (y : Nat → Nat → Int32) (l : Nat → Nat → Int64), fk_ev d qX12_triedBy 60 L (.ref 246 :: st) (fk_E N y l) = fk_ev d qX12_triedBy 63 L (.ref 247 :: st) (fk_E N y l)) ∧
  (∀ (d : Nat) (L st : List Value) (h : fk_H), fk_ev d qX12_triedBy 63 L st h = fk_ev d qX12_triedBy 66 L (.int (nI 837) :: st) h) ∧
  (∀ (d : Nat) (L st : List Value) (N : Nat) (y : Nat → Nat → Int32) (l : Nat → Nat → Int64) (i : Nat), i < 3912 → fk_ev d qX12_triedBy 66 L (.int (nI i) :: .ref 247 :: st) (fk_E N y l) = fk_ev d qX12_triedBy 67 L (.int (y 247 i) :: st) (fk_E N y l)) ∧
  (∀ (d : Nat) (a1 : Value) (x : Nat) (st : List Value) (h : fk_H), fk_ev d qX12_triedBy 67 [.ref x, a1] st h = fk_ev d qX12_triedBy 68 [.ref x, a1] (.ref x :: st) h) ∧
  (∀ (d : Nat) (L st : List Value) (N : Nat) (y : Nat → Nat → Int32) (l : Nat → Nat → Int64), fk_ev d qX12_triedBy 68 L (.ref 246 :: st) (fk_E N y l) = fk_ev d qX12_triedBy 71 L (.ref 248 :: st) (fk_E N y l)) ∧
  (∀ (d : Nat) (L st : List Value) (h : fk_H), fk_ev d qX12_triedBy 71 L st h = fk_ev d qX12_triedBy 74 L (.int (nI 837) :: st) h) ∧
  (∀ (d : Nat) (L st : List Value) (N : Nat) (y : Nat → Nat → Int32) (l : Nat → Nat → Int64) (i : Nat), i < 3912 → fk_ev d qX12_triedBy 74 L (.int (nI i) :: .ref 248 :: st) (fk_E N y l) = fk_ev d qX12_triedBy 75 L (.int (y 248 i) :: st) (fk_E N y l)) ∧
  (∀ (d : Nat) (L : List Value) (x y : Int32) (st : List Value) (h : fk_H), fk_ev d qX12_triedBy 75 L (.int y :: .int x :: st) h = fk_ev d qX12_triedBy 76 L (.int (x - y) :: st) h) ∧
  (∀ (d : Nat) (L : List Value) (x : Int32) (h : fk_H), fk_ev d qX12_triedBy 76 L [.int x] h = some (some (.int x), h)) ∧
  (∀ (d : Nat) (a1 : Value) (x : Nat) (st : List Value) (h : fk_H), fk_ev d qX12_triedBy 77 [.ref x, a1] st h = fk_ev d qX12_triedBy 78 [.ref x, a1] (.ref x :: st) h) ∧
  (∀ (d : Nat) (L st : List Value) (N : Nat) (y : Nat → Nat → Int32) (l : Nat → Nat → Int64), fk_ev d qX12_triedBy 78 L (.ref 246 :: st) (fk_E N y l) = fk_ev d qX12_triedBy 81 L (.ref 247 :: st) (fk_E N y l)) ∧
  (∀ (d : Nat) (L st : List Value) (h : fk_H), fk_ev d qX12_triedBy 81 L st h = fk_ev d qX12_triedBy 84 L (.int (nI 836) :: st) h) ∧
  (∀ (d : Nat) (L st : List Value) (N : Nat) (y : Nat → Nat → Int32) (l : Nat → Nat → Int64) (i : Nat), i < 3912 → fk_ev d qX12_triedBy 84 L (.int (nI i) :: .ref 247 :: st) (fk_E N y l) = fk_ev d qX12_triedBy 85 L (.int (y 247 i) :: st) (fk_E N y l)) ∧
  (∀ (d : Nat) (a1 : Value) (x : Nat) (st : List Value) (h : fk_H), fk_ev d qX12_triedBy 85 [.ref x, a1] st h = fk_ev d qX12_triedBy 86 [.ref x, a1] (.ref x :: st) h) ∧
  (∀ (d : Nat) (L st : List Value) (N : Nat) (y : Nat → Nat → Int32) (l : Nat → Nat → Int64), fk_ev d qX12_triedBy 86 L (.ref 246 :: st) (fk_E N y l) = fk_ev d qX12_triedBy 89 L (.ref 248 :: st) (fk_E N y l)) ∧
  (∀ (d : Nat) (L st : List Value) (h : fk_H), fk_ev d qX12_triedBy 89 L st h = fk_ev d qX12_triedBy 92 L (.int (nI 836) :: st) h) ∧
  (∀ (d : Nat) (L st : List Value) (N : Nat) (y : Nat → Nat → Int32) (l : Nat → Nat → Int64) (i : Nat), i < 3912 → fk_ev d qX12_triedBy 92 L (.int (nI i) :: .ref 248 :: st) (fk_E N y l) = fk_ev d qX12_triedBy 93 L (.int (y 248 i) :: st) (fk_E N y l)) ∧
  (∀ (d : Nat) (L : List Value) (x y : Int32) (st : List Value) (h : fk_H), fk_ev d qX12_triedBy 93 L (.int y :: .int x :: st) h = fk_ev d qX12_triedBy 94 L (.int (x - y) :: st) h) ∧
  (∀ (d : Nat) (L : List Value) (x : Int32) (h : fk_H), fk_ev d qX12_triedBy 94 L [.int x] h = some (some (.int x), h)) ∧
  (∀ (d : Nat) (a1 : Value) (x : Nat) (st : List Value) (h : fk_H), fk_ev d qX12_triedBy 95 [.ref x, a1] st h = fk_ev d qX12_triedBy 96 [.ref x, a1] (.ref x :: st) h) ∧
  (∀ (d : Nat) (L st : List Value) (N : Nat) (y : Nat → Nat → Int32) (l : Nat → Nat → Int64), fk_ev d qX12_triedBy 96 L (.ref 246 :: st) (fk_E N y l) = fk_ev d qX12_triedBy 99 L (.ref 247 :: st) (fk_E N y l)) ∧
  (∀ (d : Nat) (L st : List Value) (h : fk_H), fk_ev d qX12_triedBy 99 L st h = fk_ev d qX12_triedBy 102 L (.int (nI 835) :: st) h) ∧
  (∀ (d : Nat) (L st : List Value) (N : Nat) (y : Nat → Nat → Int32) (l : Nat → Nat → Int64) (i : Nat), i < 3912 → fk_ev d qX12_triedBy 102 L (.int (nI i) :: .ref 247 :: st) (fk_E N y l) = fk_ev d qX12_triedBy 103 L (.int (y 247 i) :: st) (fk_E N y l)) ∧
  (∀ (d : Nat) (a1 : Value) (x : Nat) (st : List Value) (h : fk_H), fk_ev d qX12_triedBy 103 [.ref x, a1] st h = fk_ev d qX12_triedBy 104 [.ref x, a1] (.ref x :: st) h) ∧
  (∀ (d : Nat) (L st : List Value) (N : Nat) (y : Nat → Nat → Int32) (l : Nat → Nat → Int64), fk_ev d qX12_triedBy 104 L (.ref 246 :: st) (fk_E N y l) = fk_ev d qX12_triedBy 107 L (.ref 248 :: st) (fk_E N y l)) ∧
  (∀ (d : Nat) (L st : List Value) (h : fk_H), fk_ev d qX12_triedBy 107 L st h = fk_ev d qX12_triedBy 110 L (.int (nI 835) :: st) h) ∧
  (∀ (d : Nat) (L st : List Value) (N : Nat) (y : Nat → Nat → Int32) (l : Nat → Nat → Int64) (i : Nat), i < 3912 → fk_ev d qX12_triedBy 110 L (.int (nI i) :: .ref 248 :: st) (fk_E N y l) = fk_ev d qX12_triedBy 111 L (.int (y 248 i) :: st) (fk_E N y l)) ∧
  (∀ (d : Nat) (L : List Value) (x y : Int32) (st : List Value) (h : fk_H), fk_ev d qX12_triedBy 111 L (.int y :: .int x :: st) h = fk_ev d qX12_triedBy 112 L (.int (x - y) :: st) h) ∧
  (∀ (d : Nat) (L : List Value) (x : Int32) (h : fk_H), fk_ev d qX12_triedBy 112 L [.int x] h = some (some (.int x), h)) ∧
  (∀ (d : Nat) (a0 : Value) (x : Int32) (st : List Value) (h : fk_H), fk_ev d qX12_triedBy 113 [a0, .int x] st h = fk_ev d qX12_triedBy 114 [a0, .int x] (.int x :: st) h) ∧
  (∀ (d : Nat) (L st : List Value) (h : fk_H), fk_ev d qX12_triedBy 114 L st h = fk_ev d qX12_triedBy 116 L (.int (nI 20) :: st) h) ∧
  (∀ (d : Nat) (L : List Value) (x y : Int32) (st : List Value) (h : fk_H), fk_ev d qX12_triedBy 116 L (.int y :: .int x :: st) h = if y ≤ x then fk_ev d qX12_triedBy 130 L st h else fk_ev d qX12_triedBy 119 L st h) ∧
  (∀ (d : Nat) (a1 : Value) (x : Nat) (st : List Value) (h : fk_H), fk_ev d qX12_triedBy 119 [.ref x, a1] st h = fk_ev d qX12_triedBy 120 [.ref x, a1] (.ref x :: st) h) ∧
  (∀ (d : Nat) (a0 : Value) (x : Int32) (st : List Value) (h : fk_H), fk_ev d qX12_triedBy 120 [a0, .int x] st h = fk_ev d qX12_triedBy 121 [a0, .int x] (.int x :: st) h) ∧
  (∀ (d : Nat) (L st : List Value) (h : fk_H), fk_ev d qX12_triedBy 121 L st h = fk_ev d qX12_triedBy 123 L (.int (nI 10) :: st) h) ∧
  (∀ (d : Nat) (L : List Value) (x y : Int32) (st : List Value) (h : fk_H), fk_ev d qX12_triedBy 123 L (.int y :: .int x :: st) h = fk_ev d qX12_triedBy 124 L (.int (x - y) :: st) h) ∧
  (∀ (d : Nat) (L : List Value) (x0 : Int32)  (N : Nat) (y : Nat → Nat → Int32) (l : Nat → Nat → Int64), fk_ev (d + 1) qX12_triedBy 124 L (.int x0 :: .ref 246 :: []) (fk_E N y l) = (fk_ev d qX12_livingOf 0 [.ref 246, .int x0, .null, .null] [] (fk_E N y l)).bind fun o => fk_ev (d + 1) qX12_triedBy 127 L (o.1.toList ++ []) o.2) ∧
  (∀ (d : Nat) (L st : List Value) (h : fk_H), fk_ev d qX12_triedBy 127 L st h = fk_ev d qX12_triedBy 161 L st h) ∧
  (∀ (d : Nat) (a0 : Value) (x : Int32) (st : List Value) (h : fk_H), fk_ev d qX12_triedBy 130 [a0, .int x] st h = fk_ev d qX12_triedBy 131 [a0, .int x] (.int x :: st) h) ∧
  (∀ (d : Nat) (L st : List Value) (h : fk_H), fk_ev d qX12_triedBy 131 L st h = fk_ev d qX12_triedBy 133 L (.int (nI 30) :: st) h) ∧
  (∀ (d : Nat) (L : List Value) (x y : Int32) (st : List Value) (h : fk_H), fk_ev d qX12_triedBy 133 L (.int y :: .int x :: st) h = if y ≤ x then fk_ev d qX12_triedBy 150 L st h else fk_ev d qX12_triedBy 136 L st h) ∧
  (∀ (d : Nat) (a1 : Value) (x : Nat) (st : List Value) (h : fk_H), fk_ev d qX12_triedBy 136 [.ref x, a1] st h = fk_ev d qX12_triedBy 137 [.ref x, a1] (.ref x :: st) h) ∧
  (∀ (d : Nat) (L st : List Value) (h : fk_H), fk_ev d qX12_triedBy 137 L st h = fk_ev d qX12_triedBy 140 L (.int (nI 256) :: st) h) ∧
  (∀ (d : Nat) (a0 : Value) (x : Int32) (st : List Value) (h : fk_H), fk_ev d qX12_triedBy 140 [a0, .int x] st h = fk_ev d qX12_triedBy 141 [a0, .int x] (.int x :: st) h) ∧
  (∀ (d : Nat) (L st : List Value) (h : fk_H), fk_ev d qX12_triedBy 141 L st h = fk_ev d qX12_triedBy 143 L (.int (nI 20) :: st) h) ∧
  (∀ (d : Nat) (L : List Value) (x y : Int32) (st : List Value) (h : fk_H), fk_ev d qX12_triedBy 143 L (.int y :: .int x :: st) h = fk_ev d qX12_triedBy 144 L (.int (x - y) :: st) h) ∧
  (∀ (d : Nat) (L : List Value) (x0 : Int32) (x1 : Int32)  (N : Nat) (y : Nat → Nat → Int32) (l : Nat → Nat → Int64), fk_ev (d + 1) qX12_triedBy 144 L (.int x1 :: .int x0 :: .ref 246 :: []) (fk_E N y l) = (fk_ev d qX12_sumFor 0 [.ref 246, .int x0, .int x1, .null, .null] [] (fk_E N y l)).bind fun o => fk_ev (d + 1) qX12_triedBy 147 L (o.1.toList ++ []) o.2) ∧
  (∀ (d : Nat) (L st : List Value) (h : fk_H), fk_ev d qX12_triedBy 147 L st h = fk_ev d qX12_triedBy 161 L st h) ∧
  (∀ (d : Nat) (a1 : Value) (x : Nat) (st : List Value) (h : fk_H), fk_ev d qX12_triedBy 150 [.ref x, a1] st h = fk_ev d qX12_triedBy 151 [.ref x, a1] (.ref x :: st) h) ∧
  (∀ (d : Nat) (L st : List Value) (h : fk_H), fk_ev d qX12_triedBy 151 L st h = fk_ev d qX12_triedBy 154 L (.int (nI 576) :: st) h) ∧
  (∀ (d : Nat) (a0 : Value) (x : Int32) (st : List Value) (h : fk_H), fk_ev d qX12_triedBy 154 [a0, .int x] st h = fk_ev d qX12_triedBy 155 [a0, .int x] (.int x :: st) h) ∧
  (∀ (d : Nat) (L st : List Value) (h : fk_H), fk_ev d qX12_triedBy 155 L st h = fk_ev d qX12_triedBy 157 L (.int (nI 30) :: st) h) ∧
  (∀ (d : Nat) (L : List Value) (x y : Int32) (st : List Value) (h : fk_H), fk_ev d qX12_triedBy 157 L (.int y :: .int x :: st) h = fk_ev d qX12_triedBy 158 L (.int (x - y) :: st) h) ∧
  (∀ (d : Nat) (L : List Value) (x0 : Int32) (x1 : Int32)  (N : Nat) (y : Nat → Nat → Int32) (l : Nat → Nat → Int64), fk_ev (d + 1) qX12_triedBy 158 L (.int x1 :: .int x0 :: .ref 246 :: []) (fk_E N y l) = (fk_ev d qX12_sumFor 0 [.ref 246, .int x0, .int x1, .null, .null] [] (fk_E N y l)).bind fun o => fk_ev (d + 1) qX12_triedBy 161 L (o.1.toList ++ []) o.2) ∧
  (∀ (d : Nat) (L : List Value) (x : Int32) (h : fk_H), fk_ev d qX12_triedBy 161 L [.int x] h = some (some (.int x), h)) := ⟨fun d a0 x st h => fk_w_iloadn 1 [a0, .int x] dX12_triedBy_0 rfl,
  fun d L st h => fk_w_tab (0) (off := 35) dX12_triedBy_1 (by decide) (by decide) (by decide) (by decide),
  fun d L st h => fk_w_tab (1) (off := 40) dX12_triedBy_1 (by decide) (by decide) (by decide) (by decide),
  fun d L st h => fk_w_tab (2) (off := 58) dX12_triedBy_1 (by decide) (by decide) (by decide) (by decide),
  fun d L st h => fk_w_tab (3) (off := 76) dX12_triedBy_1 (by decide) (by decide) (by decide) (by decide),
  fun d L st h => fk_w_tab (4) (off := 94) dX12_triedBy_1 (by decide) (by decide) (by decide) (by decide),
  fun d L x st h hx => fk_w_tabo dX12_triedBy_1 hx (by decide),
  fun d a1 x st h => fk_w_aloadn 0 [.ref x, a1] dX12_triedBy_36 rfl,
  fun d L  N y l  => fk_g_call [] [] rfl lm_12_325 dX12_triedBy_37 rfl ⟨rfl, by decide⟩ (by simp) fk_at_246,
  fun d L x h => fk_r_ret dX12_triedBy_40 (Or.inl rfl),
  fun d a1 x st h => fk_w_aloadn 0 [.ref x, a1] dX12_triedBy_41 rfl,
  fun d L st N y l => fk_g_getC rfl lf_12_7 (by decide) rfl dX12_triedBy_42 fk_at_246,
  fun d L st h => fk_w_sipush dX12_triedBy_45 (by decide),
  fun d L st N y l i hi => fk_g_iald fk_at_247 fk_ln_247 (by decide) dX12_triedBy_48 hi,
  fun d a1 x st h => fk_w_aloadn 0 [.ref x, a1] dX12_triedBy_49 rfl,
  fun d L st N y l => fk_g_getC rfl lf_12_13 (by decide) rfl dX12_triedBy_50 fk_at_246,
  fun d L st h => fk_w_sipush dX12_triedBy_53 (by decide),
  fun d L st N y l i hi => fk_g_iald fk_at_248 fk_ln_248 (by decide) dX12_triedBy_56 hi,
  fun d L x y st h => fk_r_isub dX12_triedBy_57,
  fun d L x h => fk_r_ret dX12_triedBy_58 (Or.inl rfl),
  fun d a1 x st h => fk_w_aloadn 0 [.ref x, a1] dX12_triedBy_59 rfl,
  fun d L st N y l => fk_g_getC rfl lf_12_7 (by decide) rfl dX12_triedBy_60 fk_at_246,
  fun d L st h => fk_w_sipush dX12_triedBy_63 (by decide),
  fun d L st N y l i hi => fk_g_iald fk_at_247 fk_ln_247 (by decide) dX12_triedBy_66 hi,
  fun d a1 x st h => fk_w_aloadn 0 [.ref x, a1] dX12_triedBy_67 rfl,
  fun d L st N y l => fk_g_getC rfl lf_12_13 (by decide) rfl dX12_triedBy_68 fk_at_246,
  fun d L st h => fk_w_sipush dX12_triedBy_71 (by decide),
  fun d L st N y l i hi => fk_g_iald fk_at_248 fk_ln_248 (by decide) dX12_triedBy_74 hi,
  fun d L x y st h => fk_r_isub dX12_triedBy_75,
  fun d L x h => fk_r_ret dX12_triedBy_76 (Or.inl rfl),
  fun d a1 x st h => fk_w_aloadn 0 [.ref x, a1] dX12_triedBy_77 rfl,
  fun d L st N y l => fk_g_getC rfl lf_12_7 (by decide) rfl dX12_triedBy_78 fk_at_246,
  fun d L st h => fk_w_sipush dX12_triedBy_81 (by decide),
  fun d L st N y l i hi => fk_g_iald fk_at_247 fk_ln_247 (by decide) dX12_triedBy_84 hi,
  fun d a1 x st h => fk_w_aloadn 0 [.ref x, a1] dX12_triedBy_85 rfl,
  fun d L st N y l => fk_g_getC rfl lf_12_13 (by decide) rfl dX12_triedBy_86 fk_at_246,
  fun d L st h => fk_w_sipush dX12_triedBy_89 (by decide),
  fun d L st N y l i hi => fk_g_iald fk_at_248 fk_ln_248 (by decide) dX12_triedBy_92 hi,
  fun d L x y st h => fk_r_isub dX12_triedBy_93,
  fun d L x h => fk_r_ret dX12_triedBy_94 (Or.inl rfl),
  fun d a1 x st h => fk_w_aloadn 0 [.ref x, a1] dX12_triedBy_95 rfl,
  fun d L st N y l => fk_g_getC rfl lf_12_7 (by decide) rfl dX12_triedBy_96 fk_at_246,
  fun d L st h => fk_w_sipush dX12_triedBy_99 (by decide),
  fun d L st N y l i hi => fk_g_iald fk_at_247 fk_ln_247 (by decide) dX12_triedBy_102 hi,
  fun d a1 x st h => fk_w_aloadn 0 [.ref x, a1] dX12_triedBy_103 rfl,
  fun d L st N y l => fk_g_getC rfl lf_12_13 (by decide) rfl dX12_triedBy_104 fk_at_246,
  fun d L st h => fk_w_sipush dX12_triedBy_107 (by decide),
  fun d L st N y l i hi => fk_g_iald fk_at_248 fk_ln_248 (by decide) dX12_triedBy_110 hi,
  fun d L x y st h => fk_r_isub dX12_triedBy_111,
  fun d L x h => fk_r_ret dX12_triedBy_112 (Or.inl rfl),
  fun d a0 x st h => fk_w_iloadn 1 [a0, .int x] dX12_triedBy_113 rfl,
  fun d L st h => fk_w_bipush dX12_triedBy_114 (by decide),
  fun d L x y st h => fk_r_icmp_ge dX12_triedBy_116 (by decide),
  fun d a1 x st h => fk_w_aloadn 0 [.ref x, a1] dX12_triedBy_119 rfl,
  fun d a0 x st h => fk_w_iloadn 1 [a0, .int x] dX12_triedBy_120 rfl,
  fun d L st h => fk_w_bipush dX12_triedBy_121 (by decide),
  fun d L x y st h => fk_r_isub dX12_triedBy_123,
  fun d L x0 N y l  => fk_g_call [.int x0] [] rfl lm_12_135 dX12_triedBy_124 rfl ⟨rfl, by decide⟩ (by simp) fk_at_246,
  fun d L st h => fk_r_goto dX12_triedBy_127 (by decide),
  fun d a0 x st h => fk_w_iloadn 1 [a0, .int x] dX12_triedBy_130 rfl,
  fun d L st h => fk_w_bipush dX12_triedBy_131 (by decide),
  fun d L x y st h => fk_r_icmp_ge dX12_triedBy_133 (by decide),
  fun d a1 x st h => fk_w_aloadn 0 [.ref x, a1] dX12_triedBy_136 rfl,
  fun d L st h => fk_w_sipush dX12_triedBy_137 (by decide),
  fun d a0 x st h => fk_w_iloadn 1 [a0, .int x] dX12_triedBy_140 rfl,
  fun d L st h => fk_w_bipush dX12_triedBy_141 (by decide),
  fun d L x y st h => fk_r_isub dX12_triedBy_143,
  fun d L x0 x1 N y l  => fk_g_call [.int x0, .int x1] [] rfl lm_12_328 dX12_triedBy_144 rfl ⟨rfl, by decide⟩ (by simp) fk_at_246,
  fun d L st h => fk_r_goto dX12_triedBy_147 (by decide),
  fun d a1 x st h => fk_w_aloadn 0 [.ref x, a1] dX12_triedBy_150 rfl,
  fun d L st h => fk_w_sipush dX12_triedBy_151 (by decide),
  fun d a0 x st h => fk_w_iloadn 1 [a0, .int x] dX12_triedBy_154 rfl,
  fun d L st h => fk_w_bipush dX12_triedBy_155 (by decide),
  fun d L x y st h => fk_r_isub dX12_triedBy_157,
  fun d L x0 x1 N y l  => fk_g_call [.int x0, .int x1] [] rfl lm_12_328 dX12_triedBy_158 rfl ⟨rfl, by decide⟩ (by simp) fk_at_246,
  fun d L x h => fk_r_ret dX12_triedBy_161 (Or.inl rfl)⟩
theorem dX12_tried_0 : decode cX12_tried 0 = .ok (.iload_n 2, 1) := by decide +kernel
theorem dX12_tried_1 : decode cX12_tried 1 = .ok (.iconst 0, 1) := by decide +kernel
theorem dX12_tried_2 : decode cX12_tried 2 = .ok (.iconst 4, 1) := by decide +kernel
theorem dX12_tried_3 : decode cX12_tried 3 = .ok (.invokestatic 112, 3) := by decide +kernel
theorem dX12_tried_6 : decode cX12_tried 6 = .ok (.ifCond .ne 22, 3) := by decide +kernel
theorem dX12_tried_9 : decode cX12_tried 9 = .ok (.iload_n 2, 1) := by decide +kernel
theorem dX12_tried_10 : decode cX12_tried 10 = .ok (.bipush 10, 2) := by decide +kernel
theorem dX12_tried_12 : decode cX12_tried 12 = .ok (.bipush 39, 2) := by decide +kernel
theorem dX12_tried_14 : decode cX12_tried 14 = .ok (.invokestatic 112, 3) := by decide +kernel
theorem dX12_tried_17 : decode cX12_tried 17 = .ok (.ifCond .eq 15, 3) := by decide +kernel
theorem dX12_tried_20 : decode cX12_tried 20 = .ok (.iload_n 2, 1) := by decide +kernel
theorem dX12_tried_21 : decode cX12_tried 21 = .ok (.bipush 10, 2) := by decide +kernel
theorem dX12_tried_23 : decode cX12_tried 23 = .ok (.irem, 1) := by decide +kernel
theorem dX12_tried_24 : decode cX12_tried 24 = .ok (.iconst 4, 1) := by decide +kernel
theorem dX12_tried_25 : decode cX12_tried 25 = .ok (.if_icmp .ge 7, 3) := by decide +kernel
theorem dX12_tried_28 : decode cX12_tried 28 = .ok (.iconst 1, 1) := by decide +kernel
theorem dX12_tried_29 : decode cX12_tried 29 = .ok (.goto 4, 3) := by decide +kernel
theorem dX12_tried_32 : decode cX12_tried 32 = .ok (.iconst 0, 1) := by decide +kernel
theorem dX12_tried_33 : decode cX12_tried 33 = .ok (.istore_n 3, 1) := by decide +kernel
theorem dX12_tried_34 : decode cX12_tried 34 = .ok (.iload_n 1, 1) := by decide +kernel
theorem dX12_tried_35 : decode cX12_tried 35 = .ok (.iconst 1, 1) := by decide +kernel
theorem dX12_tried_36 : decode cX12_tried 36 = .ok (.bipush 48, 2) := by decide +kernel
theorem dX12_tried_38 : decode cX12_tried 38 = .ok (.invokestatic 112, 3) := by decide +kernel
theorem dX12_tried_41 : decode cX12_tried 41 = .ok (.ifCond .eq 23, 3) := by decide +kernel
theorem dX12_tried_44 : decode cX12_tried 44 = .ok (.aload_n 0, 1) := by decide +kernel
theorem dX12_tried_45 : decode cX12_tried 45 = .ok (.getfield 7, 3) := by decide +kernel
theorem dX12_tried_48 : decode cX12_tried 48 = .ok (.sipush 832, 3) := by decide +kernel
theorem dX12_tried_51 : decode cX12_tried 51 = .ok (.iaload, 1) := by decide +kernel
theorem dX12_tried_52 : decode cX12_tried 52 = .ok (.iload_n 1, 1) := by decide +kernel
theorem dX12_tried_53 : decode cX12_tried 53 = .ok (.iadd, 1) := by decide +kernel
theorem dX12_tried_54 : decode cX12_tried 54 = .ok (.sipush 999, 3) := by decide +kernel
theorem dX12_tried_57 : decode cX12_tried 57 = .ok (.if_icmp .gt 7, 3) := by decide +kernel
theorem dX12_tried_60 : decode cX12_tried 60 = .ok (.iload_n 3, 1) := by decide +kernel
theorem dX12_tried_61 : decode cX12_tried 61 = .ok (.ifCond .ne 5, 3) := by decide +kernel
theorem dX12_tried_64 : decode cX12_tried 64 = .ok (.iconst (-1), 1) := by decide +kernel
theorem dX12_tried_65 : decode cX12_tried 65 = .ok (.ireturn, 1) := by decide +kernel
theorem dX12_tried_66 : decode cX12_tried 66 = .ok (.aload_n 0, 1) := by decide +kernel
theorem dX12_tried_67 : decode cX12_tried 67 = .ok (.invokevirtual 331, 3) := by decide +kernel
theorem dX12_tried_70 : decode cX12_tried 70 = .ok (.iconst 0, 1) := by decide +kernel
theorem dX12_tried_71 : decode cX12_tried 71 = .ok (.istore 4, 2) := by decide +kernel
theorem dX12_tried_73 : decode cX12_tried 73 = .ok (.iload 4, 2) := by decide +kernel
theorem dX12_tried_75 : decode cX12_tried 75 = .ok (.iload_n 1, 1) := by decide +kernel
theorem dX12_tried_76 : decode cX12_tried 76 = .ok (.if_icmp .ge 13, 3) := by decide +kernel
theorem dX12_tried_79 : decode cX12_tried 79 = .ok (.aload_n 0, 1) := by decide +kernel
theorem dX12_tried_80 : decode cX12_tried 80 = .ok (.invokevirtual 322, 3) := by decide +kernel
theorem dX12_tried_83 : decode cX12_tried 83 = .ok (.iinc 4 1, 3) := by decide +kernel
theorem dX12_tried_86 : decode cX12_tried 86 = .ok (.goto (-13), 3) := by decide +kernel
theorem dX12_tried_89 : decode cX12_tried 89 = .ok (.aload_n 0, 1) := by decide +kernel
theorem dX12_tried_90 : decode cX12_tried 90 = .ok (.iload_n 2, 1) := by decide +kernel
theorem dX12_tried_91 : decode cX12_tried 91 = .ok (.invokevirtual 334, 3) := by decide +kernel
theorem dX12_tried_94 : decode cX12_tried 94 = .ok (.istore 4, 2) := by decide +kernel
theorem dX12_tried_96 : decode cX12_tried 96 = .ok (.aload_n 0, 1) := by decide +kernel
theorem dX12_tried_97 : decode cX12_tried 97 = .ok (.invokevirtual 337, 3) := by decide +kernel
theorem dX12_tried_100 : decode cX12_tried 100 = .ok (.iload 4, 2) := by decide +kernel
theorem dX12_tried_102 : decode cX12_tried 102 = .ok (.ireturn, 1) := by decide +kernel
theorem rX12_tried : (∀ (d : Nat) (a0 a1 a3 a4 : Value) (x : Int32) (st : List Value) (h : fk_H), fk_ev d qX12_tried 0 [a0, a1, .int x, a3, a4] st h = fk_ev d qX12_tried 1 [a0, a1, .int x, a3, a4] (.int x :: st) h) ∧
  (∀ (d : Nat) (L st : List Value) (h : fk_H), fk_ev d qX12_tried 1 L st h = fk_ev d qX12_tried 2 L (.int (nI 0) :: st) h) ∧
  (∀ (d : Nat) (L st : List Value) (h : fk_H), fk_ev d qX12_tried 2 L st h = fk_ev d qX12_tried 3 L (.int (nI 4) :: st) h) ∧
  (∀ (d : Nat) (L : List Value) (x0 : Int32) (x1 : Int32) (x2 : Int32)  (h : fk_H), fk_ev (d + 1) qX12_tried 3 L (.int x2 :: .int x1 :: .int x0 :: []) h = (fk_ev d qX12_in 0 [.int x0, .int x1, .int x2] [] h).bind fun o => fk_ev (d + 1) qX12_tried 6 L (o.1.toList ++ []) o.2) ∧
  (∀ (d : Nat) (L : List Value) (x : Int32) (st : List Value) (h : fk_H), fk_ev d qX12_tried 6 L (.int x :: st) h = if ¬ x = nI 0 then fk_ev d qX12_tried 28 L st h else fk_ev d qX12_tried 9 L st h) ∧
  (∀ (d : Nat) (a0 a1 a3 a4 : Value) (x : Int32) (st : List Value) (h : fk_H), fk_ev d qX12_tried 9 [a0, a1, .int x, a3, a4] st h = fk_ev d qX12_tried 10 [a0, a1, .int x, a3, a4] (.int x :: st) h) ∧
  (∀ (d : Nat) (L st : List Value) (h : fk_H), fk_ev d qX12_tried 10 L st h = fk_ev d qX12_tried 12 L (.int (nI 10) :: st) h) ∧
  (∀ (d : Nat) (L st : List Value) (h : fk_H), fk_ev d qX12_tried 12 L st h = fk_ev d qX12_tried 14 L (.int (nI 39) :: st) h) ∧
  (∀ (d : Nat) (L : List Value) (x0 : Int32) (x1 : Int32) (x2 : Int32)  (h : fk_H), fk_ev (d + 1) qX12_tried 14 L (.int x2 :: .int x1 :: .int x0 :: []) h = (fk_ev d qX12_in 0 [.int x0, .int x1, .int x2] [] h).bind fun o => fk_ev (d + 1) qX12_tried 17 L (o.1.toList ++ []) o.2) ∧
  (∀ (d : Nat) (L : List Value) (x : Int32) (st : List Value) (h : fk_H), fk_ev d qX12_tried 17 L (.int x :: st) h = if x = nI 0 then fk_ev d qX12_tried 32 L st h else fk_ev d qX12_tried 20 L st h) ∧
  (∀ (d : Nat) (a0 a1 a3 a4 : Value) (x : Int32) (st : List Value) (h : fk_H), fk_ev d qX12_tried 20 [a0, a1, .int x, a3, a4] st h = fk_ev d qX12_tried 21 [a0, a1, .int x, a3, a4] (.int x :: st) h) ∧
  (∀ (d : Nat) (L st : List Value) (h : fk_H), fk_ev d qX12_tried 21 L st h = fk_ev d qX12_tried 23 L (.int (nI 10) :: st) h) ∧
  (∀ (d : Nat) (L : List Value) (x y : Int32) (st : List Value) (h : fk_H), fk_ev d qX12_tried 23 L (.int y :: .int x :: st) h = if y = 0 then none else fk_ev d qX12_tried 24 L (.int (x - x / y * y) :: st) h) ∧
  (∀ (d : Nat) (L st : List Value) (h : fk_H), fk_ev d qX12_tried 24 L st h = fk_ev d qX12_tried 25 L (.int (nI 4) :: st) h) ∧
  (∀ (d : Nat) (L : List Value) (x y : Int32) (st : List Value) (h : fk_H), fk_ev d qX12_tried 25 L (.int y :: .int x :: st) h = if y ≤ x then fk_ev d qX12_tried 32 L st h else fk_ev d qX12_tried 28 L st h) ∧
  (∀ (d : Nat) (L st : List Value) (h : fk_H), fk_ev d qX12_tried 28 L st h = fk_ev d qX12_tried 29 L (.int (nI 1) :: st) h) ∧
  (∀ (d : Nat) (L st : List Value) (h : fk_H), fk_ev d qX12_tried 29 L st h = fk_ev d qX12_tried 33 L st h) ∧
  (∀ (d : Nat) (L st : List Value) (h : fk_H), fk_ev d qX12_tried 32 L st h = fk_ev d qX12_tried 33 L (.int (nI 0) :: st) h) ∧
  (∀ (d : Nat) (a0 a1 a2 a3 a4 : Value) (x : Int32) (st : List Value) (h : fk_H), fk_ev d qX12_tried 33 [a0, a1, a2, a3, a4] (.int x :: st) h = fk_ev d qX12_tried 34 [a0, a1, a2, .int x, a4] st h) ∧
  (∀ (d : Nat) (a0 a2 a3 a4 : Value) (x : Int32) (st : List Value) (h : fk_H), fk_ev d qX12_tried 34 [a0, .int x, a2, a3, a4] st h = fk_ev d qX12_tried 35 [a0, .int x, a2, a3, a4] (.int x :: st) h) ∧
  (∀ (d : Nat) (L st : List Value) (h : fk_H), fk_ev d qX12_tried 35 L st h = fk_ev d qX12_tried 36 L (.int (nI 1) :: st) h) ∧
  (∀ (d : Nat) (L st : List Value) (h : fk_H), fk_ev d qX12_tried 36 L st h = fk_ev d qX12_tried 38 L (.int (nI 48) :: st) h) ∧
  (∀ (d : Nat) (L : List Value) (x0 : Int32) (x1 : Int32) (x2 : Int32)  (h : fk_H), fk_ev (d + 1) qX12_tried 38 L (.int x2 :: .int x1 :: .int x0 :: []) h = (fk_ev d qX12_in 0 [.int x0, .int x1, .int x2] [] h).bind fun o => fk_ev (d + 1) qX12_tried 41 L (o.1.toList ++ []) o.2) ∧
  (∀ (d : Nat) (L : List Value) (x : Int32) (st : List Value) (h : fk_H), fk_ev d qX12_tried 41 L (.int x :: st) h = if x = nI 0 then fk_ev d qX12_tried 64 L st h else fk_ev d qX12_tried 44 L st h) ∧
  (∀ (d : Nat) (a1 a2 a3 a4 : Value) (x : Nat) (st : List Value) (h : fk_H), fk_ev d qX12_tried 44 [.ref x, a1, a2, a3, a4] st h = fk_ev d qX12_tried 45 [.ref x, a1, a2, a3, a4] (.ref x :: st) h) ∧
  (∀ (d : Nat) (L st : List Value) (N : Nat) (y : Nat → Nat → Int32) (l : Nat → Nat → Int64), fk_ev d qX12_tried 45 L (.ref 246 :: st) (fk_E N y l) = fk_ev d qX12_tried 48 L (.ref 247 :: st) (fk_E N y l)) ∧
  (∀ (d : Nat) (L st : List Value) (h : fk_H), fk_ev d qX12_tried 48 L st h = fk_ev d qX12_tried 51 L (.int (nI 832) :: st) h) ∧
  (∀ (d : Nat) (L st : List Value) (N : Nat) (y : Nat → Nat → Int32) (l : Nat → Nat → Int64) (i : Nat), i < 3912 → fk_ev d qX12_tried 51 L (.int (nI i) :: .ref 247 :: st) (fk_E N y l) = fk_ev d qX12_tried 52 L (.int (y 247 i) :: st) (fk_E N y l)) ∧
  (∀ (d : Nat) (a0 a2 a3 a4 : Value) (x : Int32) (st : List Value) (h : fk_H), fk_ev d qX12_tried 52 [a0, .int x, a2, a3, a4] st h = fk_ev d qX12_tried 53 [a0, .int x, a2, a3, a4] (.int x :: st) h) ∧
  (∀ (d : Nat) (L : List Value) (x y : Int32) (st : List Value) (h : fk_H), fk_ev d qX12_tried 53 L (.int y :: .int x :: st) h = fk_ev d qX12_tried 54 L (.int (x + y) :: st) h) ∧
  (∀ (d : Nat) (L st : List Value) (h : fk_H), fk_ev d qX12_tried 54 L st h = fk_ev d qX12_tried 57 L (.int (nI 999) :: st) h) ∧
  (∀ (d : Nat) (L : List Value) (x y : Int32) (st : List Value) (h : fk_H), fk_ev d qX12_tried 57 L (.int y :: .int x :: st) h = if y < x then fk_ev d qX12_tried 64 L st h else fk_ev d qX12_tried 60 L st h) ∧
  (∀ (d : Nat) (a0 a1 a2 a4 : Value) (x : Int32) (st : List Value) (h : fk_H), fk_ev d qX12_tried 60 [a0, a1, a2, .int x, a4] st h = fk_ev d qX12_tried 61 [a0, a1, a2, .int x, a4] (.int x :: st) h) ∧
  (∀ (d : Nat) (L : List Value) (x : Int32) (st : List Value) (h : fk_H), fk_ev d qX12_tried 61 L (.int x :: st) h = if ¬ x = nI 0 then fk_ev d qX12_tried 66 L st h else fk_ev d qX12_tried 64 L st h) ∧
  (∀ (d : Nat) (L st : List Value) (h : fk_H), fk_ev d qX12_tried 64 L st h = fk_ev d qX12_tried 65 L (.int ((-1 : Int32)) :: st) h) ∧
  (∀ (d : Nat) (L : List Value) (x : Int32) (h : fk_H), fk_ev d qX12_tried 65 L [.int x] h = some (some (.int x), h)) ∧
  (∀ (d : Nat) (a1 a2 a3 a4 : Value) (x : Nat) (st : List Value) (h : fk_H), fk_ev d qX12_tried 66 [.ref x, a1, a2, a3, a4] st h = fk_ev d qX12_tried 67 [.ref x, a1, a2, a3, a4] (.ref x :: st) h) ∧
  (∀ (d : Nat) (L : List Value)   (N : Nat) (y : Nat → Nat → Int32) (l : Nat → Nat → Int64), fk_ev (d + 1) qX12_tried 67 L (.ref 246 :: []) (fk_E N y l) = (fk_ev d qX12_begins 0 [.ref 246] [] (fk_E N y l)).bind fun o => fk_ev (d + 1) qX12_tried 70 L (o.1.toList ++ []) o.2) ∧
  (∀ (d : Nat) (L st : List Value) (h : fk_H), fk_ev d qX12_tried 70 L st h = fk_ev d qX12_tried 71 L (.int (nI 0) :: st) h) ∧
  (∀ (d : Nat) (a0 a1 a2 a3 a4 : Value) (x : Int32) (st : List Value) (h : fk_H), fk_ev d qX12_tried 71 [a0, a1, a2, a3, a4] (.int x :: st) h = fk_ev d qX12_tried 73 [a0, a1, a2, a3, .int x] st h) ∧
  (∀ (d : Nat) (a0 a2 a3 a4 : Value) (x : Int32) (st : List Value) (h : fk_H), fk_ev d qX12_tried 75 [a0, .int x, a2, a3, a4] st h = fk_ev d qX12_tried 76 [a0, .int x, a2, a3, a4] (.int x :: st) h) ∧
  (∀ (d : Nat) (L : List Value) (x y : Int32) (st : List Value) (h : fk_H), fk_ev d qX12_tried 76 L (.int y :: .int x :: st) h = if y ≤ x then fk_ev d qX12_tried 89 L st h else fk_ev d qX12_tried 79 L st h) ∧
  (∀ (d : Nat) (a1 a2 a3 a4 : Value) (x : Nat) (st : List Value) (h : fk_H), fk_ev d qX12_tried 79 [.ref x, a1, a2, a3, a4] st h = fk_ev d qX12_tried 80 [.ref x, a1, a2, a3, a4] (.ref x :: st) h) ∧
  (∀ (d : Nat) (L : List Value)   (N : Nat) (y : Nat → Nat → Int32) (l : Nat → Nat → Int64), fk_ev (d + 1) qX12_tried 80 L (.ref 246 :: []) (fk_E N y l) = (fk_ev d qX12_hourGoes 0 [.ref 246, .null, .null] [] (fk_E N y l)).bind fun o => fk_ev (d + 1) qX12_tried 83 L (o.1.toList ++ []) o.2) ∧
  (∀ (d : Nat) (a0 a1 a2 a3 : Value) (x : Int32) (st : List Value) (h : fk_H), fk_ev d qX12_tried 83 [a0, a1, a2, a3, .int x] st h = fk_ev d qX12_tried 86 [a0, a1, a2, a3, .int (x + nI 1)] st h) ∧
  (∀ (d : Nat) (L st : List Value) (h : fk_H), fk_ev d qX12_tried 86 L st h = fk_ev d qX12_tried 73 L st h) ∧
  (∀ (d : Nat) (a1 a2 a3 a4 : Value) (x : Nat) (st : List Value) (h : fk_H), fk_ev d qX12_tried 89 [.ref x, a1, a2, a3, a4] st h = fk_ev d qX12_tried 90 [.ref x, a1, a2, a3, a4] (.ref x :: st) h) ∧
  (∀ (d : Nat) (a0 a1 a3 a4 : Value) (x : Int32) (st : List Value) (h : fk_H), fk_ev d qX12_tried 90 [a0, a1, .int x, a3, a4] st h = fk_ev d qX12_tried 91 [a0, a1, .int x, a3, a4] (.int x :: st) h) ∧
  (∀ (d : Nat) (L : List Value) (x0 : Int32)  (N : Nat) (y : Nat → Nat → Int32) (l : Nat → Nat → Int64), fk_ev (d + 1) qX12_tried 91 L (.int x0 :: .ref 246 :: []) (fk_E N y l) = (fk_ev d qX12_triedBy 0 [.ref 246, .int x0] [] (fk_E N y l)).bind fun o => fk_ev (d + 1) qX12_tried 94 L (o.1.toList ++ []) o.2) ∧
  (∀ (d : Nat) (a0 a1 a2 a3 a4 : Value) (x : Int32) (st : List Value) (h : fk_H), fk_ev d qX12_tried 94 [a0, a1, a2, a3, a4] (.int x :: st) h = fk_ev d qX12_tried 96 [a0, a1, a2, a3, .int x] st h) ∧
  (∀ (d : Nat) (a1 a2 a3 a4 : Value) (x : Nat) (st : List Value) (h : fk_H), fk_ev d qX12_tried 96 [.ref x, a1, a2, a3, a4] st h = fk_ev d qX12_tried 97 [.ref x, a1, a2, a3, a4] (.ref x :: st) h) ∧
  (∀ (d : Nat) (L : List Value)   (N : Nat) (y : Nat → Nat → Int32) (l : Nat → Nat → Int64), fk_ev (d + 1) qX12_tried 97 L (.ref 246 :: []) (fk_E N y l) = (fk_ev d qX12_again 0 [.ref 246] [] (fk_E N y l)).bind fun o => fk_ev (d + 1) qX12_tried 100 L (o.1.toList ++ []) o.2) ∧
  (∀ (d : Nat) (a0 a1 a2 a3 : Value) (x : Int32) (st : List Value) (h : fk_H), fk_ev d qX12_tried 100 [a0, a1, a2, a3, .int x] st h = fk_ev d qX12_tried 102 [a0, a1, a2, a3, .int x] (.int x :: st) h) ∧
  (∀ (d : Nat) (L : List Value) (x : Int32) (h : fk_H), fk_ev d qX12_tried 102 L [.int x] h = some (some (.int x), h)) := ⟨fun d a0 a1 a3 a4 x st h => fk_w_iloadn 2 [a0, a1, .int x, a3, a4] dX12_tried_0 rfl,
  fun d L st h => fk_w_iconst dX12_tried_1 (by decide),
  fun d L st h => fk_w_iconst dX12_tried_2 (by decide),
  fun d L x0 x1 x2 h => fk_g_calls [.int x0, .int x1, .int x2] [] rfl lm_12_112 dX12_tried_3 rfl ⟨rfl, by decide⟩ (by simp),
  fun d L x st h => fk_r_if_ne dX12_tried_6 (by decide),
  fun d a0 a1 a3 a4 x st h => fk_w_iloadn 2 [a0, a1, .int x, a3, a4] dX12_tried_9 rfl,
  fun d L st h => fk_w_bipush dX12_tried_10 (by decide),
  fun d L st h => fk_w_bipush dX12_tried_12 (by decide),
  fun d L x0 x1 x2 h => fk_g_calls [.int x0, .int x1, .int x2] [] rfl lm_12_112 dX12_tried_14 rfl ⟨rfl, by decide⟩ (by simp),
  fun d L x st h => fk_r_if_eq dX12_tried_17 (by decide),
  fun d a0 a1 a3 a4 x st h => fk_w_iloadn 2 [a0, a1, .int x, a3, a4] dX12_tried_20 rfl,
  fun d L st h => fk_w_bipush dX12_tried_21 (by decide),
  fun d L x y st h => fk_r_irem dX12_tried_23,
  fun d L st h => fk_w_iconst dX12_tried_24 (by decide),
  fun d L x y st h => fk_r_icmp_ge dX12_tried_25 (by decide),
  fun d L st h => fk_w_iconst dX12_tried_28 (by decide),
  fun d L st h => fk_r_goto dX12_tried_29 (by decide),
  fun d L st h => fk_w_iconst dX12_tried_32 (by decide),
  fun d a0 a1 a2 a3 a4 x st h => fk_w_istoren 3 5 [] [a0, a1, a2, a3, a4] [a0, a1, a2, .int x, a4] dX12_tried_33 rfl rfl (by decide) rfl,
  fun d a0 a2 a3 a4 x st h => fk_w_iloadn 1 [a0, .int x, a2, a3, a4] dX12_tried_34 rfl,
  fun d L st h => fk_w_iconst dX12_tried_35 (by decide),
  fun d L st h => fk_w_bipush dX12_tried_36 (by decide),
  fun d L x0 x1 x2 h => fk_g_calls [.int x0, .int x1, .int x2] [] rfl lm_12_112 dX12_tried_38 rfl ⟨rfl, by decide⟩ (by simp),
  fun d L x st h => fk_r_if_eq dX12_tried_41 (by decide),
  fun d a1 a2 a3 a4 x st h => fk_w_aloadn 0 [.ref x, a1, a2, a3, a4] dX12_tried_44 rfl,
  fun d L st N y l => fk_g_getC rfl lf_12_7 (by decide) rfl dX12_tried_45 fk_at_246,
  fun d L st h => fk_w_sipush dX12_tried_48 (by decide),
  fun d L st N y l i hi => fk_g_iald fk_at_247 fk_ln_247 (by decide) dX12_tried_51 hi,
  fun d a0 a2 a3 a4 x st h => fk_w_iloadn 1 [a0, .int x, a2, a3, a4] dX12_tried_52 rfl,
  fun d L x y st h => fk_r_iadd dX12_tried_53,
  fun d L st h => fk_w_sipush dX12_tried_54 (by decide),
  fun d L x y st h => fk_r_icmp_gt dX12_tried_57 (by decide),
  fun d a0 a1 a2 a4 x st h => fk_w_iloadn 3 [a0, a1, a2, .int x, a4] dX12_tried_60 rfl,
  fun d L x st h => fk_r_if_ne dX12_tried_61 (by decide),
  fun d L st h => fk_w_iconst dX12_tried_64 (by decide),
  fun d L x h => fk_r_ret dX12_tried_65 (Or.inl rfl),
  fun d a1 a2 a3 a4 x st h => fk_w_aloadn 0 [.ref x, a1, a2, a3, a4] dX12_tried_66 rfl,
  fun d L  N y l  => fk_g_call [] [] rfl lm_12_331 dX12_tried_67 rfl ⟨rfl, by decide⟩ (by simp) fk_at_246,
  fun d L st h => fk_w_iconst dX12_tried_70 (by decide),
  fun d a0 a1 a2 a3 a4 x st h => fk_w_istore 4 5 [] [a0, a1, a2, a3, a4] [a0, a1, a2, a3, .int x] dX12_tried_71 rfl rfl (by decide) rfl,
  fun d a0 a2 a3 a4 x st h => fk_w_iloadn 1 [a0, .int x, a2, a3, a4] dX12_tried_75 rfl,
  fun d L x y st h => fk_r_icmp_ge dX12_tried_76 (by decide),
  fun d a1 a2 a3 a4 x st h => fk_w_aloadn 0 [.ref x, a1, a2, a3, a4] dX12_tried_79 rfl,
  fun d L  N y l  => fk_g_call [] [] rfl lm_12_322 dX12_tried_80 rfl ⟨rfl, by decide⟩ (by simp) fk_at_246,
  fun d a0 a1 a2 a3 x st h => fk_w_iinc 4 5 (1) [] [a0, a1, a2, a3, .int x] [a0, a1, a2, a3, .int (x + nI 1)] dX12_tried_83 rfl rfl rfl (by decide) rfl,
  fun d L st h => fk_r_goto dX12_tried_86 (by decide),
  fun d a1 a2 a3 a4 x st h => fk_w_aloadn 0 [.ref x, a1, a2, a3, a4] dX12_tried_89 rfl,
  fun d a0 a1 a3 a4 x st h => fk_w_iloadn 2 [a0, a1, .int x, a3, a4] dX12_tried_90 rfl,
  fun d L x0 N y l  => fk_g_call [.int x0] [] rfl lm_12_334 dX12_tried_91 rfl ⟨rfl, by decide⟩ (by simp) fk_at_246,
  fun d a0 a1 a2 a3 a4 x st h => fk_w_istore 4 5 [] [a0, a1, a2, a3, a4] [a0, a1, a2, a3, .int x] dX12_tried_94 rfl rfl (by decide) rfl,
  fun d a1 a2 a3 a4 x st h => fk_w_aloadn 0 [.ref x, a1, a2, a3, a4] dX12_tried_96 rfl,
  fun d L  N y l  => fk_g_call [] [] rfl lm_12_337 dX12_tried_97 rfl ⟨rfl, by decide⟩ (by simp) fk_at_246,
  fun d a0 a1 a2 a3 x st h => fk_w_iload 4 [a0, a1, a2, a3, .int x] dX12_tried_100 rfl,
  fun d L x h => fk_r_ret dX12_tried_102 (Or.inl rfl)⟩
theorem hX12_tried_73 : ∀ (d : Nat) (a0 a1 a2 a3 : Value) (x : Int32) (st : List Value) (h : fk_H), fk_ev d qX12_tried 73 [a0, a1, a2, a3, .int x] st h = fk_ev d qX12_tried 75 [a0, a1, a2, a3, .int x] (.int x :: st) h := fun d a0 a1 a2 a3 x st h => fk_w_iload 4 [a0, a1, a2, a3, .int x] dX12_tried_73 rfl
theorem dX12_half_0 : decode cX12_half 0 = .ok (.aload_n 0, 1) := by decide +kernel
theorem dX12_half_1 : decode cX12_half 1 = .ok (.iload_n 1, 1) := by decide +kernel
theorem dX12_half_2 : decode cX12_half 2 = .ok (.invokevirtual 123, 3) := by decide +kernel
theorem dX12_half_5 : decode cX12_half 5 = .ok (.ifCond .ne 5, 3) := by decide +kernel
theorem dX12_half_8 : decode cX12_half 8 = .ok (.iconst (-1), 1) := by decide +kernel
theorem dX12_half_9 : decode cX12_half 9 = .ok (.ireturn, 1) := by decide +kernel
theorem dX12_half_10 : decode cX12_half 10 = .ok (.iload_n 2, 1) := by decide +kernel
theorem dX12_half_11 : decode cX12_half 11 = .ok (.tableswitch 178 0 10 #[57, 66, 76, 87, 101, 112, 123, 134, 145, 156, 167], 57) := by decide +kernel
theorem dX12_half_68 : decode cX12_half 68 = .ok (.aload_n 0, 1) := by decide +kernel
theorem dX12_half_69 : decode cX12_half 69 = .ok (.getfield 7, 3) := by decide +kernel
theorem dX12_half_72 : decode cX12_half 72 = .ok (.iconst 0, 1) := by decide +kernel
theorem dX12_half_73 : decode cX12_half 73 = .ok (.iload_n 1, 1) := by decide +kernel
theorem dX12_half_74 : decode cX12_half 74 = .ok (.iadd, 1) := by decide +kernel
theorem dX12_half_75 : decode cX12_half 75 = .ok (.iaload, 1) := by decide +kernel
theorem dX12_half_76 : decode cX12_half 76 = .ok (.ireturn, 1) := by decide +kernel
theorem dX12_half_77 : decode cX12_half 77 = .ok (.aload_n 0, 1) := by decide +kernel
theorem dX12_half_78 : decode cX12_half 78 = .ok (.getfield 7, 3) := by decide +kernel
theorem dX12_half_81 : decode cX12_half 81 = .ok (.bipush 64, 2) := by decide +kernel
theorem dX12_half_83 : decode cX12_half 83 = .ok (.iload_n 1, 1) := by decide +kernel
theorem dX12_half_84 : decode cX12_half 84 = .ok (.iadd, 1) := by decide +kernel
theorem dX12_half_85 : decode cX12_half 85 = .ok (.iaload, 1) := by decide +kernel
theorem dX12_half_86 : decode cX12_half 86 = .ok (.ireturn, 1) := by decide +kernel
theorem dX12_half_87 : decode cX12_half 87 = .ok (.aload_n 0, 1) := by decide +kernel
theorem dX12_half_88 : decode cX12_half 88 = .ok (.getfield 7, 3) := by decide +kernel
theorem dX12_half_91 : decode cX12_half 91 = .ok (.sipush 128, 3) := by decide +kernel
theorem dX12_half_94 : decode cX12_half 94 = .ok (.iload_n 1, 1) := by decide +kernel
theorem dX12_half_95 : decode cX12_half 95 = .ok (.iadd, 1) := by decide +kernel
theorem dX12_half_96 : decode cX12_half 96 = .ok (.iaload, 1) := by decide +kernel
theorem dX12_half_97 : decode cX12_half 97 = .ok (.ireturn, 1) := by decide +kernel
theorem dX12_half_98 : decode cX12_half 98 = .ok (.aload_n 0, 1) := by decide +kernel
theorem dX12_half_99 : decode cX12_half 99 = .ok (.iload_n 1, 1) := by decide +kernel
theorem dX12_half_100 : decode cX12_half 100 = .ok (.invokevirtual 126, 3) := by decide +kernel
theorem dX12_half_103 : decode cX12_half 103 = .ok (.ifCond .eq 7, 3) := by decide +kernel
theorem dX12_half_106 : decode cX12_half 106 = .ok (.iconst 1, 1) := by decide +kernel
theorem dX12_half_107 : decode cX12_half 107 = .ok (.goto 4, 3) := by decide +kernel
theorem dX12_half_110 : decode cX12_half 110 = .ok (.iconst 0, 1) := by decide +kernel
theorem dX12_half_111 : decode cX12_half 111 = .ok (.ireturn, 1) := by decide +kernel
theorem dX12_half_112 : decode cX12_half 112 = .ok (.aload_n 0, 1) := by decide +kernel
theorem dX12_half_113 : decode cX12_half 113 = .ok (.getfield 7, 3) := by decide +kernel
theorem dX12_half_116 : decode cX12_half 116 = .ok (.sipush 256, 3) := by decide +kernel
theorem dX12_half_119 : decode cX12_half 119 = .ok (.iload_n 1, 1) := by decide +kernel
theorem dX12_half_120 : decode cX12_half 120 = .ok (.iadd, 1) := by decide +kernel
theorem dX12_half_121 : decode cX12_half 121 = .ok (.iaload, 1) := by decide +kernel
theorem dX12_half_122 : decode cX12_half 122 = .ok (.ireturn, 1) := by decide +kernel
theorem dX12_half_123 : decode cX12_half 123 = .ok (.aload_n 0, 1) := by decide +kernel
theorem dX12_half_124 : decode cX12_half 124 = .ok (.getfield 7, 3) := by decide +kernel
theorem dX12_half_127 : decode cX12_half 127 = .ok (.sipush 320, 3) := by decide +kernel
theorem dX12_half_130 : decode cX12_half 130 = .ok (.iload_n 1, 1) := by decide +kernel
theorem dX12_half_131 : decode cX12_half 131 = .ok (.iadd, 1) := by decide +kernel
theorem dX12_half_132 : decode cX12_half 132 = .ok (.iaload, 1) := by decide +kernel
theorem dX12_half_133 : decode cX12_half 133 = .ok (.ireturn, 1) := by decide +kernel
theorem dX12_half_134 : decode cX12_half 134 = .ok (.aload_n 0, 1) := by decide +kernel
theorem dX12_half_135 : decode cX12_half 135 = .ok (.getfield 7, 3) := by decide +kernel
theorem dX12_half_138 : decode cX12_half 138 = .ok (.sipush 384, 3) := by decide +kernel
theorem dX12_half_141 : decode cX12_half 141 = .ok (.iload_n 1, 1) := by decide +kernel
theorem dX12_half_142 : decode cX12_half 142 = .ok (.iadd, 1) := by decide +kernel
theorem dX12_half_143 : decode cX12_half 143 = .ok (.iaload, 1) := by decide +kernel
theorem dX12_half_144 : decode cX12_half 144 = .ok (.ireturn, 1) := by decide +kernel
theorem dX12_half_145 : decode cX12_half 145 = .ok (.aload_n 0, 1) := by decide +kernel
theorem dX12_half_146 : decode cX12_half 146 = .ok (.getfield 7, 3) := by decide +kernel
theorem dX12_half_149 : decode cX12_half 149 = .ok (.sipush 448, 3) := by decide +kernel
theorem dX12_half_152 : decode cX12_half 152 = .ok (.iload_n 1, 1) := by decide +kernel
theorem dX12_half_153 : decode cX12_half 153 = .ok (.iadd, 1) := by decide +kernel
theorem dX12_half_154 : decode cX12_half 154 = .ok (.iaload, 1) := by decide +kernel
theorem dX12_half_155 : decode cX12_half 155 = .ok (.ireturn, 1) := by decide +kernel
theorem dX12_half_156 : decode cX12_half 156 = .ok (.aload_n 0, 1) := by decide +kernel
theorem dX12_half_157 : decode cX12_half 157 = .ok (.getfield 7, 3) := by decide +kernel
theorem dX12_half_160 : decode cX12_half 160 = .ok (.sipush 512, 3) := by decide +kernel
theorem dX12_half_163 : decode cX12_half 163 = .ok (.iload_n 1, 1) := by decide +kernel
theorem dX12_half_164 : decode cX12_half 164 = .ok (.iadd, 1) := by decide +kernel
theorem dX12_half_165 : decode cX12_half 165 = .ok (.iaload, 1) := by decide +kernel
theorem dX12_half_166 : decode cX12_half 166 = .ok (.ireturn, 1) := by decide +kernel
theorem dX12_half_167 : decode cX12_half 167 = .ok (.aload_n 0, 1) := by decide +kernel
theorem dX12_half_168 : decode cX12_half 168 = .ok (.getfield 7, 3) := by decide +kernel
theorem dX12_half_171 : decode cX12_half 171 = .ok (.sipush 576, 3) := by decide +kernel
theorem dX12_half_174 : decode cX12_half 174 = .ok (.iload_n 1, 1) := by decide +kernel
theorem dX12_half_175 : decode cX12_half 175 = .ok (.iadd, 1) := by decide +kernel
theorem dX12_half_176 : decode cX12_half 176 = .ok (.iaload, 1) := by decide +kernel
theorem dX12_half_177 : decode cX12_half 177 = .ok (.ireturn, 1) := by decide +kernel
theorem dX12_half_178 : decode cX12_half 178 = .ok (.aload_n 0, 1) := by decide +kernel
theorem dX12_half_179 : decode cX12_half 179 = .ok (.getfield 7, 3) := by decide +kernel
theorem dX12_half_182 : decode cX12_half 182 = .ok (.sipush 640, 3) := by decide +kernel
theorem dX12_half_185 : decode cX12_half 185 = .ok (.iload_n 1, 1) := by decide +kernel
theorem dX12_half_186 : decode cX12_half 186 = .ok (.iadd, 1) := by decide +kernel
theorem dX12_half_187 : decode cX12_half 187 = .ok (.iaload, 1) := by decide +kernel
theorem dX12_half_188 : decode cX12_half 188 = .ok (.ireturn, 1) := by decide +kernel
theorem dX12_half_189 : decode cX12_half 189 = .ok (.iload_n 2, 1) := by decide +kernel
theorem dX12_half_190 : decode cX12_half 190 = .ok (.bipush 20, 2) := by decide +kernel
theorem dX12_half_192 : decode cX12_half 192 = .ok (.bipush 35, 2) := by decide +kernel
theorem dX12_half_194 : decode cX12_half 194 = .ok (.invokestatic 112, 3) := by decide +kernel
theorem dX12_half_197 : decode cX12_half 197 = .ok (.ifCond .ne 5, 3) := by decide +kernel
theorem dX12_half_200 : decode cX12_half 200 = .ok (.iconst (-1), 1) := by decide +kernel
theorem dX12_half_201 : decode cX12_half 201 = .ok (.ireturn, 1) := by decide +kernel
theorem dX12_half_202 : decode cX12_half 202 = .ok (.aload_n 0, 1) := by decide +kernel
theorem dX12_half_203 : decode cX12_half 203 = .ok (.getfield 7, 3) := by decide +kernel
theorem dX12_half_206 : decode cX12_half 206 = .ok (.sipush 704, 3) := by decide +kernel
theorem dX12_half_209 : decode cX12_half 209 = .ok (.iload_n 1, 1) := by decide +kernel
theorem dX12_half_210 : decode cX12_half 210 = .ok (.iadd, 1) := by decide +kernel
theorem dX12_half_211 : decode cX12_half 211 = .ok (.iaload, 1) := by decide +kernel
theorem dX12_half_212 : decode cX12_half 212 = .ok (.iload_n 2, 1) := by decide +kernel
theorem dX12_half_213 : decode cX12_half 213 = .ok (.bipush 20, 2) := by decide +kernel
theorem dX12_half_215 : decode cX12_half 215 = .ok (.isub, 1) := by decide +kernel
theorem dX12_half_216 : decode cX12_half 216 = .ok (.invokestatic 108, 3) := by decide +kernel
theorem dX12_half_219 : decode cX12_half 219 = .ok (.ifCond .ne 8, 3) := by decide +kernel
theorem dX12_half_222 : decode cX12_half 222 = .ok (.bipush (-2), 2) := by decide +kernel
theorem dX12_half_224 : decode cX12_half 224 = .ok (.goto 28, 3) := by decide +kernel
theorem dX12_half_227 : decode cX12_half 227 = .ok (.aload_n 0, 1) := by decide +kernel
theorem dX12_half_228 : decode cX12_half 228 = .ok (.getfield 7, 3) := by decide +kernel
theorem dX12_half_231 : decode cX12_half 231 = .ok (.sipush 768, 3) := by decide +kernel
theorem dX12_half_234 : decode cX12_half 234 = .ok (.iload_n 1, 1) := by decide +kernel
theorem dX12_half_235 : decode cX12_half 235 = .ok (.iadd, 1) := by decide +kernel
theorem dX12_half_236 : decode cX12_half 236 = .ok (.iaload, 1) := by decide +kernel
theorem dX12_half_237 : decode cX12_half 237 = .ok (.iload_n 2, 1) := by decide +kernel
theorem dX12_half_238 : decode cX12_half 238 = .ok (.bipush 20, 2) := by decide +kernel
theorem dX12_half_240 : decode cX12_half 240 = .ok (.isub, 1) := by decide +kernel
theorem dX12_half_241 : decode cX12_half 241 = .ok (.invokestatic 108, 3) := by decide +kernel
theorem dX12_half_244 : decode cX12_half 244 = .ok (.ifCond .eq 7, 3) := by decide +kernel
theorem dX12_half_247 : decode cX12_half 247 = .ok (.iconst 1, 1) := by decide +kernel
theorem dX12_half_248 : decode cX12_half 248 = .ok (.goto 4, 3) := by decide +kernel
theorem dX12_half_251 : decode cX12_half 251 = .ok (.iconst 0, 1) := by decide +kernel
theorem dX12_half_252 : decode cX12_half 252 = .ok (.ireturn, 1) := by decide +kernel
theorem rX12_half : (∀ (d : Nat) (a1 a2 : Value) (x : Nat) (st : List Value) (h : fk_H), fk_ev d qX12_half 0 [.ref x, a1, a2] st h = fk_ev d qX12_half 1 [.ref x, a1, a2] (.ref x :: st) h) ∧
  (∀ (d : Nat) (a0 a2 : Value) (x : Int32) (st : List Value) (h : fk_H), fk_ev d qX12_half 1 [a0, .int x, a2] st h = fk_ev d qX12_half 2 [a0, .int x, a2] (.int x :: st) h) ∧
  (∀ (d : Nat) (L : List Value) (x0 : Int32)  (N : Nat) (y : Nat → Nat → Int32) (l : Nat → Nat → Int64), fk_ev (d + 1) qX12_half 2 L (.int x0 :: .ref 246 :: []) (fk_E N y l) = (fk_ev d qX12_isHalf 0 [.ref 246, .int x0] [] (fk_E N y l)).bind fun o => fk_ev (d + 1) qX12_half 5 L (o.1.toList ++ []) o.2) ∧
  (∀ (d : Nat) (L : List Value) (x : Int32) (st : List Value) (h : fk_H), fk_ev d qX12_half 5 L (.int x :: st) h = if ¬ x = nI 0 then fk_ev d qX12_half 10 L st h else fk_ev d qX12_half 8 L st h) ∧
  (∀ (d : Nat) (L st : List Value) (h : fk_H), fk_ev d qX12_half 8 L st h = fk_ev d qX12_half 9 L (.int ((-1 : Int32)) :: st) h) ∧
  (∀ (d : Nat) (L : List Value) (x : Int32) (h : fk_H), fk_ev d qX12_half 9 L [.int x] h = some (some (.int x), h)) ∧
  (∀ (d : Nat) (a0 a1 : Value) (x : Int32) (st : List Value) (h : fk_H), fk_ev d qX12_half 10 [a0, a1, .int x] st h = fk_ev d qX12_half 11 [a0, a1, .int x] (.int x :: st) h) ∧
  (∀ (d : Nat) (L st : List Value) (h : fk_H), fk_ev d qX12_half 11 L (.int (nI 0) :: st) h = fk_ev d qX12_half 68 L st h) ∧
  (∀ (d : Nat) (L st : List Value) (h : fk_H), fk_ev d qX12_half 11 L (.int (nI 1) :: st) h = fk_ev d qX12_half 77 L st h) ∧
  (∀ (d : Nat) (L st : List Value) (h : fk_H), fk_ev d qX12_half 11 L (.int (nI 2) :: st) h = fk_ev d qX12_half 87 L st h) ∧
  (∀ (d : Nat) (L st : List Value) (h : fk_H), fk_ev d qX12_half 11 L (.int (nI 3) :: st) h = fk_ev d qX12_half 98 L st h) ∧
  (∀ (d : Nat) (L st : List Value) (h : fk_H), fk_ev d qX12_half 11 L (.int (nI 4) :: st) h = fk_ev d qX12_half 112 L st h) ∧
  (∀ (d : Nat) (L st : List Value) (h : fk_H), fk_ev d qX12_half 11 L (.int (nI 5) :: st) h = fk_ev d qX12_half 123 L st h) ∧
  (∀ (d : Nat) (L st : List Value) (h : fk_H), fk_ev d qX12_half 11 L (.int (nI 6) :: st) h = fk_ev d qX12_half 134 L st h) ∧
  (∀ (d : Nat) (L st : List Value) (h : fk_H), fk_ev d qX12_half 11 L (.int (nI 7) :: st) h = fk_ev d qX12_half 145 L st h) ∧
  (∀ (d : Nat) (L st : List Value) (h : fk_H), fk_ev d qX12_half 11 L (.int (nI 8) :: st) h = fk_ev d qX12_half 156 L st h) ∧
  (∀ (d : Nat) (L st : List Value) (h : fk_H), fk_ev d qX12_half 11 L (.int (nI 9) :: st) h = fk_ev d qX12_half 167 L st h) ∧
  (∀ (d : Nat) (L st : List Value) (h : fk_H), fk_ev d qX12_half 11 L (.int (nI 10) :: st) h = fk_ev d qX12_half 178 L st h) ∧
  (∀ (d : Nat) (L : List Value) (x : Int32) (st : List Value) (h : fk_H), (x.toInt < 0 ∨ 10 < x.toInt) → fk_ev d qX12_half 11 L (.int x :: st) h = fk_ev d qX12_half 189 L st h) ∧
  (∀ (d : Nat) (a1 a2 : Value) (x : Nat) (st : List Value) (h : fk_H), fk_ev d qX12_half 68 [.ref x, a1, a2] st h = fk_ev d qX12_half 69 [.ref x, a1, a2] (.ref x :: st) h) ∧
  (∀ (d : Nat) (L st : List Value) (N : Nat) (y : Nat → Nat → Int32) (l : Nat → Nat → Int64), fk_ev d qX12_half 69 L (.ref 246 :: st) (fk_E N y l) = fk_ev d qX12_half 72 L (.ref 247 :: st) (fk_E N y l)) ∧
  (∀ (d : Nat) (L st : List Value) (h : fk_H), fk_ev d qX12_half 72 L st h = fk_ev d qX12_half 73 L (.int (nI 0) :: st) h) ∧
  (∀ (d : Nat) (a0 a2 : Value) (x : Int32) (st : List Value) (h : fk_H), fk_ev d qX12_half 73 [a0, .int x, a2] st h = fk_ev d qX12_half 74 [a0, .int x, a2] (.int x :: st) h) ∧
  (∀ (d : Nat) (L : List Value) (x y : Int32) (st : List Value) (h : fk_H), fk_ev d qX12_half 74 L (.int y :: .int x :: st) h = fk_ev d qX12_half 75 L (.int (x + y) :: st) h) ∧
  (∀ (d : Nat) (L st : List Value) (N : Nat) (y : Nat → Nat → Int32) (l : Nat → Nat → Int64) (i : Nat), i < 3912 → fk_ev d qX12_half 75 L (.int (nI i) :: .ref 247 :: st) (fk_E N y l) = fk_ev d qX12_half 76 L (.int (y 247 i) :: st) (fk_E N y l)) ∧
  (∀ (d : Nat) (L : List Value) (x : Int32) (h : fk_H), fk_ev d qX12_half 76 L [.int x] h = some (some (.int x), h)) ∧
  (∀ (d : Nat) (a1 a2 : Value) (x : Nat) (st : List Value) (h : fk_H), fk_ev d qX12_half 77 [.ref x, a1, a2] st h = fk_ev d qX12_half 78 [.ref x, a1, a2] (.ref x :: st) h) ∧
  (∀ (d : Nat) (L st : List Value) (N : Nat) (y : Nat → Nat → Int32) (l : Nat → Nat → Int64), fk_ev d qX12_half 78 L (.ref 246 :: st) (fk_E N y l) = fk_ev d qX12_half 81 L (.ref 247 :: st) (fk_E N y l)) ∧
  (∀ (d : Nat) (L st : List Value) (h : fk_H), fk_ev d qX12_half 81 L st h = fk_ev d qX12_half 83 L (.int (nI 64) :: st) h) ∧
  (∀ (d : Nat) (a0 a2 : Value) (x : Int32) (st : List Value) (h : fk_H), fk_ev d qX12_half 83 [a0, .int x, a2] st h = fk_ev d qX12_half 84 [a0, .int x, a2] (.int x :: st) h) ∧
  (∀ (d : Nat) (L : List Value) (x y : Int32) (st : List Value) (h : fk_H), fk_ev d qX12_half 84 L (.int y :: .int x :: st) h = fk_ev d qX12_half 85 L (.int (x + y) :: st) h) ∧
  (∀ (d : Nat) (L st : List Value) (N : Nat) (y : Nat → Nat → Int32) (l : Nat → Nat → Int64) (i : Nat), i < 3912 → fk_ev d qX12_half 85 L (.int (nI i) :: .ref 247 :: st) (fk_E N y l) = fk_ev d qX12_half 86 L (.int (y 247 i) :: st) (fk_E N y l)) ∧
  (∀ (d : Nat) (L : List Value) (x : Int32) (h : fk_H), fk_ev d qX12_half 86 L [.int x] h = some (some (.int x), h)) ∧
  (∀ (d : Nat) (a1 a2 : Value) (x : Nat) (st : List Value) (h : fk_H), fk_ev d qX12_half 87 [.ref x, a1, a2] st h = fk_ev d qX12_half 88 [.ref x, a1, a2] (.ref x :: st) h) ∧
  (∀ (d : Nat) (L st : List Value) (N : Nat) (y : Nat → Nat → Int32) (l : Nat → Nat → Int64), fk_ev d qX12_half 88 L (.ref 246 :: st) (fk_E N y l) = fk_ev d qX12_half 91 L (.ref 247 :: st) (fk_E N y l)) ∧
  (∀ (d : Nat) (L st : List Value) (h : fk_H), fk_ev d qX12_half 91 L st h = fk_ev d qX12_half 94 L (.int (nI 128) :: st) h) ∧
  (∀ (d : Nat) (a0 a2 : Value) (x : Int32) (st : List Value) (h : fk_H), fk_ev d qX12_half 94 [a0, .int x, a2] st h = fk_ev d qX12_half 95 [a0, .int x, a2] (.int x :: st) h) ∧
  (∀ (d : Nat) (L : List Value) (x y : Int32) (st : List Value) (h : fk_H), fk_ev d qX12_half 95 L (.int y :: .int x :: st) h = fk_ev d qX12_half 96 L (.int (x + y) :: st) h) ∧
  (∀ (d : Nat) (L st : List Value) (N : Nat) (y : Nat → Nat → Int32) (l : Nat → Nat → Int64) (i : Nat), i < 3912 → fk_ev d qX12_half 96 L (.int (nI i) :: .ref 247 :: st) (fk_E N y l) = fk_ev d qX12_half 97 L (.int (y 247 i) :: st) (fk_E N y l)) ∧
  (∀ (d : Nat) (L : List Value) (x : Int32) (h : fk_H), fk_ev d qX12_half 97 L [.int x] h = some (some (.int x), h)) ∧
  (∀ (d : Nat) (a1 a2 : Value) (x : Nat) (st : List Value) (h : fk_H), fk_ev d qX12_half 98 [.ref x, a1, a2] st h = fk_ev d qX12_half 99 [.ref x, a1, a2] (.ref x :: st) h) ∧
  (∀ (d : Nat) (a0 a2 : Value) (x : Int32) (st : List Value) (h : fk_H), fk_ev d qX12_half 99 [a0, .int x, a2] st h = fk_ev d qX12_half 100 [a0, .int x, a2] (.int x :: st) h) ∧
  (∀ (d : Nat) (L : List Value) (x0 : Int32)  (N : Nat) (y : Nat → Nat → Int32) (l : Nat → Nat → Int64), fk_ev (d + 1) qX12_half 100 L (.int x0 :: .ref 246 :: []) (fk_E N y l) = (fk_ev d qX12_lives 0 [.ref 246, .int x0] [] (fk_E N y l)).bind fun o => fk_ev (d + 1) qX12_half 103 L (o.1.toList ++ []) o.2) ∧
  (∀ (d : Nat) (L : List Value) (x : Int32) (st : List Value) (h : fk_H), fk_ev d qX12_half 103 L (.int x :: st) h = if x = nI 0 then fk_ev d qX12_half 110 L st h else fk_ev d qX12_half 106 L st h) ∧
  (∀ (d : Nat) (L st : List Value) (h : fk_H), fk_ev d qX12_half 106 L st h = fk_ev d qX12_half 107 L (.int (nI 1) :: st) h) ∧
  (∀ (d : Nat) (L st : List Value) (h : fk_H), fk_ev d qX12_half 107 L st h = fk_ev d qX12_half 111 L st h) ∧
  (∀ (d : Nat) (L st : List Value) (h : fk_H), fk_ev d qX12_half 110 L st h = fk_ev d qX12_half 111 L (.int (nI 0) :: st) h) ∧
  (∀ (d : Nat) (L : List Value) (x : Int32) (h : fk_H), fk_ev d qX12_half 111 L [.int x] h = some (some (.int x), h)) ∧
  (∀ (d : Nat) (a1 a2 : Value) (x : Nat) (st : List Value) (h : fk_H), fk_ev d qX12_half 112 [.ref x, a1, a2] st h = fk_ev d qX12_half 113 [.ref x, a1, a2] (.ref x :: st) h) ∧
  (∀ (d : Nat) (L st : List Value) (N : Nat) (y : Nat → Nat → Int32) (l : Nat → Nat → Int64), fk_ev d qX12_half 113 L (.ref 246 :: st) (fk_E N y l) = fk_ev d qX12_half 116 L (.ref 247 :: st) (fk_E N y l)) ∧
  (∀ (d : Nat) (L st : List Value) (h : fk_H), fk_ev d qX12_half 116 L st h = fk_ev d qX12_half 119 L (.int (nI 256) :: st) h) ∧
  (∀ (d : Nat) (a0 a2 : Value) (x : Int32) (st : List Value) (h : fk_H), fk_ev d qX12_half 119 [a0, .int x, a2] st h = fk_ev d qX12_half 120 [a0, .int x, a2] (.int x :: st) h) ∧
  (∀ (d : Nat) (L : List Value) (x y : Int32) (st : List Value) (h : fk_H), fk_ev d qX12_half 120 L (.int y :: .int x :: st) h = fk_ev d qX12_half 121 L (.int (x + y) :: st) h) ∧
  (∀ (d : Nat) (L st : List Value) (N : Nat) (y : Nat → Nat → Int32) (l : Nat → Nat → Int64) (i : Nat), i < 3912 → fk_ev d qX12_half 121 L (.int (nI i) :: .ref 247 :: st) (fk_E N y l) = fk_ev d qX12_half 122 L (.int (y 247 i) :: st) (fk_E N y l)) ∧
  (∀ (d : Nat) (L : List Value) (x : Int32) (h : fk_H), fk_ev d qX12_half 122 L [.int x] h = some (some (.int x), h)) ∧
  (∀ (d : Nat) (a1 a2 : Value) (x : Nat) (st : List Value) (h : fk_H), fk_ev d qX12_half 123 [.ref x, a1, a2] st h = fk_ev d qX12_half 124 [.ref x, a1, a2] (.ref x :: st) h) ∧
  (∀ (d : Nat) (L st : List Value) (N : Nat) (y : Nat → Nat → Int32) (l : Nat → Nat → Int64), fk_ev d qX12_half 124 L (.ref 246 :: st) (fk_E N y l) = fk_ev d qX12_half 127 L (.ref 247 :: st) (fk_E N y l)) ∧
  (∀ (d : Nat) (L st : List Value) (h : fk_H), fk_ev d qX12_half 127 L st h = fk_ev d qX12_half 130 L (.int (nI 320) :: st) h) ∧
  (∀ (d : Nat) (a0 a2 : Value) (x : Int32) (st : List Value) (h : fk_H), fk_ev d qX12_half 130 [a0, .int x, a2] st h = fk_ev d qX12_half 131 [a0, .int x, a2] (.int x :: st) h) ∧
  (∀ (d : Nat) (L : List Value) (x y : Int32) (st : List Value) (h : fk_H), fk_ev d qX12_half 131 L (.int y :: .int x :: st) h = fk_ev d qX12_half 132 L (.int (x + y) :: st) h) ∧
  (∀ (d : Nat) (L st : List Value) (N : Nat) (y : Nat → Nat → Int32) (l : Nat → Nat → Int64) (i : Nat), i < 3912 → fk_ev d qX12_half 132 L (.int (nI i) :: .ref 247 :: st) (fk_E N y l) = fk_ev d qX12_half 133 L (.int (y 247 i) :: st) (fk_E N y l)) ∧
  (∀ (d : Nat) (L : List Value) (x : Int32) (h : fk_H), fk_ev d qX12_half 133 L [.int x] h = some (some (.int x), h)) ∧
  (∀ (d : Nat) (a1 a2 : Value) (x : Nat) (st : List Value) (h : fk_H), fk_ev d qX12_half 134 [.ref x, a1, a2] st h = fk_ev d qX12_half 135 [.ref x, a1, a2] (.ref x :: st) h) ∧
  (∀ (d : Nat) (L st : List Value) (N : Nat) (y : Nat → Nat → Int32) (l : Nat → Nat → Int64), fk_ev d qX12_half 135 L (.ref 246 :: st) (fk_E N y l) = fk_ev d qX12_half 138 L (.ref 247 :: st) (fk_E N y l)) ∧
  (∀ (d : Nat) (L st : List Value) (h : fk_H), fk_ev d qX12_half 138 L st h = fk_ev d qX12_half 141 L (.int (nI 384) :: st) h) ∧
  (∀ (d : Nat) (a0 a2 : Value) (x : Int32) (st : List Value) (h : fk_H), fk_ev d qX12_half 141 [a0, .int x, a2] st h = fk_ev d qX12_half 142 [a0, .int x, a2] (.int x :: st) h) ∧
  (∀ (d : Nat) (L : List Value) (x y : Int32) (st : List Value) (h : fk_H), fk_ev d qX12_half 142 L (.int y :: .int x :: st) h = fk_ev d qX12_half 143 L (.int (x + y) :: st) h) ∧
  (∀ (d : Nat) (L st : List Value) (N : Nat) (y : Nat → Nat → Int32) (l : Nat → Nat → Int64) (i : Nat), i < 3912 → fk_ev d qX12_half 143 L (.int (nI i) :: .ref 247 :: st) (fk_E N y l) = fk_ev d qX12_half 144 L (.int (y 247 i) :: st) (fk_E N y l)) ∧
  (∀ (d : Nat) (L : List Value) (x : Int32) (h : fk_H), fk_ev d qX12_half 144 L [.int x] h = some (some (.int x), h)) ∧
  (∀ (d : Nat) (a1 a2 : Value) (x : Nat) (st : List Value) (h : fk_H), fk_ev d qX12_half 145 [.ref x, a1, a2] st h = fk_ev d qX12_half 146 [.ref x, a1, a2] (.ref x :: st) h) ∧
  (∀ (d : Nat) (L st : List Value) (N : Nat) (y : Nat → Nat → Int32) (l : Nat → Nat → Int64), fk_ev d qX12_half 146 L (.ref 246 :: st) (fk_E N y l) = fk_ev d qX12_half 149 L (.ref 247 :: st) (fk_E N y l)) ∧
  (∀ (d : Nat) (L st : List Value) (h : fk_H), fk_ev d qX12_half 149 L st h = fk_ev d qX12_half 152 L (.int (nI 448) :: st) h) ∧
  (∀ (d : Nat) (a0 a2 : Value) (x : Int32) (st : List Value) (h : fk_H), fk_ev d qX12_half 152 [a0, .int x, a2] st h = fk_ev d qX12_half 153 [a0, .int x, a2] (.int x :: st) h) ∧
  (∀ (d : Nat) (L : List Value) (x y : Int32) (st : List Value) (h : fk_H), fk_ev d qX12_half 153 L (.int y :: .int x :: st) h = fk_ev d qX12_half 154 L (.int (x + y) :: st) h) ∧
  (∀ (d : Nat) (L st : List Value) (N : Nat) (y : Nat → Nat → Int32) (l : Nat → Nat → Int64) (i : Nat), i < 3912 → fk_ev d qX12_half 154 L (.int (nI i) :: .ref 247 :: st) (fk_E N y l) = fk_ev d qX12_half 155 L (.int (y 247 i) :: st) (fk_E N y l)) ∧
  (∀ (d : Nat) (L : List Value) (x : Int32) (h : fk_H), fk_ev d qX12_half 155 L [.int x] h = some (some (.int x), h)) ∧
  (∀ (d : Nat) (a1 a2 : Value) (x : Nat) (st : List Value) (h : fk_H), fk_ev d qX12_half 156 [.ref x, a1, a2] st h = fk_ev d qX12_half 157 [.ref x, a1, a2] (.ref x :: st) h) ∧
  (∀ (d : Nat) (L st : List Value) (N : Nat) (y : Nat → Nat → Int32) (l : Nat → Nat → Int64), fk_ev d qX12_half 157 L (.ref 246 :: st) (fk_E N y l) = fk_ev d qX12_half 160 L (.ref 247 :: st) (fk_E N y l)) ∧
  (∀ (d : Nat) (L st : List Value) (h : fk_H), fk_ev d qX12_half 160 L st h = fk_ev d qX12_half 163 L (.int (nI 512) :: st) h) ∧
  (∀ (d : Nat) (a0 a2 : Value) (x : Int32) (st : List Value) (h : fk_H), fk_ev d qX12_half 163 [a0, .int x, a2] st h = fk_ev d qX12_half 164 [a0, .int x, a2] (.int x :: st) h) ∧
  (∀ (d : Nat) (L : List Value) (x y : Int32) (st : List Value) (h : fk_H), fk_ev d qX12_half 164 L (.int y :: .int x :: st) h = fk_ev d qX12_half 165 L (.int (x + y) :: st) h) ∧
  (∀ (d : Nat) (L st : List Value) (N : Nat) (y : Nat → Nat → Int32) (l : Nat → Nat → Int64) (i : Nat), i < 3912 → fk_ev d qX12_half 165 L (.int (nI i) :: .ref 247 :: st) (fk_E N y l) = fk_ev d qX12_half 166 L (.int (y 247 i) :: st) (fk_E N y l)) ∧
  (∀ (d : Nat) (L : List Value) (x : Int32) (h : fk_H), fk_ev d qX12_half 166 L [.int x] h = some (some (.int x), h)) ∧
  (∀ (d : Nat) (a1 a2 : Value) (x : Nat) (st : List Value) (h : fk_H), fk_ev d qX12_half 167 [.ref x, a1, a2] st h = fk_ev d qX12_half 168 [.ref x, a1, a2] (.ref x :: st) h) ∧
  (∀ (d : Nat) (L st : List Value) (N : Nat) (y : Nat → Nat → Int32) (l : Nat → Nat → Int64), fk_ev d qX12_half 168 L (.ref 246 :: st) (fk_E N y l) = fk_ev d qX12_half 171 L (.ref 247 :: st) (fk_E N y l)) ∧
  (∀ (d : Nat) (L st : List Value) (h : fk_H), fk_ev d qX12_half 171 L st h = fk_ev d qX12_half 174 L (.int (nI 576) :: st) h) ∧
  (∀ (d : Nat) (a0 a2 : Value) (x : Int32) (st : List Value) (h : fk_H), fk_ev d qX12_half 174 [a0, .int x, a2] st h = fk_ev d qX12_half 175 [a0, .int x, a2] (.int x :: st) h) ∧
  (∀ (d : Nat) (L : List Value) (x y : Int32) (st : List Value) (h : fk_H), fk_ev d qX12_half 175 L (.int y :: .int x :: st) h = fk_ev d qX12_half 176 L (.int (x + y) :: st) h) ∧
  (∀ (d : Nat) (L st : List Value) (N : Nat) (y : Nat → Nat → Int32) (l : Nat → Nat → Int64) (i : Nat), i < 3912 → fk_ev d qX12_half 176 L (.int (nI i) :: .ref 247 :: st) (fk_E N y l) = fk_ev d qX12_half 177 L (.int (y 247 i) :: st) (fk_E N y l)) ∧
  (∀ (d : Nat) (L : List Value) (x : Int32) (h : fk_H), fk_ev d qX12_half 177 L [.int x] h = some (some (.int x), h)) ∧
  (∀ (d : Nat) (a1 a2 : Value) (x : Nat) (st : List Value) (h : fk_H), fk_ev d qX12_half 178 [.ref x, a1, a2] st h = fk_ev d qX12_half 179 [.ref x, a1, a2] (.ref x :: st) h) ∧
  (∀ (d : Nat) (L st : List Value) (N : Nat) (y : Nat → Nat → Int32) (l : Nat → Nat → Int64), fk_ev d qX12_half 179 L (.ref 246 :: st) (fk_E N y l) = fk_ev d qX12_half 182 L (.ref 247 :: st) (fk_E N y l)) ∧
  (∀ (d : Nat) (L st : List Value) (h : fk_H), fk_ev d qX12_half 182 L st h = fk_ev d qX12_half 185 L (.int (nI 640) :: st) h) ∧
  (∀ (d : Nat) (a0 a2 : Value) (x : Int32) (st : List Value) (h : fk_H), fk_ev d qX12_half 185 [a0, .int x, a2] st h = fk_ev d qX12_half 186 [a0, .int x, a2] (.int x :: st) h) ∧
  (∀ (d : Nat) (L : List Value) (x y : Int32) (st : List Value) (h : fk_H), fk_ev d qX12_half 186 L (.int y :: .int x :: st) h = fk_ev d qX12_half 187 L (.int (x + y) :: st) h) ∧
  (∀ (d : Nat) (L st : List Value) (N : Nat) (y : Nat → Nat → Int32) (l : Nat → Nat → Int64) (i : Nat), i < 3912 → fk_ev d qX12_half 187 L (.int (nI i) :: .ref 247 :: st) (fk_E N y l) = fk_ev d qX12_half 188 L (.int (y 247 i) :: st) (fk_E N y l)) ∧
  (∀ (d : Nat) (L : List Value) (x : Int32) (h : fk_H), fk_ev d qX12_half 188 L [.int x] h = some (some (.int x), h)) ∧
  (∀ (d : Nat) (a0 a1 : Value) (x : Int32) (st : List Value) (h : fk_H), fk_ev d qX12_half 189 [a0, a1, .int x] st h = fk_ev d qX12_half 190 [a0, a1, .int x] (.int x :: st) h) ∧
  (∀ (d : Nat) (L st : List Value) (h : fk_H), fk_ev d qX12_half 190 L st h = fk_ev d qX12_half 192 L (.int (nI 20) :: st) h) ∧
  (∀ (d : Nat) (L st : List Value) (h : fk_H), fk_ev d qX12_half 192 L st h = fk_ev d qX12_half 194 L (.int (nI 35) :: st) h) ∧
  (∀ (d : Nat) (L : List Value) (x0 : Int32) (x1 : Int32) (x2 : Int32)  (h : fk_H), fk_ev (d + 1) qX12_half 194 L (.int x2 :: .int x1 :: .int x0 :: []) h = (fk_ev d qX12_in 0 [.int x0, .int x1, .int x2] [] h).bind fun o => fk_ev (d + 1) qX12_half 197 L (o.1.toList ++ []) o.2) ∧
  (∀ (d : Nat) (L : List Value) (x : Int32) (st : List Value) (h : fk_H), fk_ev d qX12_half 197 L (.int x :: st) h = if ¬ x = nI 0 then fk_ev d qX12_half 202 L st h else fk_ev d qX12_half 200 L st h) ∧
  (∀ (d : Nat) (L st : List Value) (h : fk_H), fk_ev d qX12_half 200 L st h = fk_ev d qX12_half 201 L (.int ((-1 : Int32)) :: st) h) ∧
  (∀ (d : Nat) (L : List Value) (x : Int32) (h : fk_H), fk_ev d qX12_half 201 L [.int x] h = some (some (.int x), h)) ∧
  (∀ (d : Nat) (a1 a2 : Value) (x : Nat) (st : List Value) (h : fk_H), fk_ev d qX12_half 202 [.ref x, a1, a2] st h = fk_ev d qX12_half 203 [.ref x, a1, a2] (.ref x :: st) h) ∧
  (∀ (d : Nat) (L st : List Value) (N : Nat) (y : Nat → Nat → Int32) (l : Nat → Nat → Int64), fk_ev d qX12_half 203 L (.ref 246 :: st) (fk_E N y l) = fk_ev d qX12_half 206 L (.ref 247 :: st) (fk_E N y l)) ∧
  (∀ (d : Nat) (L st : List Value) (h : fk_H), fk_ev d qX12_half 206 L st h = fk_ev d qX12_half 209 L (.int (nI 704) :: st) h) ∧
  (∀ (d : Nat) (a0 a2 : Value) (x : Int32) (st : List Value) (h : fk_H), fk_ev d qX12_half 209 [a0, .int x, a2] st h = fk_ev d qX12_half 210 [a0, .int x, a2] (.int x :: st) h) ∧
  (∀ (d : Nat) (L : List Value) (x y : Int32) (st : List Value) (h : fk_H), fk_ev d qX12_half 210 L (.int y :: .int x :: st) h = fk_ev d qX12_half 211 L (.int (x + y) :: st) h) ∧
  (∀ (d : Nat) (L st : List Value) (N : Nat) (y : Nat → Nat → Int32) (l : Nat → Nat → Int64) (i : Nat), i < 3912 → fk_ev d qX12_half 211 L (.int (nI i) :: .ref 247 :: st) (fk_E N y l) = fk_ev d qX12_half 212 L (.int (y 247 i) :: st) (fk_E N y l)) ∧
  (∀ (d : Nat) (a0 a1 : Value) (x : Int32) (st : List Value) (h : fk_H), fk_ev d qX12_half 212 [a0, a1, .int x] st h = fk_ev d qX12_half 213 [a0, a1, .int x] (.int x :: st) h) ∧
  (∀ (d : Nat) (L st : List Value) (h : fk_H), fk_ev d qX12_half 213 L st h = fk_ev d qX12_half 215 L (.int (nI 20) :: st) h) ∧
  (∀ (d : Nat) (L : List Value) (x y : Int32) (st : List Value) (h : fk_H), fk_ev d qX12_half 215 L (.int y :: .int x :: st) h = fk_ev d qX12_half 216 L (.int (x - y) :: st) h) ∧
  (∀ (d : Nat) (L : List Value) (x0 : Int32) (x1 : Int32)  (h : fk_H), fk_ev (d + 1) qX12_half 216 L (.int x1 :: .int x0 :: []) h = (fk_ev d qX12_has 0 [.int x0, .int x1] [] h).bind fun o => fk_ev (d + 1) qX12_half 219 L (o.1.toList ++ []) o.2) ∧
  (∀ (d : Nat) (L : List Value) (x : Int32) (st : List Value) (h : fk_H), fk_ev d qX12_half 219 L (.int x :: st) h = if ¬ x = nI 0 then fk_ev d qX12_half 227 L st h else fk_ev d qX12_half 222 L st h) ∧
  (∀ (d : Nat) (L st : List Value) (h : fk_H), fk_ev d qX12_half 222 L st h = fk_ev d qX12_half 224 L (.int ((-2 : Int32)) :: st) h) ∧
  (∀ (d : Nat) (L st : List Value) (h : fk_H), fk_ev d qX12_half 224 L st h = fk_ev d qX12_half 252 L st h) ∧
  (∀ (d : Nat) (a1 a2 : Value) (x : Nat) (st : List Value) (h : fk_H), fk_ev d qX12_half 227 [.ref x, a1, a2] st h = fk_ev d qX12_half 228 [.ref x, a1, a2] (.ref x :: st) h) ∧
  (∀ (d : Nat) (L st : List Value) (N : Nat) (y : Nat → Nat → Int32) (l : Nat → Nat → Int64), fk_ev d qX12_half 228 L (.ref 246 :: st) (fk_E N y l) = fk_ev d qX12_half 231 L (.ref 247 :: st) (fk_E N y l)) ∧
  (∀ (d : Nat) (L st : List Value) (h : fk_H), fk_ev d qX12_half 231 L st h = fk_ev d qX12_half 234 L (.int (nI 768) :: st) h) ∧
  (∀ (d : Nat) (a0 a2 : Value) (x : Int32) (st : List Value) (h : fk_H), fk_ev d qX12_half 234 [a0, .int x, a2] st h = fk_ev d qX12_half 235 [a0, .int x, a2] (.int x :: st) h) ∧
  (∀ (d : Nat) (L : List Value) (x y : Int32) (st : List Value) (h : fk_H), fk_ev d qX12_half 235 L (.int y :: .int x :: st) h = fk_ev d qX12_half 236 L (.int (x + y) :: st) h) ∧
  (∀ (d : Nat) (L st : List Value) (N : Nat) (y : Nat → Nat → Int32) (l : Nat → Nat → Int64) (i : Nat), i < 3912 → fk_ev d qX12_half 236 L (.int (nI i) :: .ref 247 :: st) (fk_E N y l) = fk_ev d qX12_half 237 L (.int (y 247 i) :: st) (fk_E N y l)) ∧
  (∀ (d : Nat) (a0 a1 : Value) (x : Int32) (st : List Value) (h : fk_H), fk_ev d qX12_half 237 [a0, a1, .int x] st h = fk_ev d qX12_half 238 [a0, a1, .int x] (.int x :: st) h) ∧
  (∀ (d : Nat) (L st : List Value) (h : fk_H), fk_ev d qX12_half 238 L st h = fk_ev d qX12_half 240 L (.int (nI 20) :: st) h) ∧
  (∀ (d : Nat) (L : List Value) (x y : Int32) (st : List Value) (h : fk_H), fk_ev d qX12_half 240 L (.int y :: .int x :: st) h = fk_ev d qX12_half 241 L (.int (x - y) :: st) h) ∧
  (∀ (d : Nat) (L : List Value) (x0 : Int32) (x1 : Int32)  (h : fk_H), fk_ev (d + 1) qX12_half 241 L (.int x1 :: .int x0 :: []) h = (fk_ev d qX12_has 0 [.int x0, .int x1] [] h).bind fun o => fk_ev (d + 1) qX12_half 244 L (o.1.toList ++ []) o.2) ∧
  (∀ (d : Nat) (L : List Value) (x : Int32) (st : List Value) (h : fk_H), fk_ev d qX12_half 244 L (.int x :: st) h = if x = nI 0 then fk_ev d qX12_half 251 L st h else fk_ev d qX12_half 247 L st h) ∧
  (∀ (d : Nat) (L st : List Value) (h : fk_H), fk_ev d qX12_half 247 L st h = fk_ev d qX12_half 248 L (.int (nI 1) :: st) h) ∧
  (∀ (d : Nat) (L st : List Value) (h : fk_H), fk_ev d qX12_half 248 L st h = fk_ev d qX12_half 252 L st h) ∧
  (∀ (d : Nat) (L st : List Value) (h : fk_H), fk_ev d qX12_half 251 L st h = fk_ev d qX12_half 252 L (.int (nI 0) :: st) h) ∧
  (∀ (d : Nat) (L : List Value) (x : Int32) (h : fk_H), fk_ev d qX12_half 252 L [.int x] h = some (some (.int x), h)) := ⟨fun d a1 a2 x st h => fk_w_aloadn 0 [.ref x, a1, a2] dX12_half_0 rfl,
  fun d a0 a2 x st h => fk_w_iloadn 1 [a0, .int x, a2] dX12_half_1 rfl,
  fun d L x0 N y l  => fk_g_call [.int x0] [] rfl lm_12_123 dX12_half_2 rfl ⟨rfl, by decide⟩ (by simp) fk_at_246,
  fun d L x st h => fk_r_if_ne dX12_half_5 (by decide),
  fun d L st h => fk_w_iconst dX12_half_8 (by decide),
  fun d L x h => fk_r_ret dX12_half_9 (Or.inl rfl),
  fun d a0 a1 x st h => fk_w_iloadn 2 [a0, a1, .int x] dX12_half_10 rfl,
  fun d L st h => fk_w_tab (0) (off := 57) dX12_half_11 (by decide) (by decide) (by decide) (by decide),
  fun d L st h => fk_w_tab (1) (off := 66) dX12_half_11 (by decide) (by decide) (by decide) (by decide),
  fun d L st h => fk_w_tab (2) (off := 76) dX12_half_11 (by decide) (by decide) (by decide) (by decide),
  fun d L st h => fk_w_tab (3) (off := 87) dX12_half_11 (by decide) (by decide) (by decide) (by decide),
  fun d L st h => fk_w_tab (4) (off := 101) dX12_half_11 (by decide) (by decide) (by decide) (by decide),
  fun d L st h => fk_w_tab (5) (off := 112) dX12_half_11 (by decide) (by decide) (by decide) (by decide),
  fun d L st h => fk_w_tab (6) (off := 123) dX12_half_11 (by decide) (by decide) (by decide) (by decide),
  fun d L st h => fk_w_tab (7) (off := 134) dX12_half_11 (by decide) (by decide) (by decide) (by decide),
  fun d L st h => fk_w_tab (8) (off := 145) dX12_half_11 (by decide) (by decide) (by decide) (by decide),
  fun d L st h => fk_w_tab (9) (off := 156) dX12_half_11 (by decide) (by decide) (by decide) (by decide),
  fun d L st h => fk_w_tab (10) (off := 167) dX12_half_11 (by decide) (by decide) (by decide) (by decide),
  fun d L x st h hx => fk_w_tabo dX12_half_11 hx (by decide),
  fun d a1 a2 x st h => fk_w_aloadn 0 [.ref x, a1, a2] dX12_half_68 rfl,
  fun d L st N y l => fk_g_getC rfl lf_12_7 (by decide) rfl dX12_half_69 fk_at_246,
  fun d L st h => fk_w_iconst dX12_half_72 (by decide),
  fun d a0 a2 x st h => fk_w_iloadn 1 [a0, .int x, a2] dX12_half_73 rfl,
  fun d L x y st h => fk_r_iadd dX12_half_74,
  fun d L st N y l i hi => fk_g_iald fk_at_247 fk_ln_247 (by decide) dX12_half_75 hi,
  fun d L x h => fk_r_ret dX12_half_76 (Or.inl rfl),
  fun d a1 a2 x st h => fk_w_aloadn 0 [.ref x, a1, a2] dX12_half_77 rfl,
  fun d L st N y l => fk_g_getC rfl lf_12_7 (by decide) rfl dX12_half_78 fk_at_246,
  fun d L st h => fk_w_bipush dX12_half_81 (by decide),
  fun d a0 a2 x st h => fk_w_iloadn 1 [a0, .int x, a2] dX12_half_83 rfl,
  fun d L x y st h => fk_r_iadd dX12_half_84,
  fun d L st N y l i hi => fk_g_iald fk_at_247 fk_ln_247 (by decide) dX12_half_85 hi,
  fun d L x h => fk_r_ret dX12_half_86 (Or.inl rfl),
  fun d a1 a2 x st h => fk_w_aloadn 0 [.ref x, a1, a2] dX12_half_87 rfl,
  fun d L st N y l => fk_g_getC rfl lf_12_7 (by decide) rfl dX12_half_88 fk_at_246,
  fun d L st h => fk_w_sipush dX12_half_91 (by decide),
  fun d a0 a2 x st h => fk_w_iloadn 1 [a0, .int x, a2] dX12_half_94 rfl,
  fun d L x y st h => fk_r_iadd dX12_half_95,
  fun d L st N y l i hi => fk_g_iald fk_at_247 fk_ln_247 (by decide) dX12_half_96 hi,
  fun d L x h => fk_r_ret dX12_half_97 (Or.inl rfl),
  fun d a1 a2 x st h => fk_w_aloadn 0 [.ref x, a1, a2] dX12_half_98 rfl,
  fun d a0 a2 x st h => fk_w_iloadn 1 [a0, .int x, a2] dX12_half_99 rfl,
  fun d L x0 N y l  => fk_g_call [.int x0] [] rfl lm_12_126 dX12_half_100 rfl ⟨rfl, by decide⟩ (by simp) fk_at_246,
  fun d L x st h => fk_r_if_eq dX12_half_103 (by decide),
  fun d L st h => fk_w_iconst dX12_half_106 (by decide),
  fun d L st h => fk_r_goto dX12_half_107 (by decide),
  fun d L st h => fk_w_iconst dX12_half_110 (by decide),
  fun d L x h => fk_r_ret dX12_half_111 (Or.inl rfl),
  fun d a1 a2 x st h => fk_w_aloadn 0 [.ref x, a1, a2] dX12_half_112 rfl,
  fun d L st N y l => fk_g_getC rfl lf_12_7 (by decide) rfl dX12_half_113 fk_at_246,
  fun d L st h => fk_w_sipush dX12_half_116 (by decide),
  fun d a0 a2 x st h => fk_w_iloadn 1 [a0, .int x, a2] dX12_half_119 rfl,
  fun d L x y st h => fk_r_iadd dX12_half_120,
  fun d L st N y l i hi => fk_g_iald fk_at_247 fk_ln_247 (by decide) dX12_half_121 hi,
  fun d L x h => fk_r_ret dX12_half_122 (Or.inl rfl),
  fun d a1 a2 x st h => fk_w_aloadn 0 [.ref x, a1, a2] dX12_half_123 rfl,
  fun d L st N y l => fk_g_getC rfl lf_12_7 (by decide) rfl dX12_half_124 fk_at_246,
  fun d L st h => fk_w_sipush dX12_half_127 (by decide),
  fun d a0 a2 x st h => fk_w_iloadn 1 [a0, .int x, a2] dX12_half_130 rfl,
  fun d L x y st h => fk_r_iadd dX12_half_131,
  fun d L st N y l i hi => fk_g_iald fk_at_247 fk_ln_247 (by decide) dX12_half_132 hi,
  fun d L x h => fk_r_ret dX12_half_133 (Or.inl rfl),
  fun d a1 a2 x st h => fk_w_aloadn 0 [.ref x, a1, a2] dX12_half_134 rfl,
  fun d L st N y l => fk_g_getC rfl lf_12_7 (by decide) rfl dX12_half_135 fk_at_246,
  fun d L st h => fk_w_sipush dX12_half_138 (by decide),
  fun d a0 a2 x st h => fk_w_iloadn 1 [a0, .int x, a2] dX12_half_141 rfl,
  fun d L x y st h => fk_r_iadd dX12_half_142,
  fun d L st N y l i hi => fk_g_iald fk_at_247 fk_ln_247 (by decide) dX12_half_143 hi,
  fun d L x h => fk_r_ret dX12_half_144 (Or.inl rfl),
  fun d a1 a2 x st h => fk_w_aloadn 0 [.ref x, a1, a2] dX12_half_145 rfl,
  fun d L st N y l => fk_g_getC rfl lf_12_7 (by decide) rfl dX12_half_146 fk_at_246,
  fun d L st h => fk_w_sipush dX12_half_149 (by decide),
  fun d a0 a2 x st h => fk_w_iloadn 1 [a0, .int x, a2] dX12_half_152 rfl,
  fun d L x y st h => fk_r_iadd dX12_half_153,
  fun d L st N y l i hi => fk_g_iald fk_at_247 fk_ln_247 (by decide) dX12_half_154 hi,
  fun d L x h => fk_r_ret dX12_half_155 (Or.inl rfl),
  fun d a1 a2 x st h => fk_w_aloadn 0 [.ref x, a1, a2] dX12_half_156 rfl,
  fun d L st N y l => fk_g_getC rfl lf_12_7 (by decide) rfl dX12_half_157 fk_at_246,
  fun d L st h => fk_w_sipush dX12_half_160 (by decide),
  fun d a0 a2 x st h => fk_w_iloadn 1 [a0, .int x, a2] dX12_half_163 rfl,
  fun d L x y st h => fk_r_iadd dX12_half_164,
  fun d L st N y l i hi => fk_g_iald fk_at_247 fk_ln_247 (by decide) dX12_half_165 hi,
  fun d L x h => fk_r_ret dX12_half_166 (Or.inl rfl),
  fun d a1 a2 x st h => fk_w_aloadn 0 [.ref x, a1, a2] dX12_half_167 rfl,
  fun d L st N y l => fk_g_getC rfl lf_12_7 (by decide) rfl dX12_half_168 fk_at_246,
  fun d L st h => fk_w_sipush dX12_half_171 (by decide),
  fun d a0 a2 x st h => fk_w_iloadn 1 [a0, .int x, a2] dX12_half_174 rfl,
  fun d L x y st h => fk_r_iadd dX12_half_175,
  fun d L st N y l i hi => fk_g_iald fk_at_247 fk_ln_247 (by decide) dX12_half_176 hi,
  fun d L x h => fk_r_ret dX12_half_177 (Or.inl rfl),
  fun d a1 a2 x st h => fk_w_aloadn 0 [.ref x, a1, a2] dX12_half_178 rfl,
  fun d L st N y l => fk_g_getC rfl lf_12_7 (by decide) rfl dX12_half_179 fk_at_246,
  fun d L st h => fk_w_sipush dX12_half_182 (by decide),
  fun d a0 a2 x st h => fk_w_iloadn 1 [a0, .int x, a2] dX12_half_185 rfl,
  fun d L x y st h => fk_r_iadd dX12_half_186,
  fun d L st N y l i hi => fk_g_iald fk_at_247 fk_ln_247 (by decide) dX12_half_187 hi,
  fun d L x h => fk_r_ret dX12_half_188 (Or.inl rfl),
  fun d a0 a1 x st h => fk_w_iloadn 2 [a0, a1, .int x] dX12_half_189 rfl,
  fun d L st h => fk_w_bipush dX12_half_190 (by decide),
  fun d L st h => fk_w_bipush dX12_half_192 (by decide),
  fun d L x0 x1 x2 h => fk_g_calls [.int x0, .int x1, .int x2] [] rfl lm_12_112 dX12_half_194 rfl ⟨rfl, by decide⟩ (by simp),
  fun d L x st h => fk_r_if_ne dX12_half_197 (by decide),
  fun d L st h => fk_w_iconst dX12_half_200 (by decide),
  fun d L x h => fk_r_ret dX12_half_201 (Or.inl rfl),
  fun d a1 a2 x st h => fk_w_aloadn 0 [.ref x, a1, a2] dX12_half_202 rfl,
  fun d L st N y l => fk_g_getC rfl lf_12_7 (by decide) rfl dX12_half_203 fk_at_246,
  fun d L st h => fk_w_sipush dX12_half_206 (by decide),
  fun d a0 a2 x st h => fk_w_iloadn 1 [a0, .int x, a2] dX12_half_209 rfl,
  fun d L x y st h => fk_r_iadd dX12_half_210,
  fun d L st N y l i hi => fk_g_iald fk_at_247 fk_ln_247 (by decide) dX12_half_211 hi,
  fun d a0 a1 x st h => fk_w_iloadn 2 [a0, a1, .int x] dX12_half_212 rfl,
  fun d L st h => fk_w_bipush dX12_half_213 (by decide),
  fun d L x y st h => fk_r_isub dX12_half_215,
  fun d L x0 x1 h => fk_g_calls [.int x0, .int x1] [] rfl lm_12_108 dX12_half_216 rfl ⟨rfl, by decide⟩ (by simp),
  fun d L x st h => fk_r_if_ne dX12_half_219 (by decide),
  fun d L st h => fk_w_bipush dX12_half_222 (by decide),
  fun d L st h => fk_r_goto dX12_half_224 (by decide),
  fun d a1 a2 x st h => fk_w_aloadn 0 [.ref x, a1, a2] dX12_half_227 rfl,
  fun d L st N y l => fk_g_getC rfl lf_12_7 (by decide) rfl dX12_half_228 fk_at_246,
  fun d L st h => fk_w_sipush dX12_half_231 (by decide),
  fun d a0 a2 x st h => fk_w_iloadn 1 [a0, .int x, a2] dX12_half_234 rfl,
  fun d L x y st h => fk_r_iadd dX12_half_235,
  fun d L st N y l i hi => fk_g_iald fk_at_247 fk_ln_247 (by decide) dX12_half_236 hi,
  fun d a0 a1 x st h => fk_w_iloadn 2 [a0, a1, .int x] dX12_half_237 rfl,
  fun d L st h => fk_w_bipush dX12_half_238 (by decide),
  fun d L x y st h => fk_r_isub dX12_half_240,
  fun d L x0 x1 h => fk_g_calls [.int x0, .int x1] [] rfl lm_12_108 dX12_half_241 rfl ⟨rfl, by decide⟩ (by simp),
  fun d L x st h => fk_r_if_eq dX12_half_244 (by decide),
  fun d L st h => fk_w_iconst dX12_half_247 (by decide),
  fun d L st h => fk_r_goto dX12_half_248 (by decide),
  fun d L st h => fk_w_iconst dX12_half_251 (by decide),
  fun d L x h => fk_r_ret dX12_half_252 (Or.inl rfl)⟩
theorem dX12_gladly_0 : decode cX12_gladly 0 = .ok (.aload_n 0, 1) := by decide +kernel
theorem dX12_gladly_1 : decode cX12_gladly 1 = .ok (.iload_n 1, 1) := by decide +kernel
theorem dX12_gladly_2 : decode cX12_gladly 2 = .ok (.invokevirtual 269, 3) := by decide +kernel
theorem dX12_gladly_5 : decode cX12_gladly 5 = .ok (.ifCond .eq 11, 3) := by decide +kernel
theorem dX12_gladly_8 : decode cX12_gladly 8 = .ok (.aload_n 0, 1) := by decide +kernel
theorem dX12_gladly_9 : decode cX12_gladly 9 = .ok (.iload_n 2, 1) := by decide +kernel
theorem dX12_gladly_10 : decode cX12_gladly 10 = .ok (.invokevirtual 289, 3) := by decide +kernel
theorem dX12_gladly_13 : decode cX12_gladly 13 = .ok (.ifCond .ne 5, 3) := by decide +kernel
theorem dX12_gladly_16 : decode cX12_gladly 16 = .ok (.iconst (-1), 1) := by decide +kernel
theorem dX12_gladly_17 : decode cX12_gladly 17 = .ok (.ireturn, 1) := by decide +kernel
theorem dX12_gladly_18 : decode cX12_gladly 18 = .ok (.aload_n 0, 1) := by decide +kernel
theorem dX12_gladly_19 : decode cX12_gladly 19 = .ok (.getfield 19, 3) := by decide +kernel
theorem dX12_gladly_22 : decode cX12_gladly 22 = .ok (.iload_n 2, 1) := by decide +kernel
theorem dX12_gladly_23 : decode cX12_gladly 23 = .ok (.iaload, 1) := by decide +kernel
theorem dX12_gladly_24 : decode cX12_gladly 24 = .ok (.aload_n 0, 1) := by decide +kernel
theorem dX12_gladly_25 : decode cX12_gladly 25 = .ok (.getfield 7, 3) := by decide +kernel
theorem dX12_gladly_28 : decode cX12_gladly 28 = .ok (.sipush 320, 3) := by decide +kernel
theorem dX12_gladly_31 : decode cX12_gladly 31 = .ok (.iload_n 1, 1) := by decide +kernel
theorem dX12_gladly_32 : decode cX12_gladly 32 = .ok (.iadd, 1) := by decide +kernel
theorem dX12_gladly_33 : decode cX12_gladly 33 = .ok (.iaload, 1) := by decide +kernel
theorem dX12_gladly_34 : decode cX12_gladly 34 = .ok (.if_icmp .ne 12, 3) := by decide +kernel
theorem dX12_gladly_37 : decode cX12_gladly 37 = .ok (.aload_n 0, 1) := by decide +kernel
theorem dX12_gladly_38 : decode cX12_gladly 38 = .ok (.iload_n 1, 1) := by decide +kernel
theorem dX12_gladly_39 : decode cX12_gladly 39 = .ok (.iload_n 2, 1) := by decide +kernel
theorem dX12_gladly_40 : decode cX12_gladly 40 = .ok (.invokevirtual 292, 3) := by decide +kernel
theorem dX12_gladly_43 : decode cX12_gladly 43 = .ok (.goto 5, 3) := by decide +kernel
theorem dX12_gladly_46 : decode cX12_gladly 46 = .ok (.bipush (-2), 2) := by decide +kernel
theorem dX12_gladly_48 : decode cX12_gladly 48 = .ok (.ireturn, 1) := by decide +kernel
theorem rX12_gladly : (∀ (d : Nat) (a1 a2 : Value) (x : Nat) (st : List Value) (h : fk_H), fk_ev d qX12_gladly 0 [.ref x, a1, a2] st h = fk_ev d qX12_gladly 1 [.ref x, a1, a2] (.ref x :: st) h) ∧
  (∀ (d : Nat) (a0 a2 : Value) (x : Int32) (st : List Value) (h : fk_H), fk_ev d qX12_gladly 1 [a0, .int x, a2] st h = fk_ev d qX12_gladly 2 [a0, .int x, a2] (.int x :: st) h) ∧
  (∀ (d : Nat) (L : List Value) (x0 : Int32)  (N : Nat) (y : Nat → Nat → Int32) (l : Nat → Nat → Int64), fk_ev (d + 1) qX12_gladly 2 L (.int x0 :: .ref 246 :: []) (fk_E N y l) = (fk_ev d qX12_isAt 0 [.ref 246, .int x0] [] (fk_E N y l)).bind fun o => fk_ev (d + 1) qX12_gladly 5 L (o.1.toList ++ []) o.2) ∧
  (∀ (d : Nat) (L : List Value) (x : Int32) (st : List Value) (h : fk_H), fk_ev d qX12_gladly 5 L (.int x :: st) h = if x = nI 0 then fk_ev d qX12_gladly 16 L st h else fk_ev d qX12_gladly 8 L st h) ∧
  (∀ (d : Nat) (a1 a2 : Value) (x : Nat) (st : List Value) (h : fk_H), fk_ev d qX12_gladly 8 [.ref x, a1, a2] st h = fk_ev d qX12_gladly 9 [.ref x, a1, a2] (.ref x :: st) h) ∧
  (∀ (d : Nat) (a0 a1 : Value) (x : Int32) (st : List Value) (h : fk_H), fk_ev d qX12_gladly 9 [a0, a1, .int x] st h = fk_ev d qX12_gladly 10 [a0, a1, .int x] (.int x :: st) h) ∧
  (∀ (d : Nat) (L : List Value) (x0 : Int32)  (N : Nat) (y : Nat → Nat → Int32) (l : Nat → Nat → Int64), fk_ev (d + 1) qX12_gladly 10 L (.int x0 :: .ref 246 :: []) (fk_E N y l) = (fk_ev d qX12_isRoad 0 [.ref 246, .int x0] [] (fk_E N y l)).bind fun o => fk_ev (d + 1) qX12_gladly 13 L (o.1.toList ++ []) o.2) ∧
  (∀ (d : Nat) (L : List Value) (x : Int32) (st : List Value) (h : fk_H), fk_ev d qX12_gladly 13 L (.int x :: st) h = if ¬ x = nI 0 then fk_ev d qX12_gladly 18 L st h else fk_ev d qX12_gladly 16 L st h) ∧
  (∀ (d : Nat) (L st : List Value) (h : fk_H), fk_ev d qX12_gladly 16 L st h = fk_ev d qX12_gladly 17 L (.int ((-1 : Int32)) :: st) h) ∧
  (∀ (d : Nat) (L : List Value) (x : Int32) (h : fk_H), fk_ev d qX12_gladly 17 L [.int x] h = some (some (.int x), h)) ∧
  (∀ (d : Nat) (a1 a2 : Value) (x : Nat) (st : List Value) (h : fk_H), fk_ev d qX12_gladly 18 [.ref x, a1, a2] st h = fk_ev d qX12_gladly 19 [.ref x, a1, a2] (.ref x :: st) h) ∧
  (∀ (d : Nat) (L st : List Value) (N : Nat) (y : Nat → Nat → Int32) (l : Nat → Nat → Int64), fk_ev d qX12_gladly 19 L (.ref 246 :: st) (fk_E N y l) = fk_ev d qX12_gladly 22 L (.ref 250 :: st) (fk_E N y l)) ∧
  (∀ (d : Nat) (a0 a1 : Value) (x : Int32) (st : List Value) (h : fk_H), fk_ev d qX12_gladly 22 [a0, a1, .int x] st h = fk_ev d qX12_gladly 23 [a0, a1, .int x] (.int x :: st) h) ∧
  (∀ (d : Nat) (L st : List Value) (N : Nat) (y : Nat → Nat → Int32) (l : Nat → Nat → Int64) (i : Nat), i < 32 → fk_ev d qX12_gladly 23 L (.int (nI i) :: .ref 250 :: st) (fk_E N y l) = fk_ev d qX12_gladly 24 L (.int (y 250 i) :: st) (fk_E N y l)) ∧
  (∀ (d : Nat) (a1 a2 : Value) (x : Nat) (st : List Value) (h : fk_H), fk_ev d qX12_gladly 24 [.ref x, a1, a2] st h = fk_ev d qX12_gladly 25 [.ref x, a1, a2] (.ref x :: st) h) ∧
  (∀ (d : Nat) (L st : List Value) (N : Nat) (y : Nat → Nat → Int32) (l : Nat → Nat → Int64), fk_ev d qX12_gladly 25 L (.ref 246 :: st) (fk_E N y l) = fk_ev d qX12_gladly 28 L (.ref 247 :: st) (fk_E N y l)) ∧
  (∀ (d : Nat) (L st : List Value) (h : fk_H), fk_ev d qX12_gladly 28 L st h = fk_ev d qX12_gladly 31 L (.int (nI 320) :: st) h) ∧
  (∀ (d : Nat) (a0 a2 : Value) (x : Int32) (st : List Value) (h : fk_H), fk_ev d qX12_gladly 31 [a0, .int x, a2] st h = fk_ev d qX12_gladly 32 [a0, .int x, a2] (.int x :: st) h) ∧
  (∀ (d : Nat) (L : List Value) (x y : Int32) (st : List Value) (h : fk_H), fk_ev d qX12_gladly 32 L (.int y :: .int x :: st) h = fk_ev d qX12_gladly 33 L (.int (x + y) :: st) h) ∧
  (∀ (d : Nat) (L st : List Value) (N : Nat) (y : Nat → Nat → Int32) (l : Nat → Nat → Int64) (i : Nat), i < 3912 → fk_ev d qX12_gladly 33 L (.int (nI i) :: .ref 247 :: st) (fk_E N y l) = fk_ev d qX12_gladly 34 L (.int (y 247 i) :: st) (fk_E N y l)) ∧
  (∀ (d : Nat) (L : List Value) (x y : Int32) (st : List Value) (h : fk_H), fk_ev d qX12_gladly 34 L (.int y :: .int x :: st) h = if ¬ x = y then fk_ev d qX12_gladly 46 L st h else fk_ev d qX12_gladly 37 L st h) ∧
  (∀ (d : Nat) (a1 a2 : Value) (x : Nat) (st : List Value) (h : fk_H), fk_ev d qX12_gladly 37 [.ref x, a1, a2] st h = fk_ev d qX12_gladly 38 [.ref x, a1, a2] (.ref x :: st) h) ∧
  (∀ (d : Nat) (a0 a2 : Value) (x : Int32) (st : List Value) (h : fk_H), fk_ev d qX12_gladly 38 [a0, .int x, a2] st h = fk_ev d qX12_gladly 39 [a0, .int x, a2] (.int x :: st) h) ∧
  (∀ (d : Nat) (a0 a1 : Value) (x : Int32) (st : List Value) (h : fk_H), fk_ev d qX12_gladly 39 [a0, a1, .int x] st h = fk_ev d qX12_gladly 40 [a0, a1, .int x] (.int x :: st) h) ∧
  (∀ (d : Nat) (L : List Value) (x0 : Int32) (x1 : Int32)  (N : Nat) (y : Nat → Nat → Int32) (l : Nat → Nat → Int64), fk_ev (d + 1) qX12_gladly 40 L (.int x1 :: .int x0 :: .ref 246 :: []) (fk_E N y l) = (fk_ev d qX12_gladlyFor 0 [.ref 246, .int x0, .int x1] [] (fk_E N y l)).bind fun o => fk_ev (d + 1) qX12_gladly 43 L (o.1.toList ++ []) o.2) ∧
  (∀ (d : Nat) (L st : List Value) (h : fk_H), fk_ev d qX12_gladly 43 L st h = fk_ev d qX12_gladly 48 L st h) ∧
  (∀ (d : Nat) (L st : List Value) (h : fk_H), fk_ev d qX12_gladly 46 L st h = fk_ev d qX12_gladly 48 L (.int ((-2 : Int32)) :: st) h) ∧
  (∀ (d : Nat) (L : List Value) (x : Int32) (h : fk_H), fk_ev d qX12_gladly 48 L [.int x] h = some (some (.int x), h)) := ⟨fun d a1 a2 x st h => fk_w_aloadn 0 [.ref x, a1, a2] dX12_gladly_0 rfl,
  fun d a0 a2 x st h => fk_w_iloadn 1 [a0, .int x, a2] dX12_gladly_1 rfl,
  fun d L x0 N y l  => fk_g_call [.int x0] [] rfl lm_12_269 dX12_gladly_2 rfl ⟨rfl, by decide⟩ (by simp) fk_at_246,
  fun d L x st h => fk_r_if_eq dX12_gladly_5 (by decide),
  fun d a1 a2 x st h => fk_w_aloadn 0 [.ref x, a1, a2] dX12_gladly_8 rfl,
  fun d a0 a1 x st h => fk_w_iloadn 2 [a0, a1, .int x] dX12_gladly_9 rfl,
  fun d L x0 N y l  => fk_g_call [.int x0] [] rfl lm_12_289 dX12_gladly_10 rfl ⟨rfl, by decide⟩ (by simp) fk_at_246,
  fun d L x st h => fk_r_if_ne dX12_gladly_13 (by decide),
  fun d L st h => fk_w_iconst dX12_gladly_16 (by decide),
  fun d L x h => fk_r_ret dX12_gladly_17 (Or.inl rfl),
  fun d a1 a2 x st h => fk_w_aloadn 0 [.ref x, a1, a2] dX12_gladly_18 rfl,
  fun d L st N y l => fk_g_getC rfl lf_12_19 (by decide) rfl dX12_gladly_19 fk_at_246,
  fun d a0 a1 x st h => fk_w_iloadn 2 [a0, a1, .int x] dX12_gladly_22 rfl,
  fun d L st N y l i hi => fk_g_iald fk_at_250 fk_ln_250 (by decide) dX12_gladly_23 hi,
  fun d a1 a2 x st h => fk_w_aloadn 0 [.ref x, a1, a2] dX12_gladly_24 rfl,
  fun d L st N y l => fk_g_getC rfl lf_12_7 (by decide) rfl dX12_gladly_25 fk_at_246,
  fun d L st h => fk_w_sipush dX12_gladly_28 (by decide),
  fun d a0 a2 x st h => fk_w_iloadn 1 [a0, .int x, a2] dX12_gladly_31 rfl,
  fun d L x y st h => fk_r_iadd dX12_gladly_32,
  fun d L st N y l i hi => fk_g_iald fk_at_247 fk_ln_247 (by decide) dX12_gladly_33 hi,
  fun d L x y st h => fk_r_icmp_ne dX12_gladly_34 (by decide),
  fun d a1 a2 x st h => fk_w_aloadn 0 [.ref x, a1, a2] dX12_gladly_37 rfl,
  fun d a0 a2 x st h => fk_w_iloadn 1 [a0, .int x, a2] dX12_gladly_38 rfl,
  fun d a0 a1 x st h => fk_w_iloadn 2 [a0, a1, .int x] dX12_gladly_39 rfl,
  fun d L x0 x1 N y l  => fk_g_call [.int x0, .int x1] [] rfl lm_12_292 dX12_gladly_40 rfl ⟨rfl, by decide⟩ (by simp) fk_at_246,
  fun d L st h => fk_r_goto dX12_gladly_43 (by decide),
  fun d L st h => fk_w_bipush dX12_gladly_46 (by decide),
  fun d L x h => fk_r_ret dX12_gladly_48 (Or.inl rfl)⟩
theorem dX12_halves_0 : decode cX12_halves 0 = .ok (.iload_n 1, 1) := by decide +kernel
theorem dX12_halves_1 : decode cX12_halves 1 = .ok (.invokestatic 132, 3) := by decide +kernel
theorem dX12_halves_4 : decode cX12_halves 4 = .ok (.ifCond .eq 12, 3) := by decide +kernel
theorem dX12_halves_7 : decode cX12_halves 7 = .ok (.iload_n 2, 1) := by decide +kernel
theorem dX12_halves_8 : decode cX12_halves 8 = .ok (.iconst 0, 1) := by decide +kernel
theorem dX12_halves_9 : decode cX12_halves 9 = .ok (.iconst 3, 1) := by decide +kernel
theorem dX12_halves_10 : decode cX12_halves 10 = .ok (.invokestatic 112, 3) := by decide +kernel
theorem dX12_halves_13 : decode cX12_halves 13 = .ok (.ifCond .ne 5, 3) := by decide +kernel
theorem dX12_halves_16 : decode cX12_halves 16 = .ok (.iconst (-1), 1) := by decide +kernel
theorem dX12_halves_17 : decode cX12_halves 17 = .ok (.ireturn, 1) := by decide +kernel
theorem dX12_halves_18 : decode cX12_halves 18 = .ok (.iconst 0, 1) := by decide +kernel
theorem dX12_halves_19 : decode cX12_halves 19 = .ok (.istore_n 3, 1) := by decide +kernel
theorem dX12_halves_20 : decode cX12_halves 20 = .ok (.iconst 0, 1) := by decide +kernel
theorem dX12_halves_21 : decode cX12_halves 21 = .ok (.istore 4, 2) := by decide +kernel
theorem dX12_halves_23 : decode cX12_halves 23 = .ok (.iload 4, 2) := by decide +kernel
theorem dX12_halves_25 : decode cX12_halves 25 = .ok (.bipush 16, 2) := by decide +kernel
theorem dX12_halves_27 : decode cX12_halves 27 = .ok (.if_icmp .ge 48, 3) := by decide +kernel
theorem dX12_halves_30 : decode cX12_halves 30 = .ok (.aload_n 0, 1) := by decide +kernel
theorem dX12_halves_31 : decode cX12_halves 31 = .ok (.bipush 16, 2) := by decide +kernel
theorem dX12_halves_33 : decode cX12_halves 33 = .ok (.iload_n 2, 1) := by decide +kernel
theorem dX12_halves_34 : decode cX12_halves 34 = .ok (.imul, 1) := by decide +kernel
theorem dX12_halves_35 : decode cX12_halves 35 = .ok (.iload 4, 2) := by decide +kernel
theorem dX12_halves_37 : decode cX12_halves 37 = .ok (.iadd, 1) := by decide +kernel
theorem dX12_halves_38 : decode cX12_halves 38 = .ok (.invokevirtual 129, 3) := by decide +kernel
theorem dX12_halves_41 : decode cX12_halves 41 = .ok (.ifCond .eq 28, 3) := by decide +kernel
theorem dX12_halves_44 : decode cX12_halves 44 = .ok (.aload_n 0, 1) := by decide +kernel
theorem dX12_halves_45 : decode cX12_halves 45 = .ok (.getfield 7, 3) := by decide +kernel
theorem dX12_halves_48 : decode cX12_halves 48 = .ok (.iconst 0, 1) := by decide +kernel
theorem dX12_halves_49 : decode cX12_halves 49 = .ok (.bipush 16, 2) := by decide +kernel
theorem dX12_halves_51 : decode cX12_halves 51 = .ok (.iload_n 2, 1) := by decide +kernel
theorem dX12_halves_52 : decode cX12_halves 52 = .ok (.imul, 1) := by decide +kernel
theorem dX12_halves_53 : decode cX12_halves 53 = .ok (.iadd, 1) := by decide +kernel
theorem dX12_halves_54 : decode cX12_halves 54 = .ok (.iload 4, 2) := by decide +kernel
theorem dX12_halves_56 : decode cX12_halves 56 = .ok (.iadd, 1) := by decide +kernel
theorem dX12_halves_57 : decode cX12_halves 57 = .ok (.iaload, 1) := by decide +kernel
theorem dX12_halves_58 : decode cX12_halves 58 = .ok (.iload_n 1, 1) := by decide +kernel
theorem dX12_halves_59 : decode cX12_halves 59 = .ok (.if_icmp .ne 10, 3) := by decide +kernel
theorem dX12_halves_62 : decode cX12_halves 62 = .ok (.iload_n 3, 1) := by decide +kernel
theorem dX12_halves_63 : decode cX12_halves 63 = .ok (.iconst 1, 1) := by decide +kernel
theorem dX12_halves_64 : decode cX12_halves 64 = .ok (.iload 4, 2) := by decide +kernel
theorem dX12_halves_66 : decode cX12_halves 66 = .ok (.ishl, 1) := by decide +kernel
theorem dX12_halves_67 : decode cX12_halves 67 = .ok (.ior, 1) := by decide +kernel
theorem dX12_halves_68 : decode cX12_halves 68 = .ok (.istore_n 3, 1) := by decide +kernel
theorem dX12_halves_69 : decode cX12_halves 69 = .ok (.iinc 4 1, 3) := by decide +kernel
theorem dX12_halves_72 : decode cX12_halves 72 = .ok (.goto (-49), 3) := by decide +kernel
theorem dX12_halves_75 : decode cX12_halves 75 = .ok (.iload_n 3, 1) := by decide +kernel
theorem dX12_halves_76 : decode cX12_halves 76 = .ok (.ireturn, 1) := by decide +kernel
theorem rX12_halves : (∀ (d : Nat) (a0 a2 a3 a4 : Value) (x : Int32) (st : List Value) (h : fk_H), fk_ev d qX12_halves 0 [a0, .int x, a2, a3, a4] st h = fk_ev d qX12_halves 1 [a0, .int x, a2, a3, a4] (.int x :: st) h) ∧
  (∀ (d : Nat) (L : List Value) (x0 : Int32)  (h : fk_H), fk_ev (d + 1) qX12_halves 1 L (.int x0 :: []) h = (fk_ev d qX12_isOne 0 [.int x0] [] h).bind fun o => fk_ev (d + 1) qX12_halves 4 L (o.1.toList ++ []) o.2) ∧
  (∀ (d : Nat) (L : List Value) (x : Int32) (st : List Value) (h : fk_H), fk_ev d qX12_halves 4 L (.int x :: st) h = if x = nI 0 then fk_ev d qX12_halves 16 L st h else fk_ev d qX12_halves 7 L st h) ∧
  (∀ (d : Nat) (a0 a1 a3 a4 : Value) (x : Int32) (st : List Value) (h : fk_H), fk_ev d qX12_halves 7 [a0, a1, .int x, a3, a4] st h = fk_ev d qX12_halves 8 [a0, a1, .int x, a3, a4] (.int x :: st) h) ∧
  (∀ (d : Nat) (L st : List Value) (h : fk_H), fk_ev d qX12_halves 8 L st h = fk_ev d qX12_halves 9 L (.int (nI 0) :: st) h) ∧
  (∀ (d : Nat) (L st : List Value) (h : fk_H), fk_ev d qX12_halves 9 L st h = fk_ev d qX12_halves 10 L (.int (nI 3) :: st) h) ∧
  (∀ (d : Nat) (L : List Value) (x0 : Int32) (x1 : Int32) (x2 : Int32)  (h : fk_H), fk_ev (d + 1) qX12_halves 10 L (.int x2 :: .int x1 :: .int x0 :: []) h = (fk_ev d qX12_in 0 [.int x0, .int x1, .int x2] [] h).bind fun o => fk_ev (d + 1) qX12_halves 13 L (o.1.toList ++ []) o.2) ∧
  (∀ (d : Nat) (L : List Value) (x : Int32) (st : List Value) (h : fk_H), fk_ev d qX12_halves 13 L (.int x :: st) h = if ¬ x = nI 0 then fk_ev d qX12_halves 18 L st h else fk_ev d qX12_halves 16 L st h) ∧
  (∀ (d : Nat) (L st : List Value) (h : fk_H), fk_ev d qX12_halves 16 L st h = fk_ev d qX12_halves 17 L (.int ((-1 : Int32)) :: st) h) ∧
  (∀ (d : Nat) (L : List Value) (x : Int32) (h : fk_H), fk_ev d qX12_halves 17 L [.int x] h = some (some (.int x), h)) ∧
  (∀ (d : Nat) (L st : List Value) (h : fk_H), fk_ev d qX12_halves 18 L st h = fk_ev d qX12_halves 19 L (.int (nI 0) :: st) h) ∧
  (∀ (d : Nat) (a0 a1 a2 a3 a4 : Value) (x : Int32) (st : List Value) (h : fk_H), fk_ev d qX12_halves 19 [a0, a1, a2, a3, a4] (.int x :: st) h = fk_ev d qX12_halves 20 [a0, a1, a2, .int x, a4] st h) ∧
  (∀ (d : Nat) (L st : List Value) (h : fk_H), fk_ev d qX12_halves 20 L st h = fk_ev d qX12_halves 21 L (.int (nI 0) :: st) h) ∧
  (∀ (d : Nat) (a0 a1 a2 a3 a4 : Value) (x : Int32) (st : List Value) (h : fk_H), fk_ev d qX12_halves 21 [a0, a1, a2, a3, a4] (.int x :: st) h = fk_ev d qX12_halves 23 [a0, a1, a2, a3, .int x] st h) ∧
  (∀ (d : Nat) (L st : List Value) (h : fk_H), fk_ev d qX12_halves 25 L st h = fk_ev d qX12_halves 27 L (.int (nI 16) :: st) h) ∧
  (∀ (d : Nat) (L : List Value) (x y : Int32) (st : List Value) (h : fk_H), fk_ev d qX12_halves 27 L (.int y :: .int x :: st) h = if y ≤ x then fk_ev d qX12_halves 75 L st h else fk_ev d qX12_halves 30 L st h) ∧
  (∀ (d : Nat) (a1 a2 a3 a4 : Value) (x : Nat) (st : List Value) (h : fk_H), fk_ev d qX12_halves 30 [.ref x, a1, a2, a3, a4] st h = fk_ev d qX12_halves 31 [.ref x, a1, a2, a3, a4] (.ref x :: st) h) ∧
  (∀ (d : Nat) (L st : List Value) (h : fk_H), fk_ev d qX12_halves 31 L st h = fk_ev d qX12_halves 33 L (.int (nI 16) :: st) h) ∧
  (∀ (d : Nat) (a0 a1 a3 a4 : Value) (x : Int32) (st : List Value) (h : fk_H), fk_ev d qX12_halves 33 [a0, a1, .int x, a3, a4] st h = fk_ev d qX12_halves 34 [a0, a1, .int x, a3, a4] (.int x :: st) h) ∧
  (∀ (d : Nat) (L : List Value) (x y : Int32) (st : List Value) (h : fk_H), fk_ev d qX12_halves 34 L (.int y :: .int x :: st) h = fk_ev d qX12_halves 35 L (.int (x * y) :: st) h) ∧
  (∀ (d : Nat) (a0 a1 a2 a3 : Value) (x : Int32) (st : List Value) (h : fk_H), fk_ev d qX12_halves 35 [a0, a1, a2, a3, .int x] st h = fk_ev d qX12_halves 37 [a0, a1, a2, a3, .int x] (.int x :: st) h) ∧
  (∀ (d : Nat) (L : List Value) (x y : Int32) (st : List Value) (h : fk_H), fk_ev d qX12_halves 37 L (.int y :: .int x :: st) h = fk_ev d qX12_halves 38 L (.int (x + y) :: st) h) ∧
  (∀ (d : Nat) (L : List Value) (x0 : Int32)  (N : Nat) (y : Nat → Nat → Int32) (l : Nat → Nat → Int64), fk_ev (d + 1) qX12_halves 38 L (.int x0 :: .ref 246 :: []) (fk_E N y l) = (fk_ev d qX12_isLiving 0 [.ref 246, .int x0] [] (fk_E N y l)).bind fun o => fk_ev (d + 1) qX12_halves 41 L (o.1.toList ++ []) o.2) ∧
  (∀ (d : Nat) (L : List Value) (x : Int32) (st : List Value) (h : fk_H), fk_ev d qX12_halves 41 L (.int x :: st) h = if x = nI 0 then fk_ev d qX12_halves 69 L st h else fk_ev d qX12_halves 44 L st h) ∧
  (∀ (d : Nat) (a1 a2 a3 a4 : Value) (x : Nat) (st : List Value) (h : fk_H), fk_ev d qX12_halves 44 [.ref x, a1, a2, a3, a4] st h = fk_ev d qX12_halves 45 [.ref x, a1, a2, a3, a4] (.ref x :: st) h) ∧
  (∀ (d : Nat) (L st : List Value) (N : Nat) (y : Nat → Nat → Int32) (l : Nat → Nat → Int64), fk_ev d qX12_halves 45 L (.ref 246 :: st) (fk_E N y l) = fk_ev d qX12_halves 48 L (.ref 247 :: st) (fk_E N y l)) ∧
  (∀ (d : Nat) (L st : List Value) (h : fk_H), fk_ev d qX12_halves 48 L st h = fk_ev d qX12_halves 49 L (.int (nI 0) :: st) h) ∧
  (∀ (d : Nat) (L st : List Value) (h : fk_H), fk_ev d qX12_halves 49 L st h = fk_ev d qX12_halves 51 L (.int (nI 16) :: st) h) ∧
  (∀ (d : Nat) (a0 a1 a3 a4 : Value) (x : Int32) (st : List Value) (h : fk_H), fk_ev d qX12_halves 51 [a0, a1, .int x, a3, a4] st h = fk_ev d qX12_halves 52 [a0, a1, .int x, a3, a4] (.int x :: st) h) ∧
  (∀ (d : Nat) (L : List Value) (x y : Int32) (st : List Value) (h : fk_H), fk_ev d qX12_halves 52 L (.int y :: .int x :: st) h = fk_ev d qX12_halves 53 L (.int (x * y) :: st) h) ∧
  (∀ (d : Nat) (L : List Value) (x y : Int32) (st : List Value) (h : fk_H), fk_ev d qX12_halves 53 L (.int y :: .int x :: st) h = fk_ev d qX12_halves 54 L (.int (x + y) :: st) h) ∧
  (∀ (d : Nat) (a0 a1 a2 a3 : Value) (x : Int32) (st : List Value) (h : fk_H), fk_ev d qX12_halves 54 [a0, a1, a2, a3, .int x] st h = fk_ev d qX12_halves 56 [a0, a1, a2, a3, .int x] (.int x :: st) h) ∧
  (∀ (d : Nat) (L : List Value) (x y : Int32) (st : List Value) (h : fk_H), fk_ev d qX12_halves 56 L (.int y :: .int x :: st) h = fk_ev d qX12_halves 57 L (.int (x + y) :: st) h) ∧
  (∀ (d : Nat) (L st : List Value) (N : Nat) (y : Nat → Nat → Int32) (l : Nat → Nat → Int64) (i : Nat), i < 3912 → fk_ev d qX12_halves 57 L (.int (nI i) :: .ref 247 :: st) (fk_E N y l) = fk_ev d qX12_halves 58 L (.int (y 247 i) :: st) (fk_E N y l)) ∧
  (∀ (d : Nat) (a0 a2 a3 a4 : Value) (x : Int32) (st : List Value) (h : fk_H), fk_ev d qX12_halves 58 [a0, .int x, a2, a3, a4] st h = fk_ev d qX12_halves 59 [a0, .int x, a2, a3, a4] (.int x :: st) h) ∧
  (∀ (d : Nat) (L : List Value) (x y : Int32) (st : List Value) (h : fk_H), fk_ev d qX12_halves 59 L (.int y :: .int x :: st) h = if ¬ x = y then fk_ev d qX12_halves 69 L st h else fk_ev d qX12_halves 62 L st h) ∧
  (∀ (d : Nat) (a0 a1 a2 a4 : Value) (x : Int32) (st : List Value) (h : fk_H), fk_ev d qX12_halves 62 [a0, a1, a2, .int x, a4] st h = fk_ev d qX12_halves 63 [a0, a1, a2, .int x, a4] (.int x :: st) h) ∧
  (∀ (d : Nat) (L st : List Value) (h : fk_H), fk_ev d qX12_halves 63 L st h = fk_ev d qX12_halves 64 L (.int (nI 1) :: st) h) ∧
  (∀ (d : Nat) (a0 a1 a2 a3 : Value) (x : Int32) (st : List Value) (h : fk_H), fk_ev d qX12_halves 64 [a0, a1, a2, a3, .int x] st h = fk_ev d qX12_halves 66 [a0, a1, a2, a3, .int x] (.int x :: st) h) ∧
  (∀ (d : Nat) (L : List Value) (x y : Int32) (st : List Value) (h : fk_H), fk_ev d qX12_halves 66 L (.int y :: .int x :: st) h = fk_ev d qX12_halves 67 L (.int (x <<< (y &&& 31)) :: st) h) ∧
  (∀ (d : Nat) (L : List Value) (x y : Int32) (st : List Value) (h : fk_H), fk_ev d qX12_halves 67 L (.int y :: .int x :: st) h = fk_ev d qX12_halves 68 L (.int (x ||| y) :: st) h) ∧
  (∀ (d : Nat) (a0 a1 a2 a3 a4 : Value) (x : Int32) (st : List Value) (h : fk_H), fk_ev d qX12_halves 68 [a0, a1, a2, a3, a4] (.int x :: st) h = fk_ev d qX12_halves 69 [a0, a1, a2, .int x, a4] st h) ∧
  (∀ (d : Nat) (a0 a1 a2 a3 : Value) (x : Int32) (st : List Value) (h : fk_H), fk_ev d qX12_halves 69 [a0, a1, a2, a3, .int x] st h = fk_ev d qX12_halves 72 [a0, a1, a2, a3, .int (x + nI 1)] st h) ∧
  (∀ (d : Nat) (L st : List Value) (h : fk_H), fk_ev d qX12_halves 72 L st h = fk_ev d qX12_halves 23 L st h) ∧
  (∀ (d : Nat) (a0 a1 a2 a4 : Value) (x : Int32) (st : List Value) (h : fk_H), fk_ev d qX12_halves 75 [a0, a1, a2, .int x, a4] st h = fk_ev d qX12_halves 76 [a0, a1, a2, .int x, a4] (.int x :: st) h) ∧
  (∀ (d : Nat) (L : List Value) (x : Int32) (h : fk_H), fk_ev d qX12_halves 76 L [.int x] h = some (some (.int x), h)) := ⟨fun d a0 a2 a3 a4 x st h => fk_w_iloadn 1 [a0, .int x, a2, a3, a4] dX12_halves_0 rfl,
  fun d L x0 h => fk_g_calls [.int x0] [] rfl lm_12_132 dX12_halves_1 rfl ⟨rfl, by decide⟩ (by simp),
  fun d L x st h => fk_r_if_eq dX12_halves_4 (by decide),
  fun d a0 a1 a3 a4 x st h => fk_w_iloadn 2 [a0, a1, .int x, a3, a4] dX12_halves_7 rfl,
  fun d L st h => fk_w_iconst dX12_halves_8 (by decide),
  fun d L st h => fk_w_iconst dX12_halves_9 (by decide),
  fun d L x0 x1 x2 h => fk_g_calls [.int x0, .int x1, .int x2] [] rfl lm_12_112 dX12_halves_10 rfl ⟨rfl, by decide⟩ (by simp),
  fun d L x st h => fk_r_if_ne dX12_halves_13 (by decide),
  fun d L st h => fk_w_iconst dX12_halves_16 (by decide),
  fun d L x h => fk_r_ret dX12_halves_17 (Or.inl rfl),
  fun d L st h => fk_w_iconst dX12_halves_18 (by decide),
  fun d a0 a1 a2 a3 a4 x st h => fk_w_istoren 3 5 [] [a0, a1, a2, a3, a4] [a0, a1, a2, .int x, a4] dX12_halves_19 rfl rfl (by decide) rfl,
  fun d L st h => fk_w_iconst dX12_halves_20 (by decide),
  fun d a0 a1 a2 a3 a4 x st h => fk_w_istore 4 5 [] [a0, a1, a2, a3, a4] [a0, a1, a2, a3, .int x] dX12_halves_21 rfl rfl (by decide) rfl,
  fun d L st h => fk_w_bipush dX12_halves_25 (by decide),
  fun d L x y st h => fk_r_icmp_ge dX12_halves_27 (by decide),
  fun d a1 a2 a3 a4 x st h => fk_w_aloadn 0 [.ref x, a1, a2, a3, a4] dX12_halves_30 rfl,
  fun d L st h => fk_w_bipush dX12_halves_31 (by decide),
  fun d a0 a1 a3 a4 x st h => fk_w_iloadn 2 [a0, a1, .int x, a3, a4] dX12_halves_33 rfl,
  fun d L x y st h => fk_r_imul dX12_halves_34,
  fun d a0 a1 a2 a3 x st h => fk_w_iload 4 [a0, a1, a2, a3, .int x] dX12_halves_35 rfl,
  fun d L x y st h => fk_r_iadd dX12_halves_37,
  fun d L x0 N y l  => fk_g_call [.int x0] [] rfl lm_12_129 dX12_halves_38 rfl ⟨rfl, by decide⟩ (by simp) fk_at_246,
  fun d L x st h => fk_r_if_eq dX12_halves_41 (by decide),
  fun d a1 a2 a3 a4 x st h => fk_w_aloadn 0 [.ref x, a1, a2, a3, a4] dX12_halves_44 rfl,
  fun d L st N y l => fk_g_getC rfl lf_12_7 (by decide) rfl dX12_halves_45 fk_at_246,
  fun d L st h => fk_w_iconst dX12_halves_48 (by decide),
  fun d L st h => fk_w_bipush dX12_halves_49 (by decide),
  fun d a0 a1 a3 a4 x st h => fk_w_iloadn 2 [a0, a1, .int x, a3, a4] dX12_halves_51 rfl,
  fun d L x y st h => fk_r_imul dX12_halves_52,
  fun d L x y st h => fk_r_iadd dX12_halves_53,
  fun d a0 a1 a2 a3 x st h => fk_w_iload 4 [a0, a1, a2, a3, .int x] dX12_halves_54 rfl,
  fun d L x y st h => fk_r_iadd dX12_halves_56,
  fun d L st N y l i hi => fk_g_iald fk_at_247 fk_ln_247 (by decide) dX12_halves_57 hi,
  fun d a0 a2 a3 a4 x st h => fk_w_iloadn 1 [a0, .int x, a2, a3, a4] dX12_halves_58 rfl,
  fun d L x y st h => fk_r_icmp_ne dX12_halves_59 (by decide),
  fun d a0 a1 a2 a4 x st h => fk_w_iloadn 3 [a0, a1, a2, .int x, a4] dX12_halves_62 rfl,
  fun d L st h => fk_w_iconst dX12_halves_63 (by decide),
  fun d a0 a1 a2 a3 x st h => fk_w_iload 4 [a0, a1, a2, a3, .int x] dX12_halves_64 rfl,
  fun d L x y st h => fk_r_ishl dX12_halves_66,
  fun d L x y st h => fk_r_ior dX12_halves_67,
  fun d a0 a1 a2 a3 a4 x st h => fk_w_istoren 3 5 [] [a0, a1, a2, a3, a4] [a0, a1, a2, .int x, a4] dX12_halves_68 rfl rfl (by decide) rfl,
  fun d a0 a1 a2 a3 x st h => fk_w_iinc 4 5 (1) [] [a0, a1, a2, a3, .int x] [a0, a1, a2, a3, .int (x + nI 1)] dX12_halves_69 rfl rfl rfl (by decide) rfl,
  fun d L st h => fk_r_goto dX12_halves_72 (by decide),
  fun d a0 a1 a2 a4 x st h => fk_w_iloadn 3 [a0, a1, a2, .int x, a4] dX12_halves_75 rfl,
  fun d L x h => fk_r_ret dX12_halves_76 (Or.inl rfl)⟩
theorem hX12_halves_23 : ∀ (d : Nat) (a0 a1 a2 a3 : Value) (x : Int32) (st : List Value) (h : fk_H), fk_ev d qX12_halves 23 [a0, a1, a2, a3, .int x] st h = fk_ev d qX12_halves 25 [a0, a1, a2, a3, .int x] (.int x :: st) h := fun d a0 a1 a2 a3 x st h => fk_w_iload 4 [a0, a1, a2, a3, .int x] dX12_halves_23 rfl
theorem dX12_isRemembered_0 : decode cX12_isRemembered 0 = .ok (.iload_n 1, 1) := by decide +kernel
theorem dX12_isRemembered_1 : decode cX12_isRemembered 1 = .ok (.iconst 0, 1) := by decide +kernel
theorem dX12_isRemembered_2 : decode cX12_isRemembered 2 = .ok (.aload_n 0, 1) := by decide +kernel
theorem dX12_isRemembered_3 : decode cX12_isRemembered 3 = .ok (.getfield 7, 3) := by decide +kernel
theorem dX12_isRemembered_6 : decode cX12_isRemembered 6 = .ok (.sipush 832, 3) := by decide +kernel
theorem dX12_isRemembered_9 : decode cX12_isRemembered 9 = .ok (.iaload, 1) := by decide +kernel
theorem dX12_isRemembered_10 : decode cX12_isRemembered 10 = .ok (.bipush 48, 2) := by decide +kernel
theorem dX12_isRemembered_12 : decode cX12_isRemembered 12 = .ok (.isub, 1) := by decide +kernel
theorem dX12_isRemembered_13 : decode cX12_isRemembered 13 = .ok (.iconst 1, 1) := by decide +kernel
theorem dX12_isRemembered_14 : decode cX12_isRemembered 14 = .ok (.iadd, 1) := by decide +kernel
theorem dX12_isRemembered_15 : decode cX12_isRemembered 15 = .ok (.invokestatic 257, 3) := by decide +kernel
theorem dX12_isRemembered_18 : decode cX12_isRemembered 18 = .ok (.aload_n 0, 1) := by decide +kernel
theorem dX12_isRemembered_19 : decode cX12_isRemembered 19 = .ok (.getfield 7, 3) := by decide +kernel
theorem dX12_isRemembered_22 : decode cX12_isRemembered 22 = .ok (.sipush 832, 3) := by decide +kernel
theorem dX12_isRemembered_25 : decode cX12_isRemembered 25 = .ok (.iaload, 1) := by decide +kernel
theorem dX12_isRemembered_26 : decode cX12_isRemembered 26 = .ok (.invokestatic 112, 3) := by decide +kernel
theorem dX12_isRemembered_29 : decode cX12_isRemembered 29 = .ok (.ireturn, 1) := by decide +kernel
theorem rX12_isRemembered : (∀ (d : Nat) (a0 : Value) (x : Int32) (st : List Value) (h : fk_H), fk_ev d qX12_isRemembered 0 [a0, .int x] st h = fk_ev d qX12_isRemembered 1 [a0, .int x] (.int x :: st) h) ∧
  (∀ (d : Nat) (L st : List Value) (h : fk_H), fk_ev d qX12_isRemembered 1 L st h = fk_ev d qX12_isRemembered 2 L (.int (nI 0) :: st) h) ∧
  (∀ (d : Nat) (a1 : Value) (x : Nat) (st : List Value) (h : fk_H), fk_ev d qX12_isRemembered 2 [.ref x, a1] st h = fk_ev d qX12_isRemembered 3 [.ref x, a1] (.ref x :: st) h) ∧
  (∀ (d : Nat) (L st : List Value) (N : Nat) (y : Nat → Nat → Int32) (l : Nat → Nat → Int64), fk_ev d qX12_isRemembered 3 L (.ref 246 :: st) (fk_E N y l) = fk_ev d qX12_isRemembered 6 L (.ref 247 :: st) (fk_E N y l)) ∧
  (∀ (d : Nat) (L st : List Value) (h : fk_H), fk_ev d qX12_isRemembered 6 L st h = fk_ev d qX12_isRemembered 9 L (.int (nI 832) :: st) h) ∧
  (∀ (d : Nat) (L st : List Value) (N : Nat) (y : Nat → Nat → Int32) (l : Nat → Nat → Int64) (i : Nat), i < 3912 → fk_ev d qX12_isRemembered 9 L (.int (nI i) :: .ref 247 :: st) (fk_E N y l) = fk_ev d qX12_isRemembered 10 L (.int (y 247 i) :: st) (fk_E N y l)) ∧
  (∀ (d : Nat) (L st : List Value) (h : fk_H), fk_ev d qX12_isRemembered 10 L st h = fk_ev d qX12_isRemembered 12 L (.int (nI 48) :: st) h) ∧
  (∀ (d : Nat) (L : List Value) (x y : Int32) (st : List Value) (h : fk_H), fk_ev d qX12_isRemembered 12 L (.int y :: .int x :: st) h = fk_ev d qX12_isRemembered 13 L (.int (x - y) :: st) h) ∧
  (∀ (d : Nat) (L st : List Value) (h : fk_H), fk_ev d qX12_isRemembered 13 L st h = fk_ev d qX12_isRemembered 14 L (.int (nI 1) :: st) h) ∧
  (∀ (d : Nat) (L : List Value) (x y : Int32) (st : List Value) (h : fk_H), fk_ev d qX12_isRemembered 14 L (.int y :: .int x :: st) h = fk_ev d qX12_isRemembered 15 L (.int (x + y) :: st) h) ∧
  (∀ (d : Nat) (L : List Value) (x0 : Int32) (x1 : Int32) (w0 : Value) (h : fk_H), fk_ev (d + 1) qX12_isRemembered 15 L (.int x1 :: .int x0 :: [w0]) h = (fk_ev d qX12_max 0 [.int x0, .int x1] [] h).bind fun o => fk_ev (d + 1) qX12_isRemembered 18 L (o.1.toList ++ [w0]) o.2) ∧
  (∀ (d : Nat) (a1 : Value) (x : Nat) (st : List Value) (h : fk_H), fk_ev d qX12_isRemembered 18 [.ref x, a1] st h = fk_ev d qX12_isRemembered 19 [.ref x, a1] (.ref x :: st) h) ∧
  (∀ (d : Nat) (L st : List Value) (N : Nat) (y : Nat → Nat → Int32) (l : Nat → Nat → Int64), fk_ev d qX12_isRemembered 19 L (.ref 246 :: st) (fk_E N y l) = fk_ev d qX12_isRemembered 22 L (.ref 247 :: st) (fk_E N y l)) ∧
  (∀ (d : Nat) (L st : List Value) (h : fk_H), fk_ev d qX12_isRemembered 22 L st h = fk_ev d qX12_isRemembered 25 L (.int (nI 832) :: st) h) ∧
  (∀ (d : Nat) (L st : List Value) (N : Nat) (y : Nat → Nat → Int32) (l : Nat → Nat → Int64) (i : Nat), i < 3912 → fk_ev d qX12_isRemembered 25 L (.int (nI i) :: .ref 247 :: st) (fk_E N y l) = fk_ev d qX12_isRemembered 26 L (.int (y 247 i) :: st) (fk_E N y l)) ∧
  (∀ (d : Nat) (L : List Value) (x0 : Int32) (x1 : Int32) (x2 : Int32)  (h : fk_H), fk_ev (d + 1) qX12_isRemembered 26 L (.int x2 :: .int x1 :: .int x0 :: []) h = (fk_ev d qX12_in 0 [.int x0, .int x1, .int x2] [] h).bind fun o => fk_ev (d + 1) qX12_isRemembered 29 L (o.1.toList ++ []) o.2) ∧
  (∀ (d : Nat) (L : List Value) (h : fk_H), fk_ev d qX12_isRemembered 29 L [.int (nI 0)] h = some (some (.int (nI 0)), h)) ∧
  (∀ (d : Nat) (L : List Value) (h : fk_H), fk_ev d qX12_isRemembered 29 L [.int (nI 1)] h = some (some (.int (nI 1)), h)) ∧
  (∀ (d : Nat) (L : List Value) (p : Prop) [Decidable p] (h : fk_H), fk_ev d qX12_isRemembered 29 L [.int (fk_b p)] h = some (some (.int (fk_b p)), h)) ∧
  (∀ (d : Nat) (L : List Value) (x : Int32) (h : fk_H), (x = nI 0 ∨ x = nI 1) → fk_ev d qX12_isRemembered 29 L [.int x] h = some (some (.int x), h)) := ⟨fun d a0 x st h => fk_w_iloadn 1 [a0, .int x] dX12_isRemembered_0 rfl,
  fun d L st h => fk_w_iconst dX12_isRemembered_1 (by decide),
  fun d a1 x st h => fk_w_aloadn 0 [.ref x, a1] dX12_isRemembered_2 rfl,
  fun d L st N y l => fk_g_getC rfl lf_12_7 (by decide) rfl dX12_isRemembered_3 fk_at_246,
  fun d L st h => fk_w_sipush dX12_isRemembered_6 (by decide),
  fun d L st N y l i hi => fk_g_iald fk_at_247 fk_ln_247 (by decide) dX12_isRemembered_9 hi,
  fun d L st h => fk_w_bipush dX12_isRemembered_10 (by decide),
  fun d L x y st h => fk_r_isub dX12_isRemembered_12,
  fun d L st h => fk_w_iconst dX12_isRemembered_13 (by decide),
  fun d L x y st h => fk_r_iadd dX12_isRemembered_14,
  fun d L x0 x1 w0 h => fk_g_calls [.int x0, .int x1] [w0] rfl lm_12_257 dX12_isRemembered_15 rfl ⟨rfl, by decide⟩ (by simp),
  fun d a1 x st h => fk_w_aloadn 0 [.ref x, a1] dX12_isRemembered_18 rfl,
  fun d L st N y l => fk_g_getC rfl lf_12_7 (by decide) rfl dX12_isRemembered_19 fk_at_246,
  fun d L st h => fk_w_sipush dX12_isRemembered_22 (by decide),
  fun d L st N y l i hi => fk_g_iald fk_at_247 fk_ln_247 (by decide) dX12_isRemembered_25 hi,
  fun d L x0 x1 x2 h => fk_g_calls [.int x0, .int x1, .int x2] [] rfl lm_12_112 dX12_isRemembered_26 rfl ⟨rfl, by decide⟩ (by simp),
  fun d L h => fk_r_ret dX12_isRemembered_29 (Or.inr (Or.inl ⟨rfl, by decide⟩)),
  fun d L h => fk_r_ret dX12_isRemembered_29 (Or.inr (Or.inl ⟨rfl, by decide⟩)),
  fun d L p _ h => fk_r_ret dX12_isRemembered_29 (Or.inr (Or.inl ⟨rfl, fk_b_01⟩)),
  fun d L x h hx => fk_r_ret dX12_isRemembered_29 (Or.inr (Or.inl ⟨rfl, hx⟩))⟩
theorem dX12_wasAt_0 : decode cX12_wasAt 0 = .ok (.iload_n 1, 1) := by decide +kernel
theorem dX12_wasAt_1 : decode cX12_wasAt 1 = .ok (.istore_n 3, 1) := by decide +kernel
theorem dX12_wasAt_2 : decode cX12_wasAt 2 = .ok (.aload_n 0, 1) := by decide +kernel
theorem dX12_wasAt_3 : decode cX12_wasAt 3 = .ok (.getfield 7, 3) := by decide +kernel
theorem dX12_wasAt_6 : decode cX12_wasAt 6 = .ok (.bipush 64, 2) := by decide +kernel
theorem dX12_wasAt_8 : decode cX12_wasAt 8 = .ok (.iload_n 3, 1) := by decide +kernel
theorem dX12_wasAt_9 : decode cX12_wasAt 9 = .ok (.iadd, 1) := by decide +kernel
theorem dX12_wasAt_10 : decode cX12_wasAt 10 = .ok (.iaload, 1) := by decide +kernel
theorem dX12_wasAt_11 : decode cX12_wasAt 11 = .ok (.ifCond .lt 30, 3) := by decide +kernel
theorem dX12_wasAt_14 : decode cX12_wasAt 14 = .ok (.iload_n 2, 1) := by decide +kernel
theorem dX12_wasAt_15 : decode cX12_wasAt 15 = .ok (.aload_n 0, 1) := by decide +kernel
theorem dX12_wasAt_16 : decode cX12_wasAt 16 = .ok (.getfield 7, 3) := by decide +kernel
theorem dX12_wasAt_19 : decode cX12_wasAt 19 = .ok (.sipush 128, 3) := by decide +kernel
theorem dX12_wasAt_22 : decode cX12_wasAt 22 = .ok (.iload_n 3, 1) := by decide +kernel
theorem dX12_wasAt_23 : decode cX12_wasAt 23 = .ok (.iadd, 1) := by decide +kernel
theorem dX12_wasAt_24 : decode cX12_wasAt 24 = .ok (.iaload, 1) := by decide +kernel
theorem dX12_wasAt_25 : decode cX12_wasAt 25 = .ok (.if_icmp .gt 16, 3) := by decide +kernel
theorem dX12_wasAt_28 : decode cX12_wasAt 28 = .ok (.aload_n 0, 1) := by decide +kernel
theorem dX12_wasAt_29 : decode cX12_wasAt 29 = .ok (.getfield 7, 3) := by decide +kernel
theorem dX12_wasAt_32 : decode cX12_wasAt 32 = .ok (.bipush 64, 2) := by decide +kernel
theorem dX12_wasAt_34 : decode cX12_wasAt 34 = .ok (.iload_n 3, 1) := by decide +kernel
theorem dX12_wasAt_35 : decode cX12_wasAt 35 = .ok (.iadd, 1) := by decide +kernel
theorem dX12_wasAt_36 : decode cX12_wasAt 36 = .ok (.iaload, 1) := by decide +kernel
theorem dX12_wasAt_37 : decode cX12_wasAt 37 = .ok (.istore_n 3, 1) := by decide +kernel
theorem dX12_wasAt_38 : decode cX12_wasAt 38 = .ok (.goto (-36), 3) := by decide +kernel
theorem dX12_wasAt_41 : decode cX12_wasAt 41 = .ok (.iload_n 2, 1) := by decide +kernel
theorem dX12_wasAt_42 : decode cX12_wasAt 42 = .ok (.aload_n 0, 1) := by decide +kernel
theorem dX12_wasAt_43 : decode cX12_wasAt 43 = .ok (.getfield 7, 3) := by decide +kernel
theorem dX12_wasAt_46 : decode cX12_wasAt 46 = .ok (.sipush 128, 3) := by decide +kernel
theorem dX12_wasAt_49 : decode cX12_wasAt 49 = .ok (.iload_n 3, 1) := by decide +kernel
theorem dX12_wasAt_50 : decode cX12_wasAt 50 = .ok (.iadd, 1) := by decide +kernel
theorem dX12_wasAt_51 : decode cX12_wasAt 51 = .ok (.iaload, 1) := by decide +kernel
theorem dX12_wasAt_52 : decode cX12_wasAt 52 = .ok (.if_icmp .ge 6, 3) := by decide +kernel
theorem dX12_wasAt_55 : decode cX12_wasAt 55 = .ok (.bipush (-2), 2) := by decide +kernel
theorem dX12_wasAt_57 : decode cX12_wasAt 57 = .ok (.ireturn, 1) := by decide +kernel
theorem dX12_wasAt_58 : decode cX12_wasAt 58 = .ok (.iload_n 2, 1) := by decide +kernel
theorem dX12_wasAt_59 : decode cX12_wasAt 59 = .ok (.aload_n 0, 1) := by decide +kernel
theorem dX12_wasAt_60 : decode cX12_wasAt 60 = .ok (.getfield 7, 3) := by decide +kernel
theorem dX12_wasAt_63 : decode cX12_wasAt 63 = .ok (.sipush 832, 3) := by decide +kernel
theorem dX12_wasAt_66 : decode cX12_wasAt 66 = .ok (.iaload, 1) := by decide +kernel
theorem dX12_wasAt_67 : decode cX12_wasAt 67 = .ok (.if_icmp .ne 27, 3) := by decide +kernel
theorem dX12_wasAt_70 : decode cX12_wasAt 70 = .ok (.aload_n 0, 1) := by decide +kernel
theorem dX12_wasAt_71 : decode cX12_wasAt 71 = .ok (.iload_n 3, 1) := by decide +kernel
theorem dX12_wasAt_72 : decode cX12_wasAt 72 = .ok (.invokevirtual 269, 3) := by decide +kernel
theorem dX12_wasAt_75 : decode cX12_wasAt 75 = .ok (.ifCond .eq 16, 3) := by decide +kernel
theorem dX12_wasAt_78 : decode cX12_wasAt 78 = .ok (.aload_n 0, 1) := by decide +kernel
theorem dX12_wasAt_79 : decode cX12_wasAt 79 = .ok (.getfield 7, 3) := by decide +kernel
theorem dX12_wasAt_82 : decode cX12_wasAt 82 = .ok (.sipush 320, 3) := by decide +kernel
theorem dX12_wasAt_85 : decode cX12_wasAt 85 = .ok (.iload_n 3, 1) := by decide +kernel
theorem dX12_wasAt_86 : decode cX12_wasAt 86 = .ok (.iadd, 1) := by decide +kernel
theorem dX12_wasAt_87 : decode cX12_wasAt 87 = .ok (.iaload, 1) := by decide +kernel
theorem dX12_wasAt_88 : decode cX12_wasAt 88 = .ok (.goto 5, 3) := by decide +kernel
theorem dX12_wasAt_91 : decode cX12_wasAt 91 = .ok (.bipush (-2), 2) := by decide +kernel
theorem dX12_wasAt_93 : decode cX12_wasAt 93 = .ok (.ireturn, 1) := by decide +kernel
theorem dX12_wasAt_94 : decode cX12_wasAt 94 = .ok (.aload_n 0, 1) := by decide +kernel
theorem dX12_wasAt_95 : decode cX12_wasAt 95 = .ok (.getfield 7, 3) := by decide +kernel
theorem dX12_wasAt_98 : decode cX12_wasAt 98 = .ok (.sipush 840, 3) := by decide +kernel
theorem dX12_wasAt_101 : decode cX12_wasAt 101 = .ok (.bipush 64, 2) := by decide +kernel
theorem dX12_wasAt_103 : decode cX12_wasAt 103 = .ok (.iload_n 2, 1) := by decide +kernel
theorem dX12_wasAt_104 : decode cX12_wasAt 104 = .ok (.bipush 48, 2) := by decide +kernel
theorem dX12_wasAt_106 : decode cX12_wasAt 106 = .ok (.irem, 1) := by decide +kernel
theorem dX12_wasAt_107 : decode cX12_wasAt 107 = .ok (.imul, 1) := by decide +kernel
theorem dX12_wasAt_108 : decode cX12_wasAt 108 = .ok (.iadd, 1) := by decide +kernel
theorem dX12_wasAt_109 : decode cX12_wasAt 109 = .ok (.iload_n 3, 1) := by decide +kernel
theorem dX12_wasAt_110 : decode cX12_wasAt 110 = .ok (.iadd, 1) := by decide +kernel
theorem dX12_wasAt_111 : decode cX12_wasAt 111 = .ok (.iaload, 1) := by decide +kernel
theorem dX12_wasAt_112 : decode cX12_wasAt 112 = .ok (.ireturn, 1) := by decide +kernel
theorem rX12_wasAt : (∀ (d : Nat) (a0 a2 a3 : Value) (x : Int32) (st : List Value) (h : fk_H), fk_ev d qX12_wasAt 0 [a0, .int x, a2, a3] st h = fk_ev d qX12_wasAt 1 [a0, .int x, a2, a3] (.int x :: st) h) ∧
  (∀ (d : Nat) (a0 a1 a2 a3 : Value) (x : Int32) (st : List Value) (h : fk_H), fk_ev d qX12_wasAt 1 [a0, a1, a2, a3] (.int x :: st) h = fk_ev d qX12_wasAt 2 [a0, a1, a2, .int x] st h) ∧
  (∀ (d : Nat) (L st : List Value) (N : Nat) (y : Nat → Nat → Int32) (l : Nat → Nat → Int64), fk_ev d qX12_wasAt 3 L (.ref 246 :: st) (fk_E N y l) = fk_ev d qX12_wasAt 6 L (.ref 247 :: st) (fk_E N y l)) ∧
  (∀ (d : Nat) (L st : List Value) (h : fk_H), fk_ev d qX12_wasAt 6 L st h = fk_ev d qX12_wasAt 8 L (.int (nI 64) :: st) h) ∧
  (∀ (d : Nat) (a0 a1 a2 : Value) (x : Int32) (st : List Value) (h : fk_H), fk_ev d qX12_wasAt 8 [a0, a1, a2, .int x] st h = fk_ev d qX12_wasAt 9 [a0, a1, a2, .int x] (.int x :: st) h) ∧
  (∀ (d : Nat) (L : List Value) (x y : Int32) (st : List Value) (h : fk_H), fk_ev d qX12_wasAt 9 L (.int y :: .int x :: st) h = fk_ev d qX12_wasAt 10 L (.int (x + y) :: st) h) ∧
  (∀ (d : Nat) (L st : List Value) (N : Nat) (y : Nat → Nat → Int32) (l : Nat → Nat → Int64) (i : Nat), i < 3912 → fk_ev d qX12_wasAt 10 L (.int (nI i) :: .ref 247 :: st) (fk_E N y l) = fk_ev d qX12_wasAt 11 L (.int (y 247 i) :: st) (fk_E N y l)) ∧
  (∀ (d : Nat) (L : List Value) (x : Int32) (st : List Value) (h : fk_H), fk_ev d qX12_wasAt 11 L (.int x :: st) h = if x < nI 0 then fk_ev d qX12_wasAt 41 L st h else fk_ev d qX12_wasAt 14 L st h) ∧
  (∀ (d : Nat) (a0 a1 a3 : Value) (x : Int32) (st : List Value) (h : fk_H), fk_ev d qX12_wasAt 14 [a0, a1, .int x, a3] st h = fk_ev d qX12_wasAt 15 [a0, a1, .int x, a3] (.int x :: st) h) ∧
  (∀ (d : Nat) (a1 a2 a3 : Value) (x : Nat) (st : List Value) (h : fk_H), fk_ev d qX12_wasAt 15 [.ref x, a1, a2, a3] st h = fk_ev d qX12_wasAt 16 [.ref x, a1, a2, a3] (.ref x :: st) h) ∧
  (∀ (d : Nat) (L st : List Value) (N : Nat) (y : Nat → Nat → Int32) (l : Nat → Nat → Int64), fk_ev d qX12_wasAt 16 L (.ref 246 :: st) (fk_E N y l) = fk_ev d qX12_wasAt 19 L (.ref 247 :: st) (fk_E N y l)) ∧
  (∀ (d : Nat) (L st : List Value) (h : fk_H), fk_ev d qX12_wasAt 19 L st h = fk_ev d qX12_wasAt 22 L (.int (nI 128) :: st) h) ∧
  (∀ (d : Nat) (a0 a1 a2 : Value) (x : Int32) (st : List Value) (h : fk_H), fk_ev d qX12_wasAt 22 [a0, a1, a2, .int x] st h = fk_ev d qX12_wasAt 23 [a0, a1, a2, .int x] (.int x :: st) h) ∧
  (∀ (d : Nat) (L : List Value) (x y : Int32) (st : List Value) (h : fk_H), fk_ev d qX12_wasAt 23 L (.int y :: .int x :: st) h = fk_ev d qX12_wasAt 24 L (.int (x + y) :: st) h) ∧
  (∀ (d : Nat) (L st : List Value) (N : Nat) (y : Nat → Nat → Int32) (l : Nat → Nat → Int64) (i : Nat), i < 3912 → fk_ev d qX12_wasAt 24 L (.int (nI i) :: .ref 247 :: st) (fk_E N y l) = fk_ev d qX12_wasAt 25 L (.int (y 247 i) :: st) (fk_E N y l)) ∧
  (∀ (d : Nat) (L : List Value) (x y : Int32) (st : List Value) (h : fk_H), fk_ev d qX12_wasAt 25 L (.int y :: .int x :: st) h = if y < x then fk_ev d qX12_wasAt 41 L st h else fk_ev d qX12_wasAt 28 L st h) ∧
  (∀ (d : Nat) (a1 a2 a3 : Value) (x : Nat) (st : List Value) (h : fk_H), fk_ev d qX12_wasAt 28 [.ref x, a1, a2, a3] st h = fk_ev d qX12_wasAt 29 [.ref x, a1, a2, a3] (.ref x :: st) h) ∧
  (∀ (d : Nat) (L st : List Value) (N : Nat) (y : Nat → Nat → Int32) (l : Nat → Nat → Int64), fk_ev d qX12_wasAt 29 L (.ref 246 :: st) (fk_E N y l) = fk_ev d qX12_wasAt 32 L (.ref 247 :: st) (fk_E N y l)) ∧
  (∀ (d : Nat) (L st : List Value) (h : fk_H), fk_ev d qX12_wasAt 32 L st h = fk_ev d qX12_wasAt 34 L (.int (nI 64) :: st) h) ∧
  (∀ (d : Nat) (a0 a1 a2 : Value) (x : Int32) (st : List Value) (h : fk_H), fk_ev d qX12_wasAt 34 [a0, a1, a2, .int x] st h = fk_ev d qX12_wasAt 35 [a0, a1, a2, .int x] (.int x :: st) h) ∧
  (∀ (d : Nat) (L : List Value) (x y : Int32) (st : List Value) (h : fk_H), fk_ev d qX12_wasAt 35 L (.int y :: .int x :: st) h = fk_ev d qX12_wasAt 36 L (.int (x + y) :: st) h) ∧
  (∀ (d : Nat) (L st : List Value) (N : Nat) (y : Nat → Nat → Int32) (l : Nat → Nat → Int64) (i : Nat), i < 3912 → fk_ev d qX12_wasAt 36 L (.int (nI i) :: .ref 247 :: st) (fk_E N y l) = fk_ev d qX12_wasAt 37 L (.int (y 247 i) :: st) (fk_E N y l)) ∧
  (∀ (d : Nat) (a0 a1 a2 a3 : Value) (x : Int32) (st : List Value) (h : fk_H), fk_ev d qX12_wasAt 37 [a0, a1, a2, a3] (.int x :: st) h = fk_ev d qX12_wasAt 38 [a0, a1, a2, .int x] st h) ∧
  (∀ (d : Nat) (L st : List Value) (h : fk_H), fk_ev d qX12_wasAt 38 L st h = fk_ev d qX12_wasAt 2 L st h) ∧
  (∀ (d : Nat) (a0 a1 a3 : Value) (x : Int32) (st : List Value) (h : fk_H), fk_ev d qX12_wasAt 41 [a0, a1, .int x, a3] st h = fk_ev d qX12_wasAt 42 [a0, a1, .int x, a3] (.int x :: st) h) ∧
  (∀ (d : Nat) (a1 a2 a3 : Value) (x : Nat) (st : List Value) (h : fk_H), fk_ev d qX12_wasAt 42 [.ref x, a1, a2, a3] st h = fk_ev d qX12_wasAt 43 [.ref x, a1, a2, a3] (.ref x :: st) h) ∧
  (∀ (d : Nat) (L st : List Value) (N : Nat) (y : Nat → Nat → Int32) (l : Nat → Nat → Int64), fk_ev d qX12_wasAt 43 L (.ref 246 :: st) (fk_E N y l) = fk_ev d qX12_wasAt 46 L (.ref 247 :: st) (fk_E N y l)) ∧
  (∀ (d : Nat) (L st : List Value) (h : fk_H), fk_ev d qX12_wasAt 46 L st h = fk_ev d qX12_wasAt 49 L (.int (nI 128) :: st) h) ∧
  (∀ (d : Nat) (a0 a1 a2 : Value) (x : Int32) (st : List Value) (h : fk_H), fk_ev d qX12_wasAt 49 [a0, a1, a2, .int x] st h = fk_ev d qX12_wasAt 50 [a0, a1, a2, .int x] (.int x :: st) h) ∧
  (∀ (d : Nat) (L : List Value) (x y : Int32) (st : List Value) (h : fk_H), fk_ev d qX12_wasAt 50 L (.int y :: .int x :: st) h = fk_ev d qX12_wasAt 51 L (.int (x + y) :: st) h) ∧
  (∀ (d : Nat) (L st : List Value) (N : Nat) (y : Nat → Nat → Int32) (l : Nat → Nat → Int64) (i : Nat), i < 3912 → fk_ev d qX12_wasAt 51 L (.int (nI i) :: .ref 247 :: st) (fk_E N y l) = fk_ev d qX12_wasAt 52 L (.int (y 247 i) :: st) (fk_E N y l)) ∧
  (∀ (d : Nat) (L : List Value) (x y : Int32) (st : List Value) (h : fk_H), fk_ev d qX12_wasAt 52 L (.int y :: .int x :: st) h = if y ≤ x then fk_ev d qX12_wasAt 58 L st h else fk_ev d qX12_wasAt 55 L st h) ∧
  (∀ (d : Nat) (L st : List Value) (h : fk_H), fk_ev d qX12_wasAt 55 L st h = fk_ev d qX12_wasAt 57 L (.int ((-2 : Int32)) :: st) h) ∧
  (∀ (d : Nat) (L : List Value) (x : Int32) (h : fk_H), fk_ev d qX12_wasAt 57 L [.int x] h = some (some (.int x), h)) ∧
  (∀ (d : Nat) (a0 a1 a3 : Value) (x : Int32) (st : List Value) (h : fk_H), fk_ev d qX12_wasAt 58 [a0, a1, .int x, a3] st h = fk_ev d qX12_wasAt 59 [a0, a1, .int x, a3] (.int x :: st) h) ∧
  (∀ (d : Nat) (a1 a2 a3 : Value) (x : Nat) (st : List Value) (h : fk_H), fk_ev d qX12_wasAt 59 [.ref x, a1, a2, a3] st h = fk_ev d qX12_wasAt 60 [.ref x, a1, a2, a3] (.ref x :: st) h) ∧
  (∀ (d : Nat) (L st : List Value) (N : Nat) (y : Nat → Nat → Int32) (l : Nat → Nat → Int64), fk_ev d qX12_wasAt 60 L (.ref 246 :: st) (fk_E N y l) = fk_ev d qX12_wasAt 63 L (.ref 247 :: st) (fk_E N y l)) ∧
  (∀ (d : Nat) (L st : List Value) (h : fk_H), fk_ev d qX12_wasAt 63 L st h = fk_ev d qX12_wasAt 66 L (.int (nI 832) :: st) h) ∧
  (∀ (d : Nat) (L st : List Value) (N : Nat) (y : Nat → Nat → Int32) (l : Nat → Nat → Int64) (i : Nat), i < 3912 → fk_ev d qX12_wasAt 66 L (.int (nI i) :: .ref 247 :: st) (fk_E N y l) = fk_ev d qX12_wasAt 67 L (.int (y 247 i) :: st) (fk_E N y l)) ∧
  (∀ (d : Nat) (L : List Value) (x y : Int32) (st : List Value) (h : fk_H), fk_ev d qX12_wasAt 67 L (.int y :: .int x :: st) h = if ¬ x = y then fk_ev d qX12_wasAt 94 L st h else fk_ev d qX12_wasAt 70 L st h) ∧
  (∀ (d : Nat) (a1 a2 a3 : Value) (x : Nat) (st : List Value) (h : fk_H), fk_ev d qX12_wasAt 70 [.ref x, a1, a2, a3] st h = fk_ev d qX12_wasAt 71 [.ref x, a1, a2, a3] (.ref x :: st) h) ∧
  (∀ (d : Nat) (a0 a1 a2 : Value) (x : Int32) (st : List Value) (h : fk_H), fk_ev d qX12_wasAt 71 [a0, a1, a2, .int x] st h = fk_ev d qX12_wasAt 72 [a0, a1, a2, .int x] (.int x :: st) h) ∧
  (∀ (d : Nat) (L : List Value) (x0 : Int32)  (N : Nat) (y : Nat → Nat → Int32) (l : Nat → Nat → Int64), fk_ev (d + 1) qX12_wasAt 72 L (.int x0 :: .ref 246 :: []) (fk_E N y l) = (fk_ev d qX12_isAt 0 [.ref 246, .int x0] [] (fk_E N y l)).bind fun o => fk_ev (d + 1) qX12_wasAt 75 L (o.1.toList ++ []) o.2) ∧
  (∀ (d : Nat) (L : List Value) (x : Int32) (st : List Value) (h : fk_H), fk_ev d qX12_wasAt 75 L (.int x :: st) h = if x = nI 0 then fk_ev d qX12_wasAt 91 L st h else fk_ev d qX12_wasAt 78 L st h) ∧
  (∀ (d : Nat) (a1 a2 a3 : Value) (x : Nat) (st : List Value) (h : fk_H), fk_ev d qX12_wasAt 78 [.ref x, a1, a2, a3] st h = fk_ev d qX12_wasAt 79 [.ref x, a1, a2, a3] (.ref x :: st) h) ∧
  (∀ (d : Nat) (L st : List Value) (N : Nat) (y : Nat → Nat → Int32) (l : Nat → Nat → Int64), fk_ev d qX12_wasAt 79 L (.ref 246 :: st) (fk_E N y l) = fk_ev d qX12_wasAt 82 L (.ref 247 :: st) (fk_E N y l)) ∧
  (∀ (d : Nat) (L st : List Value) (h : fk_H), fk_ev d qX12_wasAt 82 L st h = fk_ev d qX12_wasAt 85 L (.int (nI 320) :: st) h) ∧
  (∀ (d : Nat) (a0 a1 a2 : Value) (x : Int32) (st : List Value) (h : fk_H), fk_ev d qX12_wasAt 85 [a0, a1, a2, .int x] st h = fk_ev d qX12_wasAt 86 [a0, a1, a2, .int x] (.int x :: st) h) ∧
  (∀ (d : Nat) (L : List Value) (x y : Int32) (st : List Value) (h : fk_H), fk_ev d qX12_wasAt 86 L (.int y :: .int x :: st) h = fk_ev d qX12_wasAt 87 L (.int (x + y) :: st) h) ∧
  (∀ (d : Nat) (L st : List Value) (N : Nat) (y : Nat → Nat → Int32) (l : Nat → Nat → Int64) (i : Nat), i < 3912 → fk_ev d qX12_wasAt 87 L (.int (nI i) :: .ref 247 :: st) (fk_E N y l) = fk_ev d qX12_wasAt 88 L (.int (y 247 i) :: st) (fk_E N y l)) ∧
  (∀ (d : Nat) (L st : List Value) (h : fk_H), fk_ev d qX12_wasAt 88 L st h = fk_ev d qX12_wasAt 93 L st h) ∧
  (∀ (d : Nat) (L st : List Value) (h : fk_H), fk_ev d qX12_wasAt 91 L st h = fk_ev d qX12_wasAt 93 L (.int ((-2 : Int32)) :: st) h) ∧
  (∀ (d : Nat) (L : List Value) (x : Int32) (h : fk_H), fk_ev d qX12_wasAt 93 L [.int x] h = some (some (.int x), h)) ∧
  (∀ (d : Nat) (a1 a2 a3 : Value) (x : Nat) (st : List Value) (h : fk_H), fk_ev d qX12_wasAt 94 [.ref x, a1, a2, a3] st h = fk_ev d qX12_wasAt 95 [.ref x, a1, a2, a3] (.ref x :: st) h) ∧
  (∀ (d : Nat) (L st : List Value) (N : Nat) (y : Nat → Nat → Int32) (l : Nat → Nat → Int64), fk_ev d qX12_wasAt 95 L (.ref 246 :: st) (fk_E N y l) = fk_ev d qX12_wasAt 98 L (.ref 247 :: st) (fk_E N y l)) ∧
  (∀ (d : Nat) (L st : List Value) (h : fk_H), fk_ev d qX12_wasAt 98 L st h = fk_ev d qX12_wasAt 101 L (.int (nI 840) :: st) h) ∧
  (∀ (d : Nat) (L st : List Value) (h : fk_H), fk_ev d qX12_wasAt 101 L st h = fk_ev d qX12_wasAt 103 L (.int (nI 64) :: st) h) ∧
  (∀ (d : Nat) (a0 a1 a3 : Value) (x : Int32) (st : List Value) (h : fk_H), fk_ev d qX12_wasAt 103 [a0, a1, .int x, a3] st h = fk_ev d qX12_wasAt 104 [a0, a1, .int x, a3] (.int x :: st) h) ∧
  (∀ (d : Nat) (L st : List Value) (h : fk_H), fk_ev d qX12_wasAt 104 L st h = fk_ev d qX12_wasAt 106 L (.int (nI 48) :: st) h) ∧
  (∀ (d : Nat) (L : List Value) (x y : Int32) (st : List Value) (h : fk_H), fk_ev d qX12_wasAt 106 L (.int y :: .int x :: st) h = if y = 0 then none else fk_ev d qX12_wasAt 107 L (.int (x - x / y * y) :: st) h) ∧
  (∀ (d : Nat) (L : List Value) (x y : Int32) (st : List Value) (h : fk_H), fk_ev d qX12_wasAt 107 L (.int y :: .int x :: st) h = fk_ev d qX12_wasAt 108 L (.int (x * y) :: st) h) ∧
  (∀ (d : Nat) (L : List Value) (x y : Int32) (st : List Value) (h : fk_H), fk_ev d qX12_wasAt 108 L (.int y :: .int x :: st) h = fk_ev d qX12_wasAt 109 L (.int (x + y) :: st) h) ∧
  (∀ (d : Nat) (a0 a1 a2 : Value) (x : Int32) (st : List Value) (h : fk_H), fk_ev d qX12_wasAt 109 [a0, a1, a2, .int x] st h = fk_ev d qX12_wasAt 110 [a0, a1, a2, .int x] (.int x :: st) h) ∧
  (∀ (d : Nat) (L : List Value) (x y : Int32) (st : List Value) (h : fk_H), fk_ev d qX12_wasAt 110 L (.int y :: .int x :: st) h = fk_ev d qX12_wasAt 111 L (.int (x + y) :: st) h) ∧
  (∀ (d : Nat) (L st : List Value) (N : Nat) (y : Nat → Nat → Int32) (l : Nat → Nat → Int64) (i : Nat), i < 3912 → fk_ev d qX12_wasAt 111 L (.int (nI i) :: .ref 247 :: st) (fk_E N y l) = fk_ev d qX12_wasAt 112 L (.int (y 247 i) :: st) (fk_E N y l)) ∧
  (∀ (d : Nat) (L : List Value) (x : Int32) (h : fk_H), fk_ev d qX12_wasAt 112 L [.int x] h = some (some (.int x), h)) := ⟨fun d a0 a2 a3 x st h => fk_w_iloadn 1 [a0, .int x, a2, a3] dX12_wasAt_0 rfl,
  fun d a0 a1 a2 a3 x st h => fk_w_istoren 3 4 [] [a0, a1, a2, a3] [a0, a1, a2, .int x] dX12_wasAt_1 rfl rfl (by decide) rfl,
  fun d L st N y l => fk_g_getC rfl lf_12_7 (by decide) rfl dX12_wasAt_3 fk_at_246,
  fun d L st h => fk_w_bipush dX12_wasAt_6 (by decide),
  fun d a0 a1 a2 x st h => fk_w_iloadn 3 [a0, a1, a2, .int x] dX12_wasAt_8 rfl,
  fun d L x y st h => fk_r_iadd dX12_wasAt_9,
  fun d L st N y l i hi => fk_g_iald fk_at_247 fk_ln_247 (by decide) dX12_wasAt_10 hi,
  fun d L x st h => fk_r_if_lt dX12_wasAt_11 (by decide),
  fun d a0 a1 a3 x st h => fk_w_iloadn 2 [a0, a1, .int x, a3] dX12_wasAt_14 rfl,
  fun d a1 a2 a3 x st h => fk_w_aloadn 0 [.ref x, a1, a2, a3] dX12_wasAt_15 rfl,
  fun d L st N y l => fk_g_getC rfl lf_12_7 (by decide) rfl dX12_wasAt_16 fk_at_246,
  fun d L st h => fk_w_sipush dX12_wasAt_19 (by decide),
  fun d a0 a1 a2 x st h => fk_w_iloadn 3 [a0, a1, a2, .int x] dX12_wasAt_22 rfl,
  fun d L x y st h => fk_r_iadd dX12_wasAt_23,
  fun d L st N y l i hi => fk_g_iald fk_at_247 fk_ln_247 (by decide) dX12_wasAt_24 hi,
  fun d L x y st h => fk_r_icmp_gt dX12_wasAt_25 (by decide),
  fun d a1 a2 a3 x st h => fk_w_aloadn 0 [.ref x, a1, a2, a3] dX12_wasAt_28 rfl,
  fun d L st N y l => fk_g_getC rfl lf_12_7 (by decide) rfl dX12_wasAt_29 fk_at_246,
  fun d L st h => fk_w_bipush dX12_wasAt_32 (by decide),
  fun d a0 a1 a2 x st h => fk_w_iloadn 3 [a0, a1, a2, .int x] dX12_wasAt_34 rfl,
  fun d L x y st h => fk_r_iadd dX12_wasAt_35,
  fun d L st N y l i hi => fk_g_iald fk_at_247 fk_ln_247 (by decide) dX12_wasAt_36 hi,
  fun d a0 a1 a2 a3 x st h => fk_w_istoren 3 4 [] [a0, a1, a2, a3] [a0, a1, a2, .int x] dX12_wasAt_37 rfl rfl (by decide) rfl,
  fun d L st h => fk_r_goto dX12_wasAt_38 (by decide),
  fun d a0 a1 a3 x st h => fk_w_iloadn 2 [a0, a1, .int x, a3] dX12_wasAt_41 rfl,
  fun d a1 a2 a3 x st h => fk_w_aloadn 0 [.ref x, a1, a2, a3] dX12_wasAt_42 rfl,
  fun d L st N y l => fk_g_getC rfl lf_12_7 (by decide) rfl dX12_wasAt_43 fk_at_246,
  fun d L st h => fk_w_sipush dX12_wasAt_46 (by decide),
  fun d a0 a1 a2 x st h => fk_w_iloadn 3 [a0, a1, a2, .int x] dX12_wasAt_49 rfl,
  fun d L x y st h => fk_r_iadd dX12_wasAt_50,
  fun d L st N y l i hi => fk_g_iald fk_at_247 fk_ln_247 (by decide) dX12_wasAt_51 hi,
  fun d L x y st h => fk_r_icmp_ge dX12_wasAt_52 (by decide),
  fun d L st h => fk_w_bipush dX12_wasAt_55 (by decide),
  fun d L x h => fk_r_ret dX12_wasAt_57 (Or.inl rfl),
  fun d a0 a1 a3 x st h => fk_w_iloadn 2 [a0, a1, .int x, a3] dX12_wasAt_58 rfl,
  fun d a1 a2 a3 x st h => fk_w_aloadn 0 [.ref x, a1, a2, a3] dX12_wasAt_59 rfl,
  fun d L st N y l => fk_g_getC rfl lf_12_7 (by decide) rfl dX12_wasAt_60 fk_at_246,
  fun d L st h => fk_w_sipush dX12_wasAt_63 (by decide),
  fun d L st N y l i hi => fk_g_iald fk_at_247 fk_ln_247 (by decide) dX12_wasAt_66 hi,
  fun d L x y st h => fk_r_icmp_ne dX12_wasAt_67 (by decide),
  fun d a1 a2 a3 x st h => fk_w_aloadn 0 [.ref x, a1, a2, a3] dX12_wasAt_70 rfl,
  fun d a0 a1 a2 x st h => fk_w_iloadn 3 [a0, a1, a2, .int x] dX12_wasAt_71 rfl,
  fun d L x0 N y l  => fk_g_call [.int x0] [] rfl lm_12_269 dX12_wasAt_72 rfl ⟨rfl, by decide⟩ (by simp) fk_at_246,
  fun d L x st h => fk_r_if_eq dX12_wasAt_75 (by decide),
  fun d a1 a2 a3 x st h => fk_w_aloadn 0 [.ref x, a1, a2, a3] dX12_wasAt_78 rfl,
  fun d L st N y l => fk_g_getC rfl lf_12_7 (by decide) rfl dX12_wasAt_79 fk_at_246,
  fun d L st h => fk_w_sipush dX12_wasAt_82 (by decide),
  fun d a0 a1 a2 x st h => fk_w_iloadn 3 [a0, a1, a2, .int x] dX12_wasAt_85 rfl,
  fun d L x y st h => fk_r_iadd dX12_wasAt_86,
  fun d L st N y l i hi => fk_g_iald fk_at_247 fk_ln_247 (by decide) dX12_wasAt_87 hi,
  fun d L st h => fk_r_goto dX12_wasAt_88 (by decide),
  fun d L st h => fk_w_bipush dX12_wasAt_91 (by decide),
  fun d L x h => fk_r_ret dX12_wasAt_93 (Or.inl rfl),
  fun d a1 a2 a3 x st h => fk_w_aloadn 0 [.ref x, a1, a2, a3] dX12_wasAt_94 rfl,
  fun d L st N y l => fk_g_getC rfl lf_12_7 (by decide) rfl dX12_wasAt_95 fk_at_246,
  fun d L st h => fk_w_sipush dX12_wasAt_98 (by decide),
  fun d L st h => fk_w_bipush dX12_wasAt_101 (by decide),
  fun d a0 a1 a3 x st h => fk_w_iloadn 2 [a0, a1, .int x, a3] dX12_wasAt_103 rfl,
  fun d L st h => fk_w_bipush dX12_wasAt_104 (by decide),
  fun d L x y st h => fk_r_irem dX12_wasAt_106,
  fun d L x y st h => fk_r_imul dX12_wasAt_107,
  fun d L x y st h => fk_r_iadd dX12_wasAt_108,
  fun d a0 a1 a2 x st h => fk_w_iloadn 3 [a0, a1, a2, .int x] dX12_wasAt_109 rfl,
  fun d L x y st h => fk_r_iadd dX12_wasAt_110,
  fun d L st N y l i hi => fk_g_iald fk_at_247 fk_ln_247 (by decide) dX12_wasAt_111 hi,
  fun d L x h => fk_r_ret dX12_wasAt_112 (Or.inl rfl)⟩
theorem hX12_wasAt_2 : ∀ (d : Nat) (a1 a2 a3 : Value) (x : Nat) (st : List Value) (h : fk_H), fk_ev d qX12_wasAt 2 [.ref x, a1, a2, a3] st h = fk_ev d qX12_wasAt 3 [.ref x, a1, a2, a3] (.ref x :: st) h := fun d a1 a2 a3 x st h => fk_w_aloadn 0 [.ref x, a1, a2, a3] dX12_wasAt_2 rfl
theorem dX12_was_0 : decode cX12_was 0 = .ok (.aload_n 0, 1) := by decide +kernel
theorem dX12_was_1 : decode cX12_was 1 = .ok (.iload_n 1, 1) := by decide +kernel
theorem dX12_was_2 : decode cX12_was 2 = .ok (.invokevirtual 123, 3) := by decide +kernel
theorem dX12_was_5 : decode cX12_was 5 = .ok (.ifCond .ne 5, 3) := by decide +kernel
theorem dX12_was_8 : decode cX12_was 8 = .ok (.iconst (-1), 1) := by decide +kernel
theorem dX12_was_9 : decode cX12_was 9 = .ok (.ireturn, 1) := by decide +kernel
theorem dX12_was_10 : decode cX12_was 10 = .ok (.aload_n 0, 1) := by decide +kernel
theorem dX12_was_11 : decode cX12_was 11 = .ok (.iload_n 2, 1) := by decide +kernel
theorem dX12_was_12 : decode cX12_was 12 = .ok (.invokevirtual 340, 3) := by decide +kernel
theorem dX12_was_15 : decode cX12_was 15 = .ok (.ifCond .eq 12, 3) := by decide +kernel
theorem dX12_was_18 : decode cX12_was 18 = .ok (.aload_n 0, 1) := by decide +kernel
theorem dX12_was_19 : decode cX12_was 19 = .ok (.iload_n 1, 1) := by decide +kernel
theorem dX12_was_20 : decode cX12_was 20 = .ok (.iload_n 2, 1) := by decide +kernel
theorem dX12_was_21 : decode cX12_was 21 = .ok (.invokevirtual 343, 3) := by decide +kernel
theorem dX12_was_24 : decode cX12_was 24 = .ok (.goto 5, 3) := by decide +kernel
theorem dX12_was_27 : decode cX12_was 27 = .ok (.bipush (-3), 2) := by decide +kernel
theorem dX12_was_29 : decode cX12_was 29 = .ok (.ireturn, 1) := by decide +kernel
theorem rX12_was : (∀ (d : Nat) (a1 a2 : Value) (x : Nat) (st : List Value) (h : fk_H), fk_ev d qX12_was 0 [.ref x, a1, a2] st h = fk_ev d qX12_was 1 [.ref x, a1, a2] (.ref x :: st) h) ∧
  (∀ (d : Nat) (a0 a2 : Value) (x : Int32) (st : List Value) (h : fk_H), fk_ev d qX12_was 1 [a0, .int x, a2] st h = fk_ev d qX12_was 2 [a0, .int x, a2] (.int x :: st) h) ∧
  (∀ (d : Nat) (L : List Value) (x0 : Int32)  (N : Nat) (y : Nat → Nat → Int32) (l : Nat → Nat → Int64), fk_ev (d + 1) qX12_was 2 L (.int x0 :: .ref 246 :: []) (fk_E N y l) = (fk_ev d qX12_isHalf 0 [.ref 246, .int x0] [] (fk_E N y l)).bind fun o => fk_ev (d + 1) qX12_was 5 L (o.1.toList ++ []) o.2) ∧
  (∀ (d : Nat) (L : List Value) (x : Int32) (st : List Value) (h : fk_H), fk_ev d qX12_was 5 L (.int x :: st) h = if ¬ x = nI 0 then fk_ev d qX12_was 10 L st h else fk_ev d qX12_was 8 L st h) ∧
  (∀ (d : Nat) (L st : List Value) (h : fk_H), fk_ev d qX12_was 8 L st h = fk_ev d qX12_was 9 L (.int ((-1 : Int32)) :: st) h) ∧
  (∀ (d : Nat) (L : List Value) (x : Int32) (h : fk_H), fk_ev d qX12_was 9 L [.int x] h = some (some (.int x), h)) ∧
  (∀ (d : Nat) (a1 a2 : Value) (x : Nat) (st : List Value) (h : fk_H), fk_ev d qX12_was 10 [.ref x, a1, a2] st h = fk_ev d qX12_was 11 [.ref x, a1, a2] (.ref x :: st) h) ∧
  (∀ (d : Nat) (a0 a1 : Value) (x : Int32) (st : List Value) (h : fk_H), fk_ev d qX12_was 11 [a0, a1, .int x] st h = fk_ev d qX12_was 12 [a0, a1, .int x] (.int x :: st) h) ∧
  (∀ (d : Nat) (L : List Value) (x0 : Int32)  (N : Nat) (y : Nat → Nat → Int32) (l : Nat → Nat → Int64), fk_ev (d + 1) qX12_was 12 L (.int x0 :: .ref 246 :: []) (fk_E N y l) = (fk_ev d qX12_isRemembered 0 [.ref 246, .int x0] [] (fk_E N y l)).bind fun o => fk_ev (d + 1) qX12_was 15 L (o.1.toList ++ []) o.2) ∧
  (∀ (d : Nat) (L : List Value) (x : Int32) (st : List Value) (h : fk_H), fk_ev d qX12_was 15 L (.int x :: st) h = if x = nI 0 then fk_ev d qX12_was 27 L st h else fk_ev d qX12_was 18 L st h) ∧
  (∀ (d : Nat) (a1 a2 : Value) (x : Nat) (st : List Value) (h : fk_H), fk_ev d qX12_was 18 [.ref x, a1, a2] st h = fk_ev d qX12_was 19 [.ref x, a1, a2] (.ref x :: st) h) ∧
  (∀ (d : Nat) (a0 a2 : Value) (x : Int32) (st : List Value) (h : fk_H), fk_ev d qX12_was 19 [a0, .int x, a2] st h = fk_ev d qX12_was 20 [a0, .int x, a2] (.int x :: st) h) ∧
  (∀ (d : Nat) (a0 a1 : Value) (x : Int32) (st : List Value) (h : fk_H), fk_ev d qX12_was 20 [a0, a1, .int x] st h = fk_ev d qX12_was 21 [a0, a1, .int x] (.int x :: st) h) ∧
  (∀ (d : Nat) (L : List Value) (x0 : Int32) (x1 : Int32)  (N : Nat) (y : Nat → Nat → Int32) (l : Nat → Nat → Int64), fk_ev (d + 1) qX12_was 21 L (.int x1 :: .int x0 :: .ref 246 :: []) (fk_E N y l) = (fk_ev d qX12_wasAt 0 [.ref 246, .int x0, .int x1, .null] [] (fk_E N y l)).bind fun o => fk_ev (d + 1) qX12_was 24 L (o.1.toList ++ []) o.2) ∧
  (∀ (d : Nat) (L st : List Value) (h : fk_H), fk_ev d qX12_was 24 L st h = fk_ev d qX12_was 29 L st h) ∧
  (∀ (d : Nat) (L st : List Value) (h : fk_H), fk_ev d qX12_was 27 L st h = fk_ev d qX12_was 29 L (.int ((-3 : Int32)) :: st) h) ∧
  (∀ (d : Nat) (L : List Value) (x : Int32) (h : fk_H), fk_ev d qX12_was 29 L [.int x] h = some (some (.int x), h)) := ⟨fun d a1 a2 x st h => fk_w_aloadn 0 [.ref x, a1, a2] dX12_was_0 rfl,
  fun d a0 a2 x st h => fk_w_iloadn 1 [a0, .int x, a2] dX12_was_1 rfl,
  fun d L x0 N y l  => fk_g_call [.int x0] [] rfl lm_12_123 dX12_was_2 rfl ⟨rfl, by decide⟩ (by simp) fk_at_246,
  fun d L x st h => fk_r_if_ne dX12_was_5 (by decide),
  fun d L st h => fk_w_iconst dX12_was_8 (by decide),
  fun d L x h => fk_r_ret dX12_was_9 (Or.inl rfl),
  fun d a1 a2 x st h => fk_w_aloadn 0 [.ref x, a1, a2] dX12_was_10 rfl,
  fun d a0 a1 x st h => fk_w_iloadn 2 [a0, a1, .int x] dX12_was_11 rfl,
  fun d L x0 N y l  => fk_g_call [.int x0] [] rfl lm_12_340 dX12_was_12 rfl ⟨rfl, by decide⟩ (by simp) fk_at_246,
  fun d L x st h => fk_r_if_eq dX12_was_15 (by decide),
  fun d a1 a2 x st h => fk_w_aloadn 0 [.ref x, a1, a2] dX12_was_18 rfl,
  fun d a0 a2 x st h => fk_w_iloadn 1 [a0, .int x, a2] dX12_was_19 rfl,
  fun d a0 a1 x st h => fk_w_iloadn 2 [a0, a1, .int x] dX12_was_20 rfl,
  fun d L x0 x1 N y l  => fk_g_call [.int x0, .int x1] [] rfl lm_12_343 dX12_was_21 rfl ⟨rfl, by decide⟩ (by simp) fk_at_246,
  fun d L st h => fk_r_goto dX12_was_24 (by decide),
  fun d L st h => fk_w_bipush dX12_was_27 (by decide),
  fun d L x h => fk_r_ret dX12_was_29 (Or.inl rfl)⟩
theorem dX12_byForks_0 : decode cX12_byForks 0 = .ok (.iload_n 1, 1) := by decide +kernel
theorem dX12_byForks_1 : decode cX12_byForks 1 = .ok (.invokestatic 116, 3) := by decide +kernel
theorem dX12_byForks_4 : decode cX12_byForks 4 = .ok (.ifCond .eq 13, 3) := by decide +kernel
theorem dX12_byForks_7 : decode cX12_byForks 7 = .ok (.iload_n 2, 1) := by decide +kernel
theorem dX12_byForks_8 : decode cX12_byForks 8 = .ok (.iconst 0, 1) := by decide +kernel
theorem dX12_byForks_9 : decode cX12_byForks 9 = .ok (.bipush 60, 2) := by decide +kernel
theorem dX12_byForks_11 : decode cX12_byForks 11 = .ok (.invokestatic 112, 3) := by decide +kernel
theorem dX12_byForks_14 : decode cX12_byForks 14 = .ok (.ifCond .ne 7, 3) := by decide +kernel
theorem dX12_byForks_17 : decode cX12_byForks 17 = .ok (.ldc2_w 346, 3) := by decide +kernel
theorem dX12_byForks_20 : decode cX12_byForks 20 = .ok (.lreturn, 1) := by decide +kernel
theorem dX12_byForks_21 : decode cX12_byForks 21 = .ok (.iconst 0, 1) := by decide +kernel
theorem dX12_byForks_22 : decode cX12_byForks 22 = .ok (.istore_n 3, 1) := by decide +kernel
theorem dX12_byForks_23 : decode cX12_byForks 23 = .ok (.iload_n 3, 1) := by decide +kernel
theorem dX12_byForks_24 : decode cX12_byForks 24 = .ok (.iload_n 2, 1) := by decide +kernel
theorem dX12_byForks_25 : decode cX12_byForks 25 = .ok (.if_icmp .gt 146, 3) := by decide +kernel
theorem dX12_byForks_28 : decode cX12_byForks 28 = .ok (.iconst 0, 1) := by decide +kernel
theorem dX12_byForks_29 : decode cX12_byForks 29 = .ok (.istore 4, 2) := by decide +kernel
theorem dX12_byForks_31 : decode cX12_byForks 31 = .ok (.iload 4, 2) := by decide +kernel
theorem dX12_byForks_33 : decode cX12_byForks 33 = .ok (.bipush 16, 2) := by decide +kernel
theorem dX12_byForks_35 : decode cX12_byForks 35 = .ok (.if_icmp .ge 130, 3) := by decide +kernel
theorem dX12_byForks_38 : decode cX12_byForks 38 = .ok (.lconst 0, 1) := by decide +kernel
theorem dX12_byForks_39 : decode cX12_byForks 39 = .ok (.lstore 5, 2) := by decide +kernel
theorem dX12_byForks_41 : decode cX12_byForks 41 = .ok (.iconst 1, 1) := by decide +kernel
theorem dX12_byForks_42 : decode cX12_byForks 42 = .ok (.istore 7, 2) := by decide +kernel
theorem dX12_byForks_44 : decode cX12_byForks 44 = .ok (.iconst 0, 1) := by decide +kernel
theorem dX12_byForks_45 : decode cX12_byForks 45 = .ok (.istore 8, 2) := by decide +kernel
theorem dX12_byForks_47 : decode cX12_byForks 47 = .ok (.iload 8, 2) := by decide +kernel
theorem dX12_byForks_49 : decode cX12_byForks 49 = .ok (.bipush 32, 2) := by decide +kernel
theorem dX12_byForks_51 : decode cX12_byForks 51 = .ok (.if_icmp .ge 81, 3) := by decide +kernel
theorem dX12_byForks_54 : decode cX12_byForks 54 = .ok (.aload_n 0, 1) := by decide +kernel
theorem dX12_byForks_55 : decode cX12_byForks 55 = .ok (.iload 8, 2) := by decide +kernel
theorem dX12_byForks_57 : decode cX12_byForks 57 = .ok (.invokevirtual 289, 3) := by decide +kernel
theorem dX12_byForks_60 : decode cX12_byForks 60 = .ok (.ifCond .eq 66, 3) := by decide +kernel
theorem dX12_byForks_63 : decode cX12_byForks 63 = .ok (.aload_n 0, 1) := by decide +kernel
theorem dX12_byForks_64 : decode cX12_byForks 64 = .ok (.getfield 19, 3) := by decide +kernel
theorem dX12_byForks_67 : decode cX12_byForks 67 = .ok (.iload 8, 2) := by decide +kernel
theorem dX12_byForks_69 : decode cX12_byForks 69 = .ok (.iaload, 1) := by decide +kernel
theorem dX12_byForks_70 : decode cX12_byForks 70 = .ok (.iload 4, 2) := by decide +kernel
theorem dX12_byForks_72 : decode cX12_byForks 72 = .ok (.if_icmp .eq 6, 3) := by decide +kernel
theorem dX12_byForks_75 : decode cX12_byForks 75 = .ok (.goto 51, 3) := by decide +kernel
theorem dX12_byForks_78 : decode cX12_byForks 78 = .ok (.iconst 0, 1) := by decide +kernel
theorem dX12_byForks_79 : decode cX12_byForks 79 = .ok (.istore 7, 2) := by decide +kernel
theorem dX12_byForks_81 : decode cX12_byForks 81 = .ok (.lload 5, 2) := by decide +kernel
theorem dX12_byForks_83 : decode cX12_byForks 83 = .ok (.iload_n 3, 1) := by decide +kernel
theorem dX12_byForks_84 : decode cX12_byForks 84 = .ok (.aload_n 0, 1) := by decide +kernel
theorem dX12_byForks_85 : decode cX12_byForks 85 = .ok (.getfield 25, 3) := by decide +kernel
theorem dX12_byForks_88 : decode cX12_byForks 88 = .ok (.iload 8, 2) := by decide +kernel
theorem dX12_byForks_90 : decode cX12_byForks 90 = .ok (.iaload, 1) := by decide +kernel
theorem dX12_byForks_91 : decode cX12_byForks 91 = .ok (.if_icmp .gt 7, 3) := by decide +kernel
theorem dX12_byForks_94 : decode cX12_byForks 94 = .ok (.lconst 1, 1) := by decide +kernel
theorem dX12_byForks_95 : decode cX12_byForks 95 = .ok (.goto 28, 3) := by decide +kernel
theorem dX12_byForks_98 : decode cX12_byForks 98 = .ok (.aload_n 0, 1) := by decide +kernel
theorem dX12_byForks_99 : decode cX12_byForks 99 = .ok (.getfield 81, 3) := by decide +kernel
theorem dX12_byForks_102 : decode cX12_byForks 102 = .ok (.bipush 16, 2) := by decide +kernel
theorem dX12_byForks_104 : decode cX12_byForks 104 = .ok (.iload_n 3, 1) := by decide +kernel
theorem dX12_byForks_105 : decode cX12_byForks 105 = .ok (.aload_n 0, 1) := by decide +kernel
theorem dX12_byForks_106 : decode cX12_byForks 106 = .ok (.getfield 25, 3) := by decide +kernel
theorem dX12_byForks_109 : decode cX12_byForks 109 = .ok (.iload 8, 2) := by decide +kernel
theorem dX12_byForks_111 : decode cX12_byForks 111 = .ok (.iaload, 1) := by decide +kernel
theorem dX12_byForks_112 : decode cX12_byForks 112 = .ok (.isub, 1) := by decide +kernel
theorem dX12_byForks_113 : decode cX12_byForks 113 = .ok (.imul, 1) := by decide +kernel
theorem dX12_byForks_114 : decode cX12_byForks 114 = .ok (.aload_n 0, 1) := by decide +kernel
theorem dX12_byForks_115 : decode cX12_byForks 115 = .ok (.getfield 22, 3) := by decide +kernel
theorem dX12_byForks_118 : decode cX12_byForks 118 = .ok (.iload 8, 2) := by decide +kernel
theorem dX12_byForks_120 : decode cX12_byForks 120 = .ok (.iaload, 1) := by decide +kernel
theorem dX12_byForks_121 : decode cX12_byForks 121 = .ok (.iadd, 1) := by decide +kernel
theorem dX12_byForks_122 : decode cX12_byForks 122 = .ok (.laload, 1) := by decide +kernel
theorem dX12_byForks_123 : decode cX12_byForks 123 = .ok (.ladd, 1) := by decide +kernel
theorem dX12_byForks_124 : decode cX12_byForks 124 = .ok (.lstore 5, 2) := by decide +kernel
theorem dX12_byForks_126 : decode cX12_byForks 126 = .ok (.iinc 8 1, 3) := by decide +kernel
theorem dX12_byForks_129 : decode cX12_byForks 129 = .ok (.goto (-82), 3) := by decide +kernel
theorem dX12_byForks_132 : decode cX12_byForks 132 = .ok (.aload_n 0, 1) := by decide +kernel
theorem dX12_byForks_133 : decode cX12_byForks 133 = .ok (.getfield 81, 3) := by decide +kernel
theorem dX12_byForks_136 : decode cX12_byForks 136 = .ok (.bipush 16, 2) := by decide +kernel
theorem dX12_byForks_138 : decode cX12_byForks 138 = .ok (.iload_n 3, 1) := by decide +kernel
theorem dX12_byForks_139 : decode cX12_byForks 139 = .ok (.imul, 1) := by decide +kernel
theorem dX12_byForks_140 : decode cX12_byForks 140 = .ok (.iload 4, 2) := by decide +kernel
theorem dX12_byForks_142 : decode cX12_byForks 142 = .ok (.iadd, 1) := by decide +kernel
theorem dX12_byForks_143 : decode cX12_byForks 143 = .ok (.iload 7, 2) := by decide +kernel
theorem dX12_byForks_145 : decode cX12_byForks 145 = .ok (.ifCond .ne 7, 3) := by decide +kernel
theorem dX12_byForks_148 : decode cX12_byForks 148 = .ok (.iload_n 3, 1) := by decide +kernel
theorem dX12_byForks_149 : decode cX12_byForks 149 = .ok (.ifCond .ne 7, 3) := by decide +kernel
theorem dX12_byForks_152 : decode cX12_byForks 152 = .ok (.lconst 1, 1) := by decide +kernel
theorem dX12_byForks_153 : decode cX12_byForks 153 = .ok (.goto 5, 3) := by decide +kernel
theorem dX12_byForks_156 : decode cX12_byForks 156 = .ok (.lload 5, 2) := by decide +kernel
theorem dX12_byForks_158 : decode cX12_byForks 158 = .ok (.lastore, 1) := by decide +kernel
theorem dX12_byForks_159 : decode cX12_byForks 159 = .ok (.iinc 4 1, 3) := by decide +kernel
theorem dX12_byForks_162 : decode cX12_byForks 162 = .ok (.goto (-131), 3) := by decide +kernel
theorem dX12_byForks_165 : decode cX12_byForks 165 = .ok (.iinc 3 1, 3) := by decide +kernel
theorem dX12_byForks_168 : decode cX12_byForks 168 = .ok (.goto (-145), 3) := by decide +kernel
theorem dX12_byForks_171 : decode cX12_byForks 171 = .ok (.aload_n 0, 1) := by decide +kernel
theorem dX12_byForks_172 : decode cX12_byForks 172 = .ok (.getfield 81, 3) := by decide +kernel
theorem dX12_byForks_175 : decode cX12_byForks 175 = .ok (.bipush 16, 2) := by decide +kernel
theorem dX12_byForks_177 : decode cX12_byForks 177 = .ok (.iload_n 2, 1) := by decide +kernel
theorem dX12_byForks_178 : decode cX12_byForks 178 = .ok (.imul, 1) := by decide +kernel
theorem dX12_byForks_179 : decode cX12_byForks 179 = .ok (.iload_n 1, 1) := by decide +kernel
theorem dX12_byForks_180 : decode cX12_byForks 180 = .ok (.iadd, 1) := by decide +kernel
theorem dX12_byForks_181 : decode cX12_byForks 181 = .ok (.laload, 1) := by decide +kernel
theorem dX12_byForks_182 : decode cX12_byForks 182 = .ok (.lreturn, 1) := by decide +kernel
theorem rX12_byForks : (∀ (d : Nat) (a0 a2 a3 a4 a5 a6 a7 a8 : Value) (x : Int32) (st : List Value) (h : fk_H), fk_ev d qX12_byForks 0 [a0, .int x, a2, a3, a4, a5, a6, a7, a8] st h = fk_ev d qX12_byForks 1 [a0, .int x, a2, a3, a4, a5, a6, a7, a8] (.int x :: st) h) ∧
  (∀ (d : Nat) (L : List Value) (x0 : Int32)  (h : fk_H), fk_ev (d + 1) qX12_byForks 1 L (.int x0 :: []) h = (fk_ev d qX12_isPlace 0 [.int x0] [] h).bind fun o => fk_ev (d + 1) qX12_byForks 4 L (o.1.toList ++ []) o.2) ∧
  (∀ (d : Nat) (L : List Value) (x : Int32) (st : List Value) (h : fk_H), fk_ev d qX12_byForks 4 L (.int x :: st) h = if x = nI 0 then fk_ev d qX12_byForks 17 L st h else fk_ev d qX12_byForks 7 L st h) ∧
  (∀ (d : Nat) (a0 a1 a3 a4 a5 a6 a7 a8 : Value) (x : Int32) (st : List Value) (h : fk_H), fk_ev d qX12_byForks 7 [a0, a1, .int x, a3, a4, a5, a6, a7, a8] st h = fk_ev d qX12_byForks 8 [a0, a1, .int x, a3, a4, a5, a6, a7, a8] (.int x :: st) h) ∧
  (∀ (d : Nat) (L st : List Value) (h : fk_H), fk_ev d qX12_byForks 8 L st h = fk_ev d qX12_byForks 9 L (.int (nI 0) :: st) h) ∧
  (∀ (d : Nat) (L st : List Value) (h : fk_H), fk_ev d qX12_byForks 9 L st h = fk_ev d qX12_byForks 11 L (.int (nI 60) :: st) h) ∧
  (∀ (d : Nat) (L : List Value) (x0 : Int32) (x1 : Int32) (x2 : Int32)  (h : fk_H), fk_ev (d + 1) qX12_byForks 11 L (.int x2 :: .int x1 :: .int x0 :: []) h = (fk_ev d qX12_in 0 [.int x0, .int x1, .int x2] [] h).bind fun o => fk_ev (d + 1) qX12_byForks 14 L (o.1.toList ++ []) o.2) ∧
  (∀ (d : Nat) (L : List Value) (x : Int32) (st : List Value) (h : fk_H), fk_ev d qX12_byForks 14 L (.int x :: st) h = if ¬ x = nI 0 then fk_ev d qX12_byForks 21 L st h else fk_ev d qX12_byForks 17 L st h) ∧
  (∀ (d : Nat) (L st : List Value) (h : fk_H), fk_ev d qX12_byForks 17 L st h = fk_ev d qX12_byForks 20 L (.long (-1) :: st) h) ∧
  (∀ (d : Nat) (L : List Value) (x : Int64) (h : fk_H), fk_ev d qX12_byForks 20 L [.long x] h = some (some (.long x), h)) ∧
  (∀ (d : Nat) (L st : List Value) (h : fk_H), fk_ev d qX12_byForks 21 L st h = fk_ev d qX12_byForks 22 L (.int (nI 0) :: st) h) ∧
  (∀ (d : Nat) (a0 a1 a2 a3 a4 a5 a6 a7 a8 : Value) (x : Int32) (st : List Value) (h : fk_H), fk_ev d qX12_byForks 22 [a0, a1, a2, a3, a4, a5, a6, a7, a8] (.int x :: st) h = fk_ev d qX12_byForks 23 [a0, a1, a2, .int x, a4, a5, a6, a7, a8] st h) ∧
  (∀ (d : Nat) (a0 a1 a3 a4 a5 a6 a7 a8 : Value) (x : Int32) (st : List Value) (h : fk_H), fk_ev d qX12_byForks 24 [a0, a1, .int x, a3, a4, a5, a6, a7, a8] st h = fk_ev d qX12_byForks 25 [a0, a1, .int x, a3, a4, a5, a6, a7, a8] (.int x :: st) h) ∧
  (∀ (d : Nat) (L : List Value) (x y : Int32) (st : List Value) (h : fk_H), fk_ev d qX12_byForks 25 L (.int y :: .int x :: st) h = if y < x then fk_ev d qX12_byForks 171 L st h else fk_ev d qX12_byForks 28 L st h) ∧
  (∀ (d : Nat) (L st : List Value) (h : fk_H), fk_ev d qX12_byForks 28 L st h = fk_ev d qX12_byForks 29 L (.int (nI 0) :: st) h) ∧
  (∀ (d : Nat) (a0 a1 a2 a3 a4 a5 a6 a7 a8 : Value) (x : Int32) (st : List Value) (h : fk_H), fk_ev d qX12_byForks 29 [a0, a1, a2, a3, a4, a5, a6, a7, a8] (.int x :: st) h = fk_ev d qX12_byForks 31 [a0, a1, a2, a3, .int x, a5, a6, a7, a8] st h) ∧
  (∀ (d : Nat) (L st : List Value) (h : fk_H), fk_ev d qX12_byForks 33 L st h = fk_ev d qX12_byForks 35 L (.int (nI 16) :: st) h) ∧
  (∀ (d : Nat) (L : List Value) (x y : Int32) (st : List Value) (h : fk_H), fk_ev d qX12_byForks 35 L (.int y :: .int x :: st) h = if y ≤ x then fk_ev d qX12_byForks 165 L st h else fk_ev d qX12_byForks 38 L st h) ∧
  (∀ (d : Nat) (L st : List Value) (h : fk_H), fk_ev d qX12_byForks 38 L st h = fk_ev d qX12_byForks 39 L (.long 0 :: st) h) ∧
  (∀ (d : Nat) (a0 a1 a2 a3 a4 a5 a7 a8 : Value) (x : Int64) (st : List Value) (h : fk_H), fk_ev d qX12_byForks 39 [a0, a1, a2, a3, a4, a5, .null, a7, a8] (.long x :: st) h = fk_ev d qX12_byForks 41 [a0, a1, a2, a3, a4, .long x, .null, a7, a8] st h) ∧
  (∀ (d : Nat) (L st : List Value) (h : fk_H), fk_ev d qX12_byForks 41 L st h = fk_ev d qX12_byForks 42 L (.int (nI 1) :: st) h) ∧
  (∀ (d : Nat) (a0 a1 a2 a3 a4 a5 a6 a7 a8 : Value) (x : Int32) (st : List Value) (h : fk_H), fk_ev d qX12_byForks 42 [a0, a1, a2, a3, a4, a5, a6, a7, a8] (.int x :: st) h = fk_ev d qX12_byForks 44 [a0, a1, a2, a3, a4, a5, a6, .int x, a8] st h) ∧
  (∀ (d : Nat) (L st : List Value) (h : fk_H), fk_ev d qX12_byForks 44 L st h = fk_ev d qX12_byForks 45 L (.int (nI 0) :: st) h) ∧
  (∀ (d : Nat) (a0 a1 a2 a3 a4 a5 a6 a7 a8 : Value) (x : Int32) (st : List Value) (h : fk_H), fk_ev d qX12_byForks 45 [a0, a1, a2, a3, a4, a5, a6, a7, a8] (.int x :: st) h = fk_ev d qX12_byForks 47 [a0, a1, a2, a3, a4, a5, a6, a7, .int x] st h) ∧
  (∀ (d : Nat) (L st : List Value) (h : fk_H), fk_ev d qX12_byForks 49 L st h = fk_ev d qX12_byForks 51 L (.int (nI 32) :: st) h) ∧
  (∀ (d : Nat) (L : List Value) (x y : Int32) (st : List Value) (h : fk_H), fk_ev d qX12_byForks 51 L (.int y :: .int x :: st) h = if y ≤ x then fk_ev d qX12_byForks 132 L st h else fk_ev d qX12_byForks 54 L st h) ∧
  (∀ (d : Nat) (a1 a2 a3 a4 a5 a6 a7 a8 : Value) (x : Nat) (st : List Value) (h : fk_H), fk_ev d qX12_byForks 54 [.ref x, a1, a2, a3, a4, a5, a6, a7, a8] st h = fk_ev d qX12_byForks 55 [.ref x, a1, a2, a3, a4, a5, a6, a7, a8] (.ref x :: st) h) ∧
  (∀ (d : Nat) (a0 a1 a2 a3 a4 a5 a6 a7 : Value) (x : Int32) (st : List Value) (h : fk_H), fk_ev d qX12_byForks 55 [a0, a1, a2, a3, a4, a5, a6, a7, .int x] st h = fk_ev d qX12_byForks 57 [a0, a1, a2, a3, a4, a5, a6, a7, .int x] (.int x :: st) h) ∧
  (∀ (d : Nat) (L : List Value) (x0 : Int32)  (N : Nat) (y : Nat → Nat → Int32) (l : Nat → Nat → Int64), fk_ev (d + 1) qX12_byForks 57 L (.int x0 :: .ref 246 :: []) (fk_E N y l) = (fk_ev d qX12_isRoad 0 [.ref 246, .int x0] [] (fk_E N y l)).bind fun o => fk_ev (d + 1) qX12_byForks 60 L (o.1.toList ++ []) o.2) ∧
  (∀ (d : Nat) (L : List Value) (x : Int32) (st : List Value) (h : fk_H), fk_ev d qX12_byForks 60 L (.int x :: st) h = if x = nI 0 then fk_ev d qX12_byForks 126 L st h else fk_ev d qX12_byForks 63 L st h) ∧
  (∀ (d : Nat) (a1 a2 a3 a4 a5 a6 a7 a8 : Value) (x : Nat) (st : List Value) (h : fk_H), fk_ev d qX12_byForks 63 [.ref x, a1, a2, a3, a4, a5, a6, a7, a8] st h = fk_ev d qX12_byForks 64 [.ref x, a1, a2, a3, a4, a5, a6, a7, a8] (.ref x :: st) h) ∧
  (∀ (d : Nat) (L st : List Value) (N : Nat) (y : Nat → Nat → Int32) (l : Nat → Nat → Int64), fk_ev d qX12_byForks 64 L (.ref 246 :: st) (fk_E N y l) = fk_ev d qX12_byForks 67 L (.ref 250 :: st) (fk_E N y l)) ∧
  (∀ (d : Nat) (a0 a1 a2 a3 a4 a5 a6 a7 : Value) (x : Int32) (st : List Value) (h : fk_H), fk_ev d qX12_byForks 67 [a0, a1, a2, a3, a4, a5, a6, a7, .int x] st h = fk_ev d qX12_byForks 69 [a0, a1, a2, a3, a4, a5, a6, a7, .int x] (.int x :: st) h) ∧
  (∀ (d : Nat) (L st : List Value) (N : Nat) (y : Nat → Nat → Int32) (l : Nat → Nat → Int64) (i : Nat), i < 32 → fk_ev d qX12_byForks 69 L (.int (nI i) :: .ref 250 :: st) (fk_E N y l) = fk_ev d qX12_byForks 70 L (.int (y 250 i) :: st) (fk_E N y l)) ∧
  (∀ (d : Nat) (a0 a1 a2 a3 a5 a6 a7 a8 : Value) (x : Int32) (st : List Value) (h : fk_H), fk_ev d qX12_byForks 70 [a0, a1, a2, a3, .int x, a5, a6, a7, a8] st h = fk_ev d qX12_byForks 72 [a0, a1, a2, a3, .int x, a5, a6, a7, a8] (.int x :: st) h) ∧
  (∀ (d : Nat) (L : List Value) (x y : Int32) (st : List Value) (h : fk_H), fk_ev d qX12_byForks 72 L (.int y :: .int x :: st) h = if x = y then fk_ev d qX12_byForks 78 L st h else fk_ev d qX12_byForks 75 L st h) ∧
  (∀ (d : Nat) (L st : List Value) (h : fk_H), fk_ev d qX12_byForks 75 L st h = fk_ev d qX12_byForks 126 L st h) ∧
  (∀ (d : Nat) (L st : List Value) (h : fk_H), fk_ev d qX12_byForks 78 L st h = fk_ev d qX12_byForks 79 L (.int (nI 0) :: st) h) ∧
  (∀ (d : Nat) (a0 a1 a2 a3 a4 a5 a6 a7 a8 : Value) (x : Int32) (st : List Value) (h : fk_H), fk_ev d qX12_byForks 79 [a0, a1, a2, a3, a4, a5, a6, a7, a8] (.int x :: st) h = fk_ev d qX12_byForks 81 [a0, a1, a2, a3, a4, a5, a6, .int x, a8] st h) ∧
  (∀ (d : Nat) (a0 a1 a2 a3 a4 a6 a7 a8 : Value) (x : Int64) (st : List Value) (h : fk_H), fk_ev d qX12_byForks 81 [a0, a1, a2, a3, a4, .long x, a6, a7, a8] st h = fk_ev d qX12_byForks 83 [a0, a1, a2, a3, a4, .long x, a6, a7, a8] (.long x :: st) h) ∧
  (∀ (d : Nat) (a0 a1 a2 a4 a5 a6 a7 a8 : Value) (x : Int32) (st : List Value) (h : fk_H), fk_ev d qX12_byForks 83 [a0, a1, a2, .int x, a4, a5, a6, a7, a8] st h = fk_ev d qX12_byForks 84 [a0, a1, a2, .int x, a4, a5, a6, a7, a8] (.int x :: st) h) ∧
  (∀ (d : Nat) (a1 a2 a3 a4 a5 a6 a7 a8 : Value) (x : Nat) (st : List Value) (h : fk_H), fk_ev d qX12_byForks 84 [.ref x, a1, a2, a3, a4, a5, a6, a7, a8] st h = fk_ev d qX12_byForks 85 [.ref x, a1, a2, a3, a4, a5, a6, a7, a8] (.ref x :: st) h) ∧
  (∀ (d : Nat) (L st : List Value) (N : Nat) (y : Nat → Nat → Int32) (l : Nat → Nat → Int64), fk_ev d qX12_byForks 85 L (.ref 246 :: st) (fk_E N y l) = fk_ev d qX12_byForks 88 L (.ref 252 :: st) (fk_E N y l)) ∧
  (∀ (d : Nat) (a0 a1 a2 a3 a4 a5 a6 a7 : Value) (x : Int32) (st : List Value) (h : fk_H), fk_ev d qX12_byForks 88 [a0, a1, a2, a3, a4, a5, a6, a7, .int x] st h = fk_ev d qX12_byForks 90 [a0, a1, a2, a3, a4, a5, a6, a7, .int x] (.int x :: st) h) ∧
  (∀ (d : Nat) (L st : List Value) (N : Nat) (y : Nat → Nat → Int32) (l : Nat → Nat → Int64) (i : Nat), i < 32 → fk_ev d qX12_byForks 90 L (.int (nI i) :: .ref 252 :: st) (fk_E N y l) = fk_ev d qX12_byForks 91 L (.int (y 252 i) :: st) (fk_E N y l)) ∧
  (∀ (d : Nat) (L : List Value) (x y : Int32) (st : List Value) (h : fk_H), fk_ev d qX12_byForks 91 L (.int y :: .int x :: st) h = if y < x then fk_ev d qX12_byForks 98 L st h else fk_ev d qX12_byForks 94 L st h) ∧
  (∀ (d : Nat) (L st : List Value) (h : fk_H), fk_ev d qX12_byForks 94 L st h = fk_ev d qX12_byForks 95 L (.long 1 :: st) h) ∧
  (∀ (d : Nat) (L st : List Value) (h : fk_H), fk_ev d qX12_byForks 95 L st h = fk_ev d qX12_byForks 123 L st h) ∧
  (∀ (d : Nat) (a1 a2 a3 a4 a5 a6 a7 a8 : Value) (x : Nat) (st : List Value) (h : fk_H), fk_ev d qX12_byForks 98 [.ref x, a1, a2, a3, a4, a5, a6, a7, a8] st h = fk_ev d qX12_byForks 99 [.ref x, a1, a2, a3, a4, a5, a6, a7, a8] (.ref x :: st) h) ∧
  (∀ (d : Nat) (L st : List Value) (N : Nat) (y : Nat → Nat → Int32) (l : Nat → Nat → Int64), fk_ev d qX12_byForks 99 L (.ref 246 :: st) (fk_E N y l) = fk_ev d qX12_byForks 102 L (.ref 270 :: st) (fk_E N y l)) ∧
  (∀ (d : Nat) (L st : List Value) (h : fk_H), fk_ev d qX12_byForks 102 L st h = fk_ev d qX12_byForks 104 L (.int (nI 16) :: st) h) ∧
  (∀ (d : Nat) (a0 a1 a2 a4 a5 a6 a7 a8 : Value) (x : Int32) (st : List Value) (h : fk_H), fk_ev d qX12_byForks 104 [a0, a1, a2, .int x, a4, a5, a6, a7, a8] st h = fk_ev d qX12_byForks 105 [a0, a1, a2, .int x, a4, a5, a6, a7, a8] (.int x :: st) h) ∧
  (∀ (d : Nat) (a1 a2 a3 a4 a5 a6 a7 a8 : Value) (x : Nat) (st : List Value) (h : fk_H), fk_ev d qX12_byForks 105 [.ref x, a1, a2, a3, a4, a5, a6, a7, a8] st h = fk_ev d qX12_byForks 106 [.ref x, a1, a2, a3, a4, a5, a6, a7, a8] (.ref x :: st) h) ∧
  (∀ (d : Nat) (L st : List Value) (N : Nat) (y : Nat → Nat → Int32) (l : Nat → Nat → Int64), fk_ev d qX12_byForks 106 L (.ref 246 :: st) (fk_E N y l) = fk_ev d qX12_byForks 109 L (.ref 252 :: st) (fk_E N y l)) ∧
  (∀ (d : Nat) (a0 a1 a2 a3 a4 a5 a6 a7 : Value) (x : Int32) (st : List Value) (h : fk_H), fk_ev d qX12_byForks 109 [a0, a1, a2, a3, a4, a5, a6, a7, .int x] st h = fk_ev d qX12_byForks 111 [a0, a1, a2, a3, a4, a5, a6, a7, .int x] (.int x :: st) h) ∧
  (∀ (d : Nat) (L st : List Value) (N : Nat) (y : Nat → Nat → Int32) (l : Nat → Nat → Int64) (i : Nat), i < 32 → fk_ev d qX12_byForks 111 L (.int (nI i) :: .ref 252 :: st) (fk_E N y l) = fk_ev d qX12_byForks 112 L (.int (y 252 i) :: st) (fk_E N y l)) ∧
  (∀ (d : Nat) (L : List Value) (x y : Int32) (st : List Value) (h : fk_H), fk_ev d qX12_byForks 112 L (.int y :: .int x :: st) h = fk_ev d qX12_byForks 113 L (.int (x - y) :: st) h) ∧
  (∀ (d : Nat) (L : List Value) (x y : Int32) (st : List Value) (h : fk_H), fk_ev d qX12_byForks 113 L (.int y :: .int x :: st) h = fk_ev d qX12_byForks 114 L (.int (x * y) :: st) h) ∧
  (∀ (d : Nat) (a1 a2 a3 a4 a5 a6 a7 a8 : Value) (x : Nat) (st : List Value) (h : fk_H), fk_ev d qX12_byForks 114 [.ref x, a1, a2, a3, a4, a5, a6, a7, a8] st h = fk_ev d qX12_byForks 115 [.ref x, a1, a2, a3, a4, a5, a6, a7, a8] (.ref x :: st) h) ∧
  (∀ (d : Nat) (L st : List Value) (N : Nat) (y : Nat → Nat → Int32) (l : Nat → Nat → Int64), fk_ev d qX12_byForks 115 L (.ref 246 :: st) (fk_E N y l) = fk_ev d qX12_byForks 118 L (.ref 251 :: st) (fk_E N y l)) ∧
  (∀ (d : Nat) (a0 a1 a2 a3 a4 a5 a6 a7 : Value) (x : Int32) (st : List Value) (h : fk_H), fk_ev d qX12_byForks 118 [a0, a1, a2, a3, a4, a5, a6, a7, .int x] st h = fk_ev d qX12_byForks 120 [a0, a1, a2, a3, a4, a5, a6, a7, .int x] (.int x :: st) h) ∧
  (∀ (d : Nat) (L st : List Value) (N : Nat) (y : Nat → Nat → Int32) (l : Nat → Nat → Int64) (i : Nat), i < 32 → fk_ev d qX12_byForks 120 L (.int (nI i) :: .ref 251 :: st) (fk_E N y l) = fk_ev d qX12_byForks 121 L (.int (y 251 i) :: st) (fk_E N y l)) ∧
  (∀ (d : Nat) (L : List Value) (x y : Int32) (st : List Value) (h : fk_H), fk_ev d qX12_byForks 121 L (.int y :: .int x :: st) h = fk_ev d qX12_byForks 122 L (.int (x + y) :: st) h) ∧
  (∀ (d : Nat) (L st : List Value) (N : Nat) (y : Nat → Nat → Int32) (l : Nat → Nat → Int64) (i : Nat), i < 976 → fk_ev d qX12_byForks 122 L (.int (nI i) :: .ref 270 :: st) (fk_E N y l) = fk_ev d qX12_byForks 123 L (.long (l 270 i) :: st) (fk_E N y l)) ∧
  (∀ (d : Nat) (L : List Value) (x y : Int64) (st : List Value) (h : fk_H), fk_ev d qX12_byForks 123 L (.long y :: .long x :: st) h = fk_ev d qX12_byForks 124 L (.long (x + y) :: st) h) ∧
  (∀ (d : Nat) (a0 a1 a2 a3 a4 a5 a7 a8 : Value) (x : Int64) (st : List Value) (h : fk_H), fk_ev d qX12_byForks 124 [a0, a1, a2, a3, a4, a5, .null, a7, a8] (.long x :: st) h = fk_ev d qX12_byForks 126 [a0, a1, a2, a3, a4, .long x, .null, a7, a8] st h) ∧
  (∀ (d : Nat) (a0 a1 a2 a3 a4 a5 a6 a7 : Value) (x : Int32) (st : List Value) (h : fk_H), fk_ev d qX12_byForks 126 [a0, a1, a2, a3, a4, a5, a6, a7, .int x] st h = fk_ev d qX12_byForks 129 [a0, a1, a2, a3, a4, a5, a6, a7, .int (x + nI 1)] st h) ∧
  (∀ (d : Nat) (L st : List Value) (h : fk_H), fk_ev d qX12_byForks 129 L st h = fk_ev d qX12_byForks 47 L st h) ∧
  (∀ (d : Nat) (a1 a2 a3 a4 a5 a6 a7 a8 : Value) (x : Nat) (st : List Value) (h : fk_H), fk_ev d qX12_byForks 132 [.ref x, a1, a2, a3, a4, a5, a6, a7, a8] st h = fk_ev d qX12_byForks 133 [.ref x, a1, a2, a3, a4, a5, a6, a7, a8] (.ref x :: st) h) ∧
  (∀ (d : Nat) (L st : List Value) (N : Nat) (y : Nat → Nat → Int32) (l : Nat → Nat → Int64), fk_ev d qX12_byForks 133 L (.ref 246 :: st) (fk_E N y l) = fk_ev d qX12_byForks 136 L (.ref 270 :: st) (fk_E N y l)) ∧
  (∀ (d : Nat) (L st : List Value) (h : fk_H), fk_ev d qX12_byForks 136 L st h = fk_ev d qX12_byForks 138 L (.int (nI 16) :: st) h) ∧
  (∀ (d : Nat) (a0 a1 a2 a4 a5 a6 a7 a8 : Value) (x : Int32) (st : List Value) (h : fk_H), fk_ev d qX12_byForks 138 [a0, a1, a2, .int x, a4, a5, a6, a7, a8] st h = fk_ev d qX12_byForks 139 [a0, a1, a2, .int x, a4, a5, a6, a7, a8] (.int x :: st) h) ∧
  (∀ (d : Nat) (L : List Value) (x y : Int32) (st : List Value) (h : fk_H), fk_ev d qX12_byForks 139 L (.int y :: .int x :: st) h = fk_ev d qX12_byForks 140 L (.int (x * y) :: st) h) ∧
  (∀ (d : Nat) (a0 a1 a2 a3 a5 a6 a7 a8 : Value) (x : Int32) (st : List Value) (h : fk_H), fk_ev d qX12_byForks 140 [a0, a1, a2, a3, .int x, a5, a6, a7, a8] st h = fk_ev d qX12_byForks 142 [a0, a1, a2, a3, .int x, a5, a6, a7, a8] (.int x :: st) h) ∧
  (∀ (d : Nat) (L : List Value) (x y : Int32) (st : List Value) (h : fk_H), fk_ev d qX12_byForks 142 L (.int y :: .int x :: st) h = fk_ev d qX12_byForks 143 L (.int (x + y) :: st) h) ∧
  (∀ (d : Nat) (a0 a1 a2 a3 a4 a5 a6 a8 : Value) (x : Int32) (st : List Value) (h : fk_H), fk_ev d qX12_byForks 143 [a0, a1, a2, a3, a4, a5, a6, .int x, a8] st h = fk_ev d qX12_byForks 145 [a0, a1, a2, a3, a4, a5, a6, .int x, a8] (.int x :: st) h) ∧
  (∀ (d : Nat) (L : List Value) (x : Int32) (st : List Value) (h : fk_H), fk_ev d qX12_byForks 145 L (.int x :: st) h = if ¬ x = nI 0 then fk_ev d qX12_byForks 152 L st h else fk_ev d qX12_byForks 148 L st h) ∧
  (∀ (d : Nat) (a0 a1 a2 a4 a5 a6 a7 a8 : Value) (x : Int32) (st : List Value) (h : fk_H), fk_ev d qX12_byForks 148 [a0, a1, a2, .int x, a4, a5, a6, a7, a8] st h = fk_ev d qX12_byForks 149 [a0, a1, a2, .int x, a4, a5, a6, a7, a8] (.int x :: st) h) ∧
  (∀ (d : Nat) (L : List Value) (x : Int32) (st : List Value) (h : fk_H), fk_ev d qX12_byForks 149 L (.int x :: st) h = if ¬ x = nI 0 then fk_ev d qX12_byForks 156 L st h else fk_ev d qX12_byForks 152 L st h) ∧
  (∀ (d : Nat) (L st : List Value) (h : fk_H), fk_ev d qX12_byForks 152 L st h = fk_ev d qX12_byForks 153 L (.long 1 :: st) h) ∧
  (∀ (d : Nat) (L st : List Value) (h : fk_H), fk_ev d qX12_byForks 153 L st h = fk_ev d qX12_byForks 158 L st h) ∧
  (∀ (d : Nat) (a0 a1 a2 a3 a4 a6 a7 a8 : Value) (x : Int64) (st : List Value) (h : fk_H), fk_ev d qX12_byForks 156 [a0, a1, a2, a3, a4, .long x, a6, a7, a8] st h = fk_ev d qX12_byForks 158 [a0, a1, a2, a3, a4, .long x, a6, a7, a8] (.long x :: st) h) ∧
  (∀ (d : Nat) (L st : List Value) (N : Nat) (y : Nat → Nat → Int32) (l : Nat → Nat → Int64) (i : Nat) (v : Int64), i < 976 → fk_ev d qX12_byForks 158 L (.long v :: .int (nI i) :: .ref 270 :: st) (fk_E N y l) = fk_ev d qX12_byForks 159 L st (fk_E N y (fk_ul l 270 i v))) ∧
  (∀ (d : Nat) (a0 a1 a2 a3 a5 a6 a7 a8 : Value) (x : Int32) (st : List Value) (h : fk_H), fk_ev d qX12_byForks 159 [a0, a1, a2, a3, .int x, a5, a6, a7, a8] st h = fk_ev d qX12_byForks 162 [a0, a1, a2, a3, .int (x + nI 1), a5, a6, a7, a8] st h) ∧
  (∀ (d : Nat) (L st : List Value) (h : fk_H), fk_ev d qX12_byForks 162 L st h = fk_ev d qX12_byForks 31 L st h) ∧
  (∀ (d : Nat) (a0 a1 a2 a4 a5 a6 a7 a8 : Value) (x : Int32) (st : List Value) (h : fk_H), fk_ev d qX12_byForks 165 [a0, a1, a2, .int x, a4, a5, a6, a7, a8] st h = fk_ev d qX12_byForks 168 [a0, a1, a2, .int (x + nI 1), a4, a5, a6, a7, a8] st h) ∧
  (∀ (d : Nat) (L st : List Value) (h : fk_H), fk_ev d qX12_byForks 168 L st h = fk_ev d qX12_byForks 23 L st h) ∧
  (∀ (d : Nat) (a1 a2 a3 a4 a5 a6 a7 a8 : Value) (x : Nat) (st : List Value) (h : fk_H), fk_ev d qX12_byForks 171 [.ref x, a1, a2, a3, a4, a5, a6, a7, a8] st h = fk_ev d qX12_byForks 172 [.ref x, a1, a2, a3, a4, a5, a6, a7, a8] (.ref x :: st) h) ∧
  (∀ (d : Nat) (L st : List Value) (N : Nat) (y : Nat → Nat → Int32) (l : Nat → Nat → Int64), fk_ev d qX12_byForks 172 L (.ref 246 :: st) (fk_E N y l) = fk_ev d qX12_byForks 175 L (.ref 270 :: st) (fk_E N y l)) ∧
  (∀ (d : Nat) (L st : List Value) (h : fk_H), fk_ev d qX12_byForks 175 L st h = fk_ev d qX12_byForks 177 L (.int (nI 16) :: st) h) ∧
  (∀ (d : Nat) (a0 a1 a3 a4 a5 a6 a7 a8 : Value) (x : Int32) (st : List Value) (h : fk_H), fk_ev d qX12_byForks 177 [a0, a1, .int x, a3, a4, a5, a6, a7, a8] st h = fk_ev d qX12_byForks 178 [a0, a1, .int x, a3, a4, a5, a6, a7, a8] (.int x :: st) h) ∧
  (∀ (d : Nat) (L : List Value) (x y : Int32) (st : List Value) (h : fk_H), fk_ev d qX12_byForks 178 L (.int y :: .int x :: st) h = fk_ev d qX12_byForks 179 L (.int (x * y) :: st) h) ∧
  (∀ (d : Nat) (a0 a2 a3 a4 a5 a6 a7 a8 : Value) (x : Int32) (st : List Value) (h : fk_H), fk_ev d qX12_byForks 179 [a0, .int x, a2, a3, a4, a5, a6, a7, a8] st h = fk_ev d qX12_byForks 180 [a0, .int x, a2, a3, a4, a5, a6, a7, a8] (.int x :: st) h) ∧
  (∀ (d : Nat) (L : List Value) (x y : Int32) (st : List Value) (h : fk_H), fk_ev d qX12_byForks 180 L (.int y :: .int x :: st) h = fk_ev d qX12_byForks 181 L (.int (x + y) :: st) h) ∧
  (∀ (d : Nat) (L st : List Value) (N : Nat) (y : Nat → Nat → Int32) (l : Nat → Nat → Int64) (i : Nat), i < 976 → fk_ev d qX12_byForks 181 L (.int (nI i) :: .ref 270 :: st) (fk_E N y l) = fk_ev d qX12_byForks 182 L (.long (l 270 i) :: st) (fk_E N y l)) ∧
  (∀ (d : Nat) (L : List Value) (x : Int64) (h : fk_H), fk_ev d qX12_byForks 182 L [.long x] h = some (some (.long x), h)) := ⟨fun d a0 a2 a3 a4 a5 a6 a7 a8 x st h => fk_w_iloadn 1 [a0, .int x, a2, a3, a4, a5, a6, a7, a8] dX12_byForks_0 rfl,
  fun d L x0 h => fk_g_calls [.int x0] [] rfl lm_12_116 dX12_byForks_1 rfl ⟨rfl, by decide⟩ (by simp),
  fun d L x st h => fk_r_if_eq dX12_byForks_4 (by decide),
  fun d a0 a1 a3 a4 a5 a6 a7 a8 x st h => fk_w_iloadn 2 [a0, a1, .int x, a3, a4, a5, a6, a7, a8] dX12_byForks_7 rfl,
  fun d L st h => fk_w_iconst dX12_byForks_8 (by decide),
  fun d L st h => fk_w_bipush dX12_byForks_9 (by decide),
  fun d L x0 x1 x2 h => fk_g_calls [.int x0, .int x1, .int x2] [] rfl lm_12_112 dX12_byForks_11 rfl ⟨rfl, by decide⟩ (by simp),
  fun d L x st h => fk_r_if_ne dX12_byForks_14 (by decide),
  fun d L st h => fk_r_ldc2 dX12_byForks_17 (by decide +kernel),
  fun d L x h => fk_r_lret dX12_byForks_20 rfl,
  fun d L st h => fk_w_iconst dX12_byForks_21 (by decide),
  fun d a0 a1 a2 a3 a4 a5 a6 a7 a8 x st h => fk_w_istoren 3 9 [6] [a0, a1, a2, a3, a4, a5, a6, a7, a8] [a0, a1, a2, .int x, a4, a5, a6, a7, a8] dX12_byForks_22 rfl rfl (by decide) rfl,
  fun d a0 a1 a3 a4 a5 a6 a7 a8 x st h => fk_w_iloadn 2 [a0, a1, .int x, a3, a4, a5, a6, a7, a8] dX12_byForks_24 rfl,
  fun d L x y st h => fk_r_icmp_gt dX12_byForks_25 (by decide),
  fun d L st h => fk_w_iconst dX12_byForks_28 (by decide),
  fun d a0 a1 a2 a3 a4 a5 a6 a7 a8 x st h => fk_w_istore 4 9 [6] [a0, a1, a2, a3, a4, a5, a6, a7, a8] [a0, a1, a2, a3, .int x, a5, a6, a7, a8] dX12_byForks_29 rfl rfl (by decide) rfl,
  fun d L st h => fk_w_bipush dX12_byForks_33 (by decide),
  fun d L x y st h => fk_r_icmp_ge dX12_byForks_35 (by decide),
  fun d L st h => fk_w_lconst dX12_byForks_38 (by decide),
  fun d a0 a1 a2 a3 a4 a5 a7 a8 x st h => fk_w_lstore 5 9 [6] [a0, a1, a2, a3, a4, a5, .null, a7, a8] [a0, a1, a2, a3, a4, .long x, .null, a7, a8] dX12_byForks_39 rfl rfl (by decide) rfl rfl,
  fun d L st h => fk_w_iconst dX12_byForks_41 (by decide),
  fun d a0 a1 a2 a3 a4 a5 a6 a7 a8 x st h => fk_w_istore 7 9 [6] [a0, a1, a2, a3, a4, a5, a6, a7, a8] [a0, a1, a2, a3, a4, a5, a6, .int x, a8] dX12_byForks_42 rfl rfl (by decide) rfl,
  fun d L st h => fk_w_iconst dX12_byForks_44 (by decide),
  fun d a0 a1 a2 a3 a4 a5 a6 a7 a8 x st h => fk_w_istore 8 9 [6] [a0, a1, a2, a3, a4, a5, a6, a7, a8] [a0, a1, a2, a3, a4, a5, a6, a7, .int x] dX12_byForks_45 rfl rfl (by decide) rfl,
  fun d L st h => fk_w_bipush dX12_byForks_49 (by decide),
  fun d L x y st h => fk_r_icmp_ge dX12_byForks_51 (by decide),
  fun d a1 a2 a3 a4 a5 a6 a7 a8 x st h => fk_w_aloadn 0 [.ref x, a1, a2, a3, a4, a5, a6, a7, a8] dX12_byForks_54 rfl,
  fun d a0 a1 a2 a3 a4 a5 a6 a7 x st h => fk_w_iload 8 [a0, a1, a2, a3, a4, a5, a6, a7, .int x] dX12_byForks_55 rfl,
  fun d L x0 N y l  => fk_g_call [.int x0] [] rfl lm_12_289 dX12_byForks_57 rfl ⟨rfl, by decide⟩ (by simp) fk_at_246,
  fun d L x st h => fk_r_if_eq dX12_byForks_60 (by decide),
  fun d a1 a2 a3 a4 a5 a6 a7 a8 x st h => fk_w_aloadn 0 [.ref x, a1, a2, a3, a4, a5, a6, a7, a8] dX12_byForks_63 rfl,
  fun d L st N y l => fk_g_getC rfl lf_12_19 (by decide) rfl dX12_byForks_64 fk_at_246,
  fun d a0 a1 a2 a3 a4 a5 a6 a7 x st h => fk_w_iload 8 [a0, a1, a2, a3, a4, a5, a6, a7, .int x] dX12_byForks_67 rfl,
  fun d L st N y l i hi => fk_g_iald fk_at_250 fk_ln_250 (by decide) dX12_byForks_69 hi,
  fun d a0 a1 a2 a3 a5 a6 a7 a8 x st h => fk_w_iload 4 [a0, a1, a2, a3, .int x, a5, a6, a7, a8] dX12_byForks_70 rfl,
  fun d L x y st h => fk_r_icmp_eq dX12_byForks_72 (by decide),
  fun d L st h => fk_r_goto dX12_byForks_75 (by decide),
  fun d L st h => fk_w_iconst dX12_byForks_78 (by decide),
  fun d a0 a1 a2 a3 a4 a5 a6 a7 a8 x st h => fk_w_istore 7 9 [6] [a0, a1, a2, a3, a4, a5, a6, a7, a8] [a0, a1, a2, a3, a4, a5, a6, .int x, a8] dX12_byForks_79 rfl rfl (by decide) rfl,
  fun d a0 a1 a2 a3 a4 a6 a7 a8 x st h => fk_w_lload 5 [a0, a1, a2, a3, a4, .long x, a6, a7, a8] dX12_byForks_81 rfl,
  fun d a0 a1 a2 a4 a5 a6 a7 a8 x st h => fk_w_iloadn 3 [a0, a1, a2, .int x, a4, a5, a6, a7, a8] dX12_byForks_83 rfl,
  fun d a1 a2 a3 a4 a5 a6 a7 a8 x st h => fk_w_aloadn 0 [.ref x, a1, a2, a3, a4, a5, a6, a7, a8] dX12_byForks_84 rfl,
  fun d L st N y l => fk_g_getC rfl lf_12_25 (by decide) rfl dX12_byForks_85 fk_at_246,
  fun d a0 a1 a2 a3 a4 a5 a6 a7 x st h => fk_w_iload 8 [a0, a1, a2, a3, a4, a5, a6, a7, .int x] dX12_byForks_88 rfl,
  fun d L st N y l i hi => fk_g_iald fk_at_252 fk_ln_252 (by decide) dX12_byForks_90 hi,
  fun d L x y st h => fk_r_icmp_gt dX12_byForks_91 (by decide),
  fun d L st h => fk_w_lconst dX12_byForks_94 (by decide),
  fun d L st h => fk_r_goto dX12_byForks_95 (by decide),
  fun d a1 a2 a3 a4 a5 a6 a7 a8 x st h => fk_w_aloadn 0 [.ref x, a1, a2, a3, a4, a5, a6, a7, a8] dX12_byForks_98 rfl,
  fun d L st N y l => fk_g_getC rfl lf_12_81 (by decide) rfl dX12_byForks_99 fk_at_246,
  fun d L st h => fk_w_bipush dX12_byForks_102 (by decide),
  fun d a0 a1 a2 a4 a5 a6 a7 a8 x st h => fk_w_iloadn 3 [a0, a1, a2, .int x, a4, a5, a6, a7, a8] dX12_byForks_104 rfl,
  fun d a1 a2 a3 a4 a5 a6 a7 a8 x st h => fk_w_aloadn 0 [.ref x, a1, a2, a3, a4, a5, a6, a7, a8] dX12_byForks_105 rfl,
  fun d L st N y l => fk_g_getC rfl lf_12_25 (by decide) rfl dX12_byForks_106 fk_at_246,
  fun d a0 a1 a2 a3 a4 a5 a6 a7 x st h => fk_w_iload 8 [a0, a1, a2, a3, a4, a5, a6, a7, .int x] dX12_byForks_109 rfl,
  fun d L st N y l i hi => fk_g_iald fk_at_252 fk_ln_252 (by decide) dX12_byForks_111 hi,
  fun d L x y st h => fk_r_isub dX12_byForks_112,
  fun d L x y st h => fk_r_imul dX12_byForks_113,
  fun d a1 a2 a3 a4 a5 a6 a7 a8 x st h => fk_w_aloadn 0 [.ref x, a1, a2, a3, a4, a5, a6, a7, a8] dX12_byForks_114 rfl,
  fun d L st N y l => fk_g_getC rfl lf_12_22 (by decide) rfl dX12_byForks_115 fk_at_246,
  fun d a0 a1 a2 a3 a4 a5 a6 a7 x st h => fk_w_iload 8 [a0, a1, a2, a3, a4, a5, a6, a7, .int x] dX12_byForks_118 rfl,
  fun d L st N y l i hi => fk_g_iald fk_at_251 fk_ln_251 (by decide) dX12_byForks_120 hi,
  fun d L x y st h => fk_r_iadd dX12_byForks_121,
  fun d L st N y l i hi => fk_g_lald fk_at_270 fk_ln_270 (by decide) dX12_byForks_122 hi,
  fun d L x y st h => fk_r_ladd dX12_byForks_123,
  fun d a0 a1 a2 a3 a4 a5 a7 a8 x st h => fk_w_lstore 5 9 [6] [a0, a1, a2, a3, a4, a5, .null, a7, a8] [a0, a1, a2, a3, a4, .long x, .null, a7, a8] dX12_byForks_124 rfl rfl (by decide) rfl rfl,
  fun d a0 a1 a2 a3 a4 a5 a6 a7 x st h => fk_w_iinc 8 9 (1) [6] [a0, a1, a2, a3, a4, a5, a6, a7, .int x] [a0, a1, a2, a3, a4, a5, a6, a7, .int (x + nI 1)] dX12_byForks_126 rfl rfl rfl (by decide) rfl,
  fun d L st h => fk_r_goto dX12_byForks_129 (by decide),
  fun d a1 a2 a3 a4 a5 a6 a7 a8 x st h => fk_w_aloadn 0 [.ref x, a1, a2, a3, a4, a5, a6, a7, a8] dX12_byForks_132 rfl,
  fun d L st N y l => fk_g_getC rfl lf_12_81 (by decide) rfl dX12_byForks_133 fk_at_246,
  fun d L st h => fk_w_bipush dX12_byForks_136 (by decide),
  fun d a0 a1 a2 a4 a5 a6 a7 a8 x st h => fk_w_iloadn 3 [a0, a1, a2, .int x, a4, a5, a6, a7, a8] dX12_byForks_138 rfl,
  fun d L x y st h => fk_r_imul dX12_byForks_139,
  fun d a0 a1 a2 a3 a5 a6 a7 a8 x st h => fk_w_iload 4 [a0, a1, a2, a3, .int x, a5, a6, a7, a8] dX12_byForks_140 rfl,
  fun d L x y st h => fk_r_iadd dX12_byForks_142,
  fun d a0 a1 a2 a3 a4 a5 a6 a8 x st h => fk_w_iload 7 [a0, a1, a2, a3, a4, a5, a6, .int x, a8] dX12_byForks_143 rfl,
  fun d L x st h => fk_r_if_ne dX12_byForks_145 (by decide),
  fun d a0 a1 a2 a4 a5 a6 a7 a8 x st h => fk_w_iloadn 3 [a0, a1, a2, .int x, a4, a5, a6, a7, a8] dX12_byForks_148 rfl,
  fun d L x st h => fk_r_if_ne dX12_byForks_149 (by decide),
  fun d L st h => fk_w_lconst dX12_byForks_152 (by decide),
  fun d L st h => fk_r_goto dX12_byForks_153 (by decide),
  fun d a0 a1 a2 a3 a4 a6 a7 a8 x st h => fk_w_lload 5 [a0, a1, a2, a3, a4, .long x, a6, a7, a8] dX12_byForks_156 rfl,
  fun d L st N y l i v hi => fk_g_last fk_at_270 fk_ln_270 (by decide) dX12_byForks_158 hi,
  fun d a0 a1 a2 a3 a5 a6 a7 a8 x st h => fk_w_iinc 4 9 (1) [6] [a0, a1, a2, a3, .int x, a5, a6, a7, a8] [a0, a1, a2, a3, .int (x + nI 1), a5, a6, a7, a8] dX12_byForks_159 rfl rfl rfl (by decide) rfl,
  fun d L st h => fk_r_goto dX12_byForks_162 (by decide),
  fun d a0 a1 a2 a4 a5 a6 a7 a8 x st h => fk_w_iinc 3 9 (1) [6] [a0, a1, a2, .int x, a4, a5, a6, a7, a8] [a0, a1, a2, .int (x + nI 1), a4, a5, a6, a7, a8] dX12_byForks_165 rfl rfl rfl (by decide) rfl,
  fun d L st h => fk_r_goto dX12_byForks_168 (by decide),
  fun d a1 a2 a3 a4 a5 a6 a7 a8 x st h => fk_w_aloadn 0 [.ref x, a1, a2, a3, a4, a5, a6, a7, a8] dX12_byForks_171 rfl,
  fun d L st N y l => fk_g_getC rfl lf_12_81 (by decide) rfl dX12_byForks_172 fk_at_246,
  fun d L st h => fk_w_bipush dX12_byForks_175 (by decide),
  fun d a0 a1 a3 a4 a5 a6 a7 a8 x st h => fk_w_iloadn 2 [a0, a1, .int x, a3, a4, a5, a6, a7, a8] dX12_byForks_177 rfl,
  fun d L x y st h => fk_r_imul dX12_byForks_178,
  fun d a0 a2 a3 a4 a5 a6 a7 a8 x st h => fk_w_iloadn 1 [a0, .int x, a2, a3, a4, a5, a6, a7, a8] dX12_byForks_179 rfl,
  fun d L x y st h => fk_r_iadd dX12_byForks_180,
  fun d L st N y l i hi => fk_g_lald fk_at_270 fk_ln_270 (by decide) dX12_byForks_181 hi,
  fun d L x h => fk_r_lret dX12_byForks_182 rfl⟩
theorem hX12_byForks_23 : ∀ (d : Nat) (a0 a1 a2 a4 a5 a6 a7 a8 : Value) (x : Int32) (st : List Value) (h : fk_H), fk_ev d qX12_byForks 23 [a0, a1, a2, .int x, a4, a5, a6, a7, a8] st h = fk_ev d qX12_byForks 24 [a0, a1, a2, .int x, a4, a5, a6, a7, a8] (.int x :: st) h := fun d a0 a1 a2 a4 a5 a6 a7 a8 x st h => fk_w_iloadn 3 [a0, a1, a2, .int x, a4, a5, a6, a7, a8] dX12_byForks_23 rfl
theorem hX12_byForks_31 : ∀ (d : Nat) (a0 a1 a2 a3 a5 a6 a7 a8 : Value) (x : Int32) (st : List Value) (h : fk_H), fk_ev d qX12_byForks 31 [a0, a1, a2, a3, .int x, a5, a6, a7, a8] st h = fk_ev d qX12_byForks 33 [a0, a1, a2, a3, .int x, a5, a6, a7, a8] (.int x :: st) h := fun d a0 a1 a2 a3 a5 a6 a7 a8 x st h => fk_w_iload 4 [a0, a1, a2, a3, .int x, a5, a6, a7, a8] dX12_byForks_31 rfl
theorem hX12_byForks_47 : ∀ (d : Nat) (a0 a1 a2 a3 a4 a5 a6 a7 : Value) (x : Int32) (st : List Value) (h : fk_H), fk_ev d qX12_byForks 47 [a0, a1, a2, a3, a4, a5, a6, a7, .int x] st h = fk_ev d qX12_byForks 49 [a0, a1, a2, a3, a4, a5, a6, a7, .int x] (.int x :: st) h := fun d a0 a1 a2 a3 a4 a5 a6 a7 x st h => fk_w_iload 8 [a0, a1, a2, a3, a4, a5, a6, a7, .int x] dX12_byForks_47 rfl
