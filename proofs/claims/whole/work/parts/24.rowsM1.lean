theorem dX12_readsCondition_0 : decode cX12_readsCondition 0 = .ok (.aload_n 0, 1) := by decide +kernel
theorem dX12_readsCondition_1 : decode cX12_readsCondition 1 = .ok (.invokevirtual 161, 3) := by decide +kernel
theorem dX12_readsCondition_4 : decode cX12_readsCondition 4 = .ok (.bipush 40, 2) := by decide +kernel
theorem dX12_readsCondition_6 : decode cX12_readsCondition 6 = .ok (.if_icmp .eq 13, 3) := by decide +kernel
theorem dX12_readsCondition_9 : decode cX12_readsCondition 9 = .ok (.aload_n 0, 1) := by decide +kernel
theorem dX12_readsCondition_10 : decode cX12_readsCondition 10 = .ok (.iconst 1, 1) := by decide +kernel
theorem dX12_readsCondition_11 : decode cX12_readsCondition 11 = .ok (.aload_n 0, 1) := by decide +kernel
theorem dX12_readsCondition_12 : decode cX12_readsCondition 12 = .ok (.getfield 155, 3) := by decide +kernel
theorem dX12_readsCondition_15 : decode cX12_readsCondition 15 = .ok (.invokevirtual 168, 3) := by decide +kernel
theorem dX12_readsCondition_18 : decode cX12_readsCondition 18 = .ok (.ireturn, 1) := by decide +kernel
theorem dX12_readsCondition_19 : decode cX12_readsCondition 19 = .ok (.aload_n 0, 1) := by decide +kernel
theorem dX12_readsCondition_20 : decode cX12_readsCondition 20 = .ok (.iconst 0, 1) := by decide +kernel
theorem dX12_readsCondition_21 : decode cX12_readsCondition 21 = .ok (.putfield 182, 3) := by decide +kernel
theorem dX12_readsCondition_24 : decode cX12_readsCondition 24 = .ok (.aload_n 0, 1) := by decide +kernel
theorem dX12_readsCondition_25 : decode cX12_readsCondition 25 = .ok (.iconst 0, 1) := by decide +kernel
theorem dX12_readsCondition_26 : decode cX12_readsCondition 26 = .ok (.putfield 185, 3) := by decide +kernel
theorem dX12_readsCondition_29 : decode cX12_readsCondition 29 = .ok (.aload_n 0, 1) := by decide +kernel
theorem dX12_readsCondition_30 : decode cX12_readsCondition 30 = .ok (.bipush 13, 2) := by decide +kernel
theorem dX12_readsCondition_32 : decode cX12_readsCondition 32 = .ok (.invokevirtual 195, 3) := by decide +kernel
theorem dX12_readsCondition_35 : decode cX12_readsCondition 35 = .ok (.ifCond .ne 5, 3) := by decide +kernel
theorem dX12_readsCondition_38 : decode cX12_readsCondition 38 = .ok (.iconst 0, 1) := by decide +kernel
theorem dX12_readsCondition_39 : decode cX12_readsCondition 39 = .ok (.ireturn, 1) := by decide +kernel
theorem dX12_readsCondition_40 : decode cX12_readsCondition 40 = .ok (.aload_n 0, 1) := by decide +kernel
theorem dX12_readsCondition_41 : decode cX12_readsCondition 41 = .ok (.invokevirtual 161, 3) := by decide +kernel
theorem dX12_readsCondition_44 : decode cX12_readsCondition 44 = .ok (.bipush 33, 2) := by decide +kernel
theorem dX12_readsCondition_46 : decode cX12_readsCondition 46 = .ok (.if_icmp .eq 12, 3) := by decide +kernel
theorem dX12_readsCondition_49 : decode cX12_readsCondition 49 = .ok (.aload_n 0, 1) := by decide +kernel
theorem dX12_readsCondition_50 : decode cX12_readsCondition 50 = .ok (.invokevirtual 161, 3) := by decide +kernel
theorem dX12_readsCondition_53 : decode cX12_readsCondition 53 = .ok (.bipush 40, 2) := by decide +kernel
theorem dX12_readsCondition_55 : decode cX12_readsCondition 55 = .ok (.if_icmp .ne 28, 3) := by decide +kernel
theorem dX12_readsCondition_58 : decode cX12_readsCondition 58 = .ok (.aload_n 0, 1) := by decide +kernel
theorem dX12_readsCondition_59 : decode cX12_readsCondition 59 = .ok (.aload_n 0, 1) := by decide +kernel
theorem dX12_readsCondition_60 : decode cX12_readsCondition 60 = .ok (.invokevirtual 161, 3) := by decide +kernel
theorem dX12_readsCondition_63 : decode cX12_readsCondition 63 = .ok (.bipush 33, 2) := by decide +kernel
theorem dX12_readsCondition_65 : decode cX12_readsCondition 65 = .ok (.if_icmp .ne 8, 3) := by decide +kernel
theorem dX12_readsCondition_68 : decode cX12_readsCondition 68 = .ok (.bipush 10, 2) := by decide +kernel
theorem dX12_readsCondition_70 : decode cX12_readsCondition 70 = .ok (.goto 5, 3) := by decide +kernel
theorem dX12_readsCondition_73 : decode cX12_readsCondition 73 = .ok (.bipush 13, 2) := by decide +kernel
theorem dX12_readsCondition_75 : decode cX12_readsCondition 75 = .ok (.invokevirtual 195, 3) := by decide +kernel
theorem dX12_readsCondition_78 : decode cX12_readsCondition 78 = .ok (.ifCond .ne (-38), 3) := by decide +kernel
theorem dX12_readsCondition_81 : decode cX12_readsCondition 81 = .ok (.iconst 0, 1) := by decide +kernel
theorem dX12_readsCondition_82 : decode cX12_readsCondition 82 = .ok (.ireturn, 1) := by decide +kernel
theorem dX12_readsCondition_83 : decode cX12_readsCondition 83 = .ok (.aload_n 0, 1) := by decide +kernel
theorem dX12_readsCondition_84 : decode cX12_readsCondition 84 = .ok (.invokevirtual 223, 3) := by decide +kernel
theorem dX12_readsCondition_87 : decode cX12_readsCondition 87 = .ok (.ifCond .ne 5, 3) := by decide +kernel
theorem dX12_readsCondition_90 : decode cX12_readsCondition 90 = .ok (.iconst 0, 1) := by decide +kernel
theorem dX12_readsCondition_91 : decode cX12_readsCondition 91 = .ok (.ireturn, 1) := by decide +kernel
theorem dX12_readsCondition_92 : decode cX12_readsCondition 92 = .ok (.aload_n 0, 1) := by decide +kernel
theorem dX12_readsCondition_93 : decode cX12_readsCondition 93 = .ok (.invokevirtual 161, 3) := by decide +kernel
theorem dX12_readsCondition_96 : decode cX12_readsCondition 96 = .ok (.bipush 41, 2) := by decide +kernel
theorem dX12_readsCondition_98 : decode cX12_readsCondition 98 = .ok (.if_icmp .ne 54, 3) := by decide +kernel
theorem dX12_readsCondition_101 : decode cX12_readsCondition 101 = .ok (.aload_n 0, 1) := by decide +kernel
theorem dX12_readsCondition_102 : decode cX12_readsCondition 102 = .ok (.iconst 1, 1) := by decide +kernel
theorem dX12_readsCondition_103 : decode cX12_readsCondition 103 = .ok (.invokevirtual 226, 3) := by decide +kernel
theorem dX12_readsCondition_106 : decode cX12_readsCondition 106 = .ok (.aload_n 0, 1) := by decide +kernel
theorem dX12_readsCondition_107 : decode cX12_readsCondition 107 = .ok (.aload_n 0, 1) := by decide +kernel
theorem dX12_readsCondition_108 : decode cX12_readsCondition 108 = .ok (.getfield 185, 3) := by decide +kernel
theorem dX12_readsCondition_111 : decode cX12_readsCondition 111 = .ok (.iconst 1, 1) := by decide +kernel
theorem dX12_readsCondition_112 : decode cX12_readsCondition 112 = .ok (.isub, 1) := by decide +kernel
theorem dX12_readsCondition_113 : decode cX12_readsCondition 113 = .ok (.putfield 185, 3) := by decide +kernel
theorem dX12_readsCondition_116 : decode cX12_readsCondition 116 = .ok (.aload_n 0, 1) := by decide +kernel
theorem dX12_readsCondition_117 : decode cX12_readsCondition 117 = .ok (.aload_n 0, 1) := by decide +kernel
theorem dX12_readsCondition_118 : decode cX12_readsCondition 118 = .ok (.getfield 182, 3) := by decide +kernel
theorem dX12_readsCondition_121 : decode cX12_readsCondition 121 = .ok (.iconst 1, 1) := by decide +kernel
theorem dX12_readsCondition_122 : decode cX12_readsCondition 122 = .ok (.isub, 1) := by decide +kernel
theorem dX12_readsCondition_123 : decode cX12_readsCondition 123 = .ok (.putfield 182, 3) := by decide +kernel
theorem dX12_readsCondition_126 : decode cX12_readsCondition 126 = .ok (.aload_n 0, 1) := by decide +kernel
theorem dX12_readsCondition_127 : decode cX12_readsCondition 127 = .ok (.aload_n 0, 1) := by decide +kernel
theorem dX12_readsCondition_128 : decode cX12_readsCondition 128 = .ok (.getfield 155, 3) := by decide +kernel
theorem dX12_readsCondition_131 : decode cX12_readsCondition 131 = .ok (.iconst 1, 1) := by decide +kernel
theorem dX12_readsCondition_132 : decode cX12_readsCondition 132 = .ok (.iadd, 1) := by decide +kernel
theorem dX12_readsCondition_133 : decode cX12_readsCondition 133 = .ok (.putfield 155, 3) := by decide +kernel
theorem dX12_readsCondition_136 : decode cX12_readsCondition 136 = .ok (.aload_n 0, 1) := by decide +kernel
theorem dX12_readsCondition_137 : decode cX12_readsCondition 137 = .ok (.getfield 185, 3) := by decide +kernel
theorem dX12_readsCondition_140 : decode cX12_readsCondition 140 = .ok (.ifCond .ne 5, 3) := by decide +kernel
theorem dX12_readsCondition_143 : decode cX12_readsCondition 143 = .ok (.iconst 1, 1) := by decide +kernel
theorem dX12_readsCondition_144 : decode cX12_readsCondition 144 = .ok (.ireturn, 1) := by decide +kernel
theorem dX12_readsCondition_145 : decode cX12_readsCondition 145 = .ok (.aload_n 0, 1) := by decide +kernel
theorem dX12_readsCondition_146 : decode cX12_readsCondition 146 = .ok (.invokevirtual 220, 3) := by decide +kernel
theorem dX12_readsCondition_149 : decode cX12_readsCondition 149 = .ok (.goto (-57), 3) := by decide +kernel
theorem dX12_readsCondition_152 : decode cX12_readsCondition 152 = .ok (.aload_n 0, 1) := by decide +kernel
theorem dX12_readsCondition_153 : decode cX12_readsCondition 153 = .ok (.invokevirtual 161, 3) := by decide +kernel
theorem dX12_readsCondition_156 : decode cX12_readsCondition 156 = .ok (.bipush 38, 2) := by decide +kernel
theorem dX12_readsCondition_158 : decode cX12_readsCondition 158 = .ok (.if_icmp .eq 22, 3) := by decide +kernel
theorem dX12_readsCondition_161 : decode cX12_readsCondition 161 = .ok (.aload_n 0, 1) := by decide +kernel
theorem dX12_readsCondition_162 : decode cX12_readsCondition 162 = .ok (.invokevirtual 161, 3) := by decide +kernel
theorem dX12_readsCondition_165 : decode cX12_readsCondition 165 = .ok (.bipush 124, 2) := by decide +kernel
theorem dX12_readsCondition_167 : decode cX12_readsCondition 167 = .ok (.if_icmp .eq 13, 3) := by decide +kernel
theorem dX12_readsCondition_170 : decode cX12_readsCondition 170 = .ok (.aload_n 0, 1) := by decide +kernel
theorem dX12_readsCondition_171 : decode cX12_readsCondition 171 = .ok (.iconst 1, 1) := by decide +kernel
theorem dX12_readsCondition_172 : decode cX12_readsCondition 172 = .ok (.aload_n 0, 1) := by decide +kernel
theorem dX12_readsCondition_173 : decode cX12_readsCondition 173 = .ok (.getfield 155, 3) := by decide +kernel
theorem dX12_readsCondition_176 : decode cX12_readsCondition 176 = .ok (.invokevirtual 168, 3) := by decide +kernel
theorem dX12_readsCondition_179 : decode cX12_readsCondition 179 = .ok (.ireturn, 1) := by decide +kernel
theorem dX12_readsCondition_180 : decode cX12_readsCondition 180 = .ok (.aload_n 0, 1) := by decide +kernel
theorem dX12_readsCondition_181 : decode cX12_readsCondition 181 = .ok (.aload_n 0, 1) := by decide +kernel
theorem dX12_readsCondition_182 : decode cX12_readsCondition 182 = .ok (.invokevirtual 161, 3) := by decide +kernel
theorem dX12_readsCondition_185 : decode cX12_readsCondition 185 = .ok (.bipush 124, 2) := by decide +kernel
theorem dX12_readsCondition_187 : decode cX12_readsCondition 187 = .ok (.if_icmp .ne 7, 3) := by decide +kernel
theorem dX12_readsCondition_190 : decode cX12_readsCondition 190 = .ok (.iconst 1, 1) := by decide +kernel
theorem dX12_readsCondition_191 : decode cX12_readsCondition 191 = .ok (.goto 4, 3) := by decide +kernel
theorem dX12_readsCondition_194 : decode cX12_readsCondition 194 = .ok (.iconst 0, 1) := by decide +kernel
theorem dX12_readsCondition_195 : decode cX12_readsCondition 195 = .ok (.invokevirtual 226, 3) := by decide +kernel
theorem dX12_readsCondition_198 : decode cX12_readsCondition 198 = .ok (.aload_n 0, 1) := by decide +kernel
theorem dX12_readsCondition_199 : decode cX12_readsCondition 199 = .ok (.aload_n 0, 1) := by decide +kernel
theorem dX12_readsCondition_200 : decode cX12_readsCondition 200 = .ok (.invokevirtual 161, 3) := by decide +kernel
theorem dX12_readsCondition_203 : decode cX12_readsCondition 203 = .ok (.bipush 38, 2) := by decide +kernel
theorem dX12_readsCondition_205 : decode cX12_readsCondition 205 = .ok (.if_icmp .ne 8, 3) := by decide +kernel
theorem dX12_readsCondition_208 : decode cX12_readsCondition 208 = .ok (.bipush 11, 2) := by decide +kernel
theorem dX12_readsCondition_210 : decode cX12_readsCondition 210 = .ok (.goto 5, 3) := by decide +kernel
theorem dX12_readsCondition_213 : decode cX12_readsCondition 213 = .ok (.bipush 12, 2) := by decide +kernel
theorem dX12_readsCondition_215 : decode cX12_readsCondition 215 = .ok (.invokevirtual 229, 3) := by decide +kernel
theorem dX12_readsCondition_218 : decode cX12_readsCondition 218 = .ok (.goto (-178), 3) := by decide +kernel
theorem rX12_readsCondition : (∀ (d : Nat) (x : Nat) (st : List Value) (h : fk_H), fk_ev d qX12_readsCondition 0 [.ref x] st h = fk_ev d qX12_readsCondition 1 [.ref x] (.ref x :: st) h) ∧
  (∀ (d : Nat) (L : List Value)   (N : Nat) (y : Nat → Nat → Int32) (l : Nat → Nat → Int64), fk_ev (d + 1) qX12_readsCondition 1 L (.ref 246 :: []) (fk_E N y l) = (fk_ev d qX12_here 0 [.ref 246] [] (fk_E N y l)).bind fun o => fk_ev (d + 1) qX12_readsCondition 4 L (o.1.toList ++ []) o.2) ∧
  (∀ (d : Nat) (L st : List Value) (h : fk_H), fk_ev d qX12_readsCondition 4 L st h = fk_ev d qX12_readsCondition 6 L (.int (nI 40) :: st) h) ∧
  (∀ (d : Nat) (L : List Value) (x y : Int32) (st : List Value) (h : fk_H), fk_ev d qX12_readsCondition 6 L (.int y :: .int x :: st) h = if x = y then fk_ev d qX12_readsCondition 19 L st h else fk_ev d qX12_readsCondition 9 L st h) ∧
  (∀ (d : Nat) (x : Nat) (st : List Value) (h : fk_H), fk_ev d qX12_readsCondition 9 [.ref x] st h = fk_ev d qX12_readsCondition 10 [.ref x] (.ref x :: st) h) ∧
  (∀ (d : Nat) (L st : List Value) (h : fk_H), fk_ev d qX12_readsCondition 10 L st h = fk_ev d qX12_readsCondition 11 L (.int (nI 1) :: st) h) ∧
  (∀ (d : Nat) (x : Nat) (st : List Value) (h : fk_H), fk_ev d qX12_readsCondition 11 [.ref x] st h = fk_ev d qX12_readsCondition 12 [.ref x] (.ref x :: st) h) ∧
  (∀ (d : Nat) (L st : List Value) (N : Nat) (y : Nat → Nat → Int32) (l : Nat → Nat → Int64), fk_ev d qX12_readsCondition 12 L (.ref 246 :: st) (fk_E N y l) = fk_ev d qX12_readsCondition 15 L (.int (y 246 11) :: st) (fk_E N y l)) ∧
  (∀ (d : Nat) (L : List Value) (x0 : Int32) (x1 : Int32)  (N : Nat) (y : Nat → Nat → Int32) (l : Nat → Nat → Int64), fk_ev (d + 1) qX12_readsCondition 15 L (.int x1 :: .int x0 :: .ref 246 :: []) (fk_E N y l) = (fk_ev d qX12_wrongAt 0 [.ref 246, .int x0, .int x1] [] (fk_E N y l)).bind fun o => fk_ev (d + 1) qX12_readsCondition 18 L (o.1.toList ++ []) o.2) ∧
  (∀ (d : Nat) (L : List Value) (h : fk_H), fk_ev d qX12_readsCondition 18 L [.int (nI 0)] h = some (some (.int (nI 0)), h)) ∧
  (∀ (d : Nat) (L : List Value) (h : fk_H), fk_ev d qX12_readsCondition 18 L [.int (nI 1)] h = some (some (.int (nI 1)), h)) ∧
  (∀ (d : Nat) (L : List Value) (p : Prop) [Decidable p] (h : fk_H), fk_ev d qX12_readsCondition 18 L [.int (fk_b p)] h = some (some (.int (fk_b p)), h)) ∧
  (∀ (d : Nat) (L : List Value) (x : Int32) (h : fk_H), (x = nI 0 ∨ x = nI 1) → fk_ev d qX12_readsCondition 18 L [.int x] h = some (some (.int x), h)) ∧
  (∀ (d : Nat) (x : Nat) (st : List Value) (h : fk_H), fk_ev d qX12_readsCondition 19 [.ref x] st h = fk_ev d qX12_readsCondition 20 [.ref x] (.ref x :: st) h) ∧
  (∀ (d : Nat) (L st : List Value) (h : fk_H), fk_ev d qX12_readsCondition 20 L st h = fk_ev d qX12_readsCondition 21 L (.int (nI 0) :: st) h) ∧
  (∀ (d : Nat) (L st : List Value) (N : Nat) (y : Nat → Nat → Int32) (l : Nat → Nat → Int64) (v : Int32), fk_ev d qX12_readsCondition 21 L (.int v :: .ref 246 :: st) (fk_E N y l) = fk_ev d qX12_readsCondition 24 L st (fk_E N (fk_u y 246 15 v) l)) ∧
  (∀ (d : Nat) (x : Nat) (st : List Value) (h : fk_H), fk_ev d qX12_readsCondition 24 [.ref x] st h = fk_ev d qX12_readsCondition 25 [.ref x] (.ref x :: st) h) ∧
  (∀ (d : Nat) (L st : List Value) (h : fk_H), fk_ev d qX12_readsCondition 25 L st h = fk_ev d qX12_readsCondition 26 L (.int (nI 0) :: st) h) ∧
  (∀ (d : Nat) (L st : List Value) (N : Nat) (y : Nat → Nat → Int32) (l : Nat → Nat → Int64) (v : Int32), fk_ev d qX12_readsCondition 26 L (.int v :: .ref 246 :: st) (fk_E N y l) = fk_ev d qX12_readsCondition 29 L st (fk_E N (fk_u y 246 17 v) l)) ∧
  (∀ (d : Nat) (x : Nat) (st : List Value) (h : fk_H), fk_ev d qX12_readsCondition 29 [.ref x] st h = fk_ev d qX12_readsCondition 30 [.ref x] (.ref x :: st) h) ∧
  (∀ (d : Nat) (L st : List Value) (h : fk_H), fk_ev d qX12_readsCondition 30 L st h = fk_ev d qX12_readsCondition 32 L (.int (nI 13) :: st) h) ∧
  (∀ (d : Nat) (L : List Value) (x0 : Int32)  (N : Nat) (y : Nat → Nat → Int32) (l : Nat → Nat → Int64), fk_ev (d + 1) qX12_readsCondition 32 L (.int x0 :: .ref 246 :: []) (fk_E N y l) = (fk_ev d qX12_opens 0 [.ref 246, .int x0] [] (fk_E N y l)).bind fun o => fk_ev (d + 1) qX12_readsCondition 35 L (o.1.toList ++ []) o.2) ∧
  (∀ (d : Nat) (L : List Value) (x : Int32) (st : List Value) (h : fk_H), fk_ev d qX12_readsCondition 35 L (.int x :: st) h = if ¬ x = nI 0 then fk_ev d qX12_readsCondition 40 L st h else fk_ev d qX12_readsCondition 38 L st h) ∧
  (∀ (d : Nat) (L st : List Value) (h : fk_H), fk_ev d qX12_readsCondition 38 L st h = fk_ev d qX12_readsCondition 39 L (.int (nI 0) :: st) h) ∧
  (∀ (d : Nat) (L : List Value) (h : fk_H), fk_ev d qX12_readsCondition 39 L [.int (nI 0)] h = some (some (.int (nI 0)), h)) ∧
  (∀ (d : Nat) (L : List Value) (h : fk_H), fk_ev d qX12_readsCondition 39 L [.int (nI 1)] h = some (some (.int (nI 1)), h)) ∧
  (∀ (d : Nat) (L : List Value) (p : Prop) [Decidable p] (h : fk_H), fk_ev d qX12_readsCondition 39 L [.int (fk_b p)] h = some (some (.int (fk_b p)), h)) ∧
  (∀ (d : Nat) (L : List Value) (x : Int32) (h : fk_H), (x = nI 0 ∨ x = nI 1) → fk_ev d qX12_readsCondition 39 L [.int x] h = some (some (.int x), h)) ∧
  (∀ (d : Nat) (L : List Value)   (N : Nat) (y : Nat → Nat → Int32) (l : Nat → Nat → Int64), fk_ev (d + 1) qX12_readsCondition 41 L (.ref 246 :: []) (fk_E N y l) = (fk_ev d qX12_here 0 [.ref 246] [] (fk_E N y l)).bind fun o => fk_ev (d + 1) qX12_readsCondition 44 L (o.1.toList ++ []) o.2) ∧
  (∀ (d : Nat) (L st : List Value) (h : fk_H), fk_ev d qX12_readsCondition 44 L st h = fk_ev d qX12_readsCondition 46 L (.int (nI 33) :: st) h) ∧
  (∀ (d : Nat) (L : List Value) (x y : Int32) (st : List Value) (h : fk_H), fk_ev d qX12_readsCondition 46 L (.int y :: .int x :: st) h = if x = y then fk_ev d qX12_readsCondition 58 L st h else fk_ev d qX12_readsCondition 49 L st h) ∧
  (∀ (d : Nat) (x : Nat) (st : List Value) (h : fk_H), fk_ev d qX12_readsCondition 49 [.ref x] st h = fk_ev d qX12_readsCondition 50 [.ref x] (.ref x :: st) h) ∧
  (∀ (d : Nat) (L : List Value)   (N : Nat) (y : Nat → Nat → Int32) (l : Nat → Nat → Int64), fk_ev (d + 1) qX12_readsCondition 50 L (.ref 246 :: []) (fk_E N y l) = (fk_ev d qX12_here 0 [.ref 246] [] (fk_E N y l)).bind fun o => fk_ev (d + 1) qX12_readsCondition 53 L (o.1.toList ++ []) o.2) ∧
  (∀ (d : Nat) (L st : List Value) (h : fk_H), fk_ev d qX12_readsCondition 53 L st h = fk_ev d qX12_readsCondition 55 L (.int (nI 40) :: st) h) ∧
  (∀ (d : Nat) (L : List Value) (x y : Int32) (st : List Value) (h : fk_H), fk_ev d qX12_readsCondition 55 L (.int y :: .int x :: st) h = if ¬ x = y then fk_ev d qX12_readsCondition 83 L st h else fk_ev d qX12_readsCondition 58 L st h) ∧
  (∀ (d : Nat) (x : Nat) (st : List Value) (h : fk_H), fk_ev d qX12_readsCondition 58 [.ref x] st h = fk_ev d qX12_readsCondition 59 [.ref x] (.ref x :: st) h) ∧
  (∀ (d : Nat) (x : Nat) (st : List Value) (h : fk_H), fk_ev d qX12_readsCondition 59 [.ref x] st h = fk_ev d qX12_readsCondition 60 [.ref x] (.ref x :: st) h) ∧
  (∀ (d : Nat) (L : List Value)  (w0 : Value) (N : Nat) (y : Nat → Nat → Int32) (l : Nat → Nat → Int64), fk_ev (d + 1) qX12_readsCondition 60 L (.ref 246 :: [w0]) (fk_E N y l) = (fk_ev d qX12_here 0 [.ref 246] [] (fk_E N y l)).bind fun o => fk_ev (d + 1) qX12_readsCondition 63 L (o.1.toList ++ [w0]) o.2) ∧
  (∀ (d : Nat) (L st : List Value) (h : fk_H), fk_ev d qX12_readsCondition 63 L st h = fk_ev d qX12_readsCondition 65 L (.int (nI 33) :: st) h) ∧
  (∀ (d : Nat) (L : List Value) (x y : Int32) (st : List Value) (h : fk_H), fk_ev d qX12_readsCondition 65 L (.int y :: .int x :: st) h = if ¬ x = y then fk_ev d qX12_readsCondition 73 L st h else fk_ev d qX12_readsCondition 68 L st h) ∧
  (∀ (d : Nat) (L st : List Value) (h : fk_H), fk_ev d qX12_readsCondition 68 L st h = fk_ev d qX12_readsCondition 70 L (.int (nI 10) :: st) h) ∧
  (∀ (d : Nat) (L st : List Value) (h : fk_H), fk_ev d qX12_readsCondition 70 L st h = fk_ev d qX12_readsCondition 75 L st h) ∧
  (∀ (d : Nat) (L st : List Value) (h : fk_H), fk_ev d qX12_readsCondition 73 L st h = fk_ev d qX12_readsCondition 75 L (.int (nI 13) :: st) h) ∧
  (∀ (d : Nat) (L : List Value) (x0 : Int32)  (N : Nat) (y : Nat → Nat → Int32) (l : Nat → Nat → Int64), fk_ev (d + 1) qX12_readsCondition 75 L (.int x0 :: .ref 246 :: []) (fk_E N y l) = (fk_ev d qX12_opens 0 [.ref 246, .int x0] [] (fk_E N y l)).bind fun o => fk_ev (d + 1) qX12_readsCondition 78 L (o.1.toList ++ []) o.2) ∧
  (∀ (d : Nat) (L : List Value) (x : Int32) (st : List Value) (h : fk_H), fk_ev d qX12_readsCondition 78 L (.int x :: st) h = if ¬ x = nI 0 then fk_ev d qX12_readsCondition 40 L st h else fk_ev d qX12_readsCondition 81 L st h) ∧
  (∀ (d : Nat) (L st : List Value) (h : fk_H), fk_ev d qX12_readsCondition 81 L st h = fk_ev d qX12_readsCondition 82 L (.int (nI 0) :: st) h) ∧
  (∀ (d : Nat) (L : List Value) (h : fk_H), fk_ev d qX12_readsCondition 82 L [.int (nI 0)] h = some (some (.int (nI 0)), h)) ∧
  (∀ (d : Nat) (L : List Value) (h : fk_H), fk_ev d qX12_readsCondition 82 L [.int (nI 1)] h = some (some (.int (nI 1)), h)) ∧
  (∀ (d : Nat) (L : List Value) (p : Prop) [Decidable p] (h : fk_H), fk_ev d qX12_readsCondition 82 L [.int (fk_b p)] h = some (some (.int (fk_b p)), h)) ∧
  (∀ (d : Nat) (L : List Value) (x : Int32) (h : fk_H), (x = nI 0 ∨ x = nI 1) → fk_ev d qX12_readsCondition 82 L [.int x] h = some (some (.int x), h)) ∧
  (∀ (d : Nat) (x : Nat) (st : List Value) (h : fk_H), fk_ev d qX12_readsCondition 83 [.ref x] st h = fk_ev d qX12_readsCondition 84 [.ref x] (.ref x :: st) h) ∧
  (∀ (d : Nat) (L : List Value)   (N : Nat) (y : Nat → Nat → Int32) (l : Nat → Nat → Int64), fk_ev (d + 1) qX12_readsCondition 84 L (.ref 246 :: []) (fk_E N y l) = (fk_ev d qX12_readsCompared 0 [.ref 246, .null] [] (fk_E N y l)).bind fun o => fk_ev (d + 1) qX12_readsCondition 87 L (o.1.toList ++ []) o.2) ∧
  (∀ (d : Nat) (L : List Value) (x : Int32) (st : List Value) (h : fk_H), fk_ev d qX12_readsCondition 87 L (.int x :: st) h = if ¬ x = nI 0 then fk_ev d qX12_readsCondition 92 L st h else fk_ev d qX12_readsCondition 90 L st h) ∧
  (∀ (d : Nat) (L st : List Value) (h : fk_H), fk_ev d qX12_readsCondition 90 L st h = fk_ev d qX12_readsCondition 91 L (.int (nI 0) :: st) h) ∧
  (∀ (d : Nat) (L : List Value) (h : fk_H), fk_ev d qX12_readsCondition 91 L [.int (nI 0)] h = some (some (.int (nI 0)), h)) ∧
  (∀ (d : Nat) (L : List Value) (h : fk_H), fk_ev d qX12_readsCondition 91 L [.int (nI 1)] h = some (some (.int (nI 1)), h)) ∧
  (∀ (d : Nat) (L : List Value) (p : Prop) [Decidable p] (h : fk_H), fk_ev d qX12_readsCondition 91 L [.int (fk_b p)] h = some (some (.int (fk_b p)), h)) ∧
  (∀ (d : Nat) (L : List Value) (x : Int32) (h : fk_H), (x = nI 0 ∨ x = nI 1) → fk_ev d qX12_readsCondition 91 L [.int x] h = some (some (.int x), h)) ∧
  (∀ (d : Nat) (L : List Value)   (N : Nat) (y : Nat → Nat → Int32) (l : Nat → Nat → Int64), fk_ev (d + 1) qX12_readsCondition 93 L (.ref 246 :: []) (fk_E N y l) = (fk_ev d qX12_here 0 [.ref 246] [] (fk_E N y l)).bind fun o => fk_ev (d + 1) qX12_readsCondition 96 L (o.1.toList ++ []) o.2) ∧
  (∀ (d : Nat) (L st : List Value) (h : fk_H), fk_ev d qX12_readsCondition 96 L st h = fk_ev d qX12_readsCondition 98 L (.int (nI 41) :: st) h) ∧
  (∀ (d : Nat) (L : List Value) (x y : Int32) (st : List Value) (h : fk_H), fk_ev d qX12_readsCondition 98 L (.int y :: .int x :: st) h = if ¬ x = y then fk_ev d qX12_readsCondition 152 L st h else fk_ev d qX12_readsCondition 101 L st h) ∧
  (∀ (d : Nat) (x : Nat) (st : List Value) (h : fk_H), fk_ev d qX12_readsCondition 101 [.ref x] st h = fk_ev d qX12_readsCondition 102 [.ref x] (.ref x :: st) h) ∧
  (∀ (d : Nat) (L st : List Value) (h : fk_H), fk_ev d qX12_readsCondition 102 L st h = fk_ev d qX12_readsCondition 103 L (.int (nI 1) :: st) h) ∧
  (∀ (d : Nat) (L : List Value) (x0 : Int32)  (N : Nat) (y : Nat → Nat → Int32) (l : Nat → Nat → Int64), fk_ev (d + 1) qX12_readsCondition 103 L (.int x0 :: .ref 246 :: []) (fk_E N y l) = (fk_ev d qX12_lands 0 [.ref 246, .int x0, .null] [] (fk_E N y l)).bind fun o => fk_ev (d + 1) qX12_readsCondition 106 L (o.1.toList ++ []) o.2) ∧
  (∀ (d : Nat) (x : Nat) (st : List Value) (h : fk_H), fk_ev d qX12_readsCondition 106 [.ref x] st h = fk_ev d qX12_readsCondition 107 [.ref x] (.ref x :: st) h) ∧
  (∀ (d : Nat) (x : Nat) (st : List Value) (h : fk_H), fk_ev d qX12_readsCondition 107 [.ref x] st h = fk_ev d qX12_readsCondition 108 [.ref x] (.ref x :: st) h) ∧
  (∀ (d : Nat) (L st : List Value) (N : Nat) (y : Nat → Nat → Int32) (l : Nat → Nat → Int64), fk_ev d qX12_readsCondition 108 L (.ref 246 :: st) (fk_E N y l) = fk_ev d qX12_readsCondition 111 L (.int (y 246 17) :: st) (fk_E N y l)) ∧
  (∀ (d : Nat) (L st : List Value) (h : fk_H), fk_ev d qX12_readsCondition 111 L st h = fk_ev d qX12_readsCondition 112 L (.int (nI 1) :: st) h) ∧
  (∀ (d : Nat) (L : List Value) (x y : Int32) (st : List Value) (h : fk_H), fk_ev d qX12_readsCondition 112 L (.int y :: .int x :: st) h = fk_ev d qX12_readsCondition 113 L (.int (x - y) :: st) h) ∧
  (∀ (d : Nat) (L st : List Value) (N : Nat) (y : Nat → Nat → Int32) (l : Nat → Nat → Int64) (v : Int32), fk_ev d qX12_readsCondition 113 L (.int v :: .ref 246 :: st) (fk_E N y l) = fk_ev d qX12_readsCondition 116 L st (fk_E N (fk_u y 246 17 v) l)) ∧
  (∀ (d : Nat) (x : Nat) (st : List Value) (h : fk_H), fk_ev d qX12_readsCondition 116 [.ref x] st h = fk_ev d qX12_readsCondition 117 [.ref x] (.ref x :: st) h) ∧
  (∀ (d : Nat) (x : Nat) (st : List Value) (h : fk_H), fk_ev d qX12_readsCondition 117 [.ref x] st h = fk_ev d qX12_readsCondition 118 [.ref x] (.ref x :: st) h) ∧
  (∀ (d : Nat) (L st : List Value) (N : Nat) (y : Nat → Nat → Int32) (l : Nat → Nat → Int64), fk_ev d qX12_readsCondition 118 L (.ref 246 :: st) (fk_E N y l) = fk_ev d qX12_readsCondition 121 L (.int (y 246 15) :: st) (fk_E N y l)) ∧
  (∀ (d : Nat) (L st : List Value) (h : fk_H), fk_ev d qX12_readsCondition 121 L st h = fk_ev d qX12_readsCondition 122 L (.int (nI 1) :: st) h) ∧
  (∀ (d : Nat) (L : List Value) (x y : Int32) (st : List Value) (h : fk_H), fk_ev d qX12_readsCondition 122 L (.int y :: .int x :: st) h = fk_ev d qX12_readsCondition 123 L (.int (x - y) :: st) h) ∧
  (∀ (d : Nat) (L st : List Value) (N : Nat) (y : Nat → Nat → Int32) (l : Nat → Nat → Int64) (v : Int32), fk_ev d qX12_readsCondition 123 L (.int v :: .ref 246 :: st) (fk_E N y l) = fk_ev d qX12_readsCondition 126 L st (fk_E N (fk_u y 246 15 v) l)) ∧
  (∀ (d : Nat) (x : Nat) (st : List Value) (h : fk_H), fk_ev d qX12_readsCondition 126 [.ref x] st h = fk_ev d qX12_readsCondition 127 [.ref x] (.ref x :: st) h) ∧
  (∀ (d : Nat) (x : Nat) (st : List Value) (h : fk_H), fk_ev d qX12_readsCondition 127 [.ref x] st h = fk_ev d qX12_readsCondition 128 [.ref x] (.ref x :: st) h) ∧
  (∀ (d : Nat) (L st : List Value) (N : Nat) (y : Nat → Nat → Int32) (l : Nat → Nat → Int64), fk_ev d qX12_readsCondition 128 L (.ref 246 :: st) (fk_E N y l) = fk_ev d qX12_readsCondition 131 L (.int (y 246 11) :: st) (fk_E N y l)) ∧
  (∀ (d : Nat) (L st : List Value) (h : fk_H), fk_ev d qX12_readsCondition 131 L st h = fk_ev d qX12_readsCondition 132 L (.int (nI 1) :: st) h) ∧
  (∀ (d : Nat) (L : List Value) (x y : Int32) (st : List Value) (h : fk_H), fk_ev d qX12_readsCondition 132 L (.int y :: .int x :: st) h = fk_ev d qX12_readsCondition 133 L (.int (x + y) :: st) h) ∧
  (∀ (d : Nat) (L st : List Value) (N : Nat) (y : Nat → Nat → Int32) (l : Nat → Nat → Int64) (v : Int32), fk_ev d qX12_readsCondition 133 L (.int v :: .ref 246 :: st) (fk_E N y l) = fk_ev d qX12_readsCondition 136 L st (fk_E N (fk_u y 246 11 v) l)) ∧
  (∀ (d : Nat) (x : Nat) (st : List Value) (h : fk_H), fk_ev d qX12_readsCondition 136 [.ref x] st h = fk_ev d qX12_readsCondition 137 [.ref x] (.ref x :: st) h) ∧
  (∀ (d : Nat) (L st : List Value) (N : Nat) (y : Nat → Nat → Int32) (l : Nat → Nat → Int64), fk_ev d qX12_readsCondition 137 L (.ref 246 :: st) (fk_E N y l) = fk_ev d qX12_readsCondition 140 L (.int (y 246 17) :: st) (fk_E N y l)) ∧
  (∀ (d : Nat) (L : List Value) (x : Int32) (st : List Value) (h : fk_H), fk_ev d qX12_readsCondition 140 L (.int x :: st) h = if ¬ x = nI 0 then fk_ev d qX12_readsCondition 145 L st h else fk_ev d qX12_readsCondition 143 L st h) ∧
  (∀ (d : Nat) (L st : List Value) (h : fk_H), fk_ev d qX12_readsCondition 143 L st h = fk_ev d qX12_readsCondition 144 L (.int (nI 1) :: st) h) ∧
  (∀ (d : Nat) (L : List Value) (h : fk_H), fk_ev d qX12_readsCondition 144 L [.int (nI 0)] h = some (some (.int (nI 0)), h)) ∧
  (∀ (d : Nat) (L : List Value) (h : fk_H), fk_ev d qX12_readsCondition 144 L [.int (nI 1)] h = some (some (.int (nI 1)), h)) ∧
  (∀ (d : Nat) (L : List Value) (p : Prop) [Decidable p] (h : fk_H), fk_ev d qX12_readsCondition 144 L [.int (fk_b p)] h = some (some (.int (fk_b p)), h)) ∧
  (∀ (d : Nat) (L : List Value) (x : Int32) (h : fk_H), (x = nI 0 ∨ x = nI 1) → fk_ev d qX12_readsCondition 144 L [.int x] h = some (some (.int x), h)) ∧
  (∀ (d : Nat) (x : Nat) (st : List Value) (h : fk_H), fk_ev d qX12_readsCondition 145 [.ref x] st h = fk_ev d qX12_readsCondition 146 [.ref x] (.ref x :: st) h) ∧
  (∀ (d : Nat) (L : List Value)   (N : Nat) (y : Nat → Nat → Int32) (l : Nat → Nat → Int64), fk_ev (d + 1) qX12_readsCondition 146 L (.ref 246 :: []) (fk_E N y l) = (fk_ev d qX12_endsPiece 0 [.ref 246] [] (fk_E N y l)).bind fun o => fk_ev (d + 1) qX12_readsCondition 149 L (o.1.toList ++ []) o.2) ∧
  (∀ (d : Nat) (L st : List Value) (h : fk_H), fk_ev d qX12_readsCondition 149 L st h = fk_ev d qX12_readsCondition 92 L st h) ∧
  (∀ (d : Nat) (x : Nat) (st : List Value) (h : fk_H), fk_ev d qX12_readsCondition 152 [.ref x] st h = fk_ev d qX12_readsCondition 153 [.ref x] (.ref x :: st) h) ∧
  (∀ (d : Nat) (L : List Value)   (N : Nat) (y : Nat → Nat → Int32) (l : Nat → Nat → Int64), fk_ev (d + 1) qX12_readsCondition 153 L (.ref 246 :: []) (fk_E N y l) = (fk_ev d qX12_here 0 [.ref 246] [] (fk_E N y l)).bind fun o => fk_ev (d + 1) qX12_readsCondition 156 L (o.1.toList ++ []) o.2) ∧
  (∀ (d : Nat) (L st : List Value) (h : fk_H), fk_ev d qX12_readsCondition 156 L st h = fk_ev d qX12_readsCondition 158 L (.int (nI 38) :: st) h) ∧
  (∀ (d : Nat) (L : List Value) (x y : Int32) (st : List Value) (h : fk_H), fk_ev d qX12_readsCondition 158 L (.int y :: .int x :: st) h = if x = y then fk_ev d qX12_readsCondition 180 L st h else fk_ev d qX12_readsCondition 161 L st h) ∧
  (∀ (d : Nat) (x : Nat) (st : List Value) (h : fk_H), fk_ev d qX12_readsCondition 161 [.ref x] st h = fk_ev d qX12_readsCondition 162 [.ref x] (.ref x :: st) h) ∧
  (∀ (d : Nat) (L : List Value)   (N : Nat) (y : Nat → Nat → Int32) (l : Nat → Nat → Int64), fk_ev (d + 1) qX12_readsCondition 162 L (.ref 246 :: []) (fk_E N y l) = (fk_ev d qX12_here 0 [.ref 246] [] (fk_E N y l)).bind fun o => fk_ev (d + 1) qX12_readsCondition 165 L (o.1.toList ++ []) o.2) ∧
  (∀ (d : Nat) (L st : List Value) (h : fk_H), fk_ev d qX12_readsCondition 165 L st h = fk_ev d qX12_readsCondition 167 L (.int (nI 124) :: st) h) ∧
  (∀ (d : Nat) (L : List Value) (x y : Int32) (st : List Value) (h : fk_H), fk_ev d qX12_readsCondition 167 L (.int y :: .int x :: st) h = if x = y then fk_ev d qX12_readsCondition 180 L st h else fk_ev d qX12_readsCondition 170 L st h) ∧
  (∀ (d : Nat) (x : Nat) (st : List Value) (h : fk_H), fk_ev d qX12_readsCondition 170 [.ref x] st h = fk_ev d qX12_readsCondition 171 [.ref x] (.ref x :: st) h) ∧
  (∀ (d : Nat) (L st : List Value) (h : fk_H), fk_ev d qX12_readsCondition 171 L st h = fk_ev d qX12_readsCondition 172 L (.int (nI 1) :: st) h) ∧
  (∀ (d : Nat) (x : Nat) (st : List Value) (h : fk_H), fk_ev d qX12_readsCondition 172 [.ref x] st h = fk_ev d qX12_readsCondition 173 [.ref x] (.ref x :: st) h) ∧
  (∀ (d : Nat) (L st : List Value) (N : Nat) (y : Nat → Nat → Int32) (l : Nat → Nat → Int64), fk_ev d qX12_readsCondition 173 L (.ref 246 :: st) (fk_E N y l) = fk_ev d qX12_readsCondition 176 L (.int (y 246 11) :: st) (fk_E N y l)) ∧
  (∀ (d : Nat) (L : List Value) (x0 : Int32) (x1 : Int32)  (N : Nat) (y : Nat → Nat → Int32) (l : Nat → Nat → Int64), fk_ev (d + 1) qX12_readsCondition 176 L (.int x1 :: .int x0 :: .ref 246 :: []) (fk_E N y l) = (fk_ev d qX12_wrongAt 0 [.ref 246, .int x0, .int x1] [] (fk_E N y l)).bind fun o => fk_ev (d + 1) qX12_readsCondition 179 L (o.1.toList ++ []) o.2) ∧
  (∀ (d : Nat) (L : List Value) (h : fk_H), fk_ev d qX12_readsCondition 179 L [.int (nI 0)] h = some (some (.int (nI 0)), h)) ∧
  (∀ (d : Nat) (L : List Value) (h : fk_H), fk_ev d qX12_readsCondition 179 L [.int (nI 1)] h = some (some (.int (nI 1)), h)) ∧
  (∀ (d : Nat) (L : List Value) (p : Prop) [Decidable p] (h : fk_H), fk_ev d qX12_readsCondition 179 L [.int (fk_b p)] h = some (some (.int (fk_b p)), h)) ∧
  (∀ (d : Nat) (L : List Value) (x : Int32) (h : fk_H), (x = nI 0 ∨ x = nI 1) → fk_ev d qX12_readsCondition 179 L [.int x] h = some (some (.int x), h)) ∧
  (∀ (d : Nat) (x : Nat) (st : List Value) (h : fk_H), fk_ev d qX12_readsCondition 180 [.ref x] st h = fk_ev d qX12_readsCondition 181 [.ref x] (.ref x :: st) h) ∧
  (∀ (d : Nat) (x : Nat) (st : List Value) (h : fk_H), fk_ev d qX12_readsCondition 181 [.ref x] st h = fk_ev d qX12_readsCondition 182 [.ref x] (.ref x :: st) h) ∧
  (∀ (d : Nat) (L : List Value)  (w0 : Value) (N : Nat) (y : Nat → Nat → Int32) (l : Nat → Nat → Int64), fk_ev (d + 1) qX12_readsCondition 182 L (.ref 246 :: [w0]) (fk_E N y l) = (fk_ev d qX12_here 0 [.ref 246] [] (fk_E N y l)).bind fun o => fk_ev (d + 1) qX12_readsCondition 185 L (o.1.toList ++ [w0]) o.2) ∧
  (∀ (d : Nat) (L st : List Value) (h : fk_H), fk_ev d qX12_readsCondition 185 L st h = fk_ev d qX12_readsCondition 187 L (.int (nI 124) :: st) h) ∧
  (∀ (d : Nat) (L : List Value) (x y : Int32) (st : List Value) (h : fk_H), fk_ev d qX12_readsCondition 187 L (.int y :: .int x :: st) h = if ¬ x = y then fk_ev d qX12_readsCondition 194 L st h else fk_ev d qX12_readsCondition 190 L st h) ∧
  (∀ (d : Nat) (L st : List Value) (h : fk_H), fk_ev d qX12_readsCondition 190 L st h = fk_ev d qX12_readsCondition 191 L (.int (nI 1) :: st) h) ∧
  (∀ (d : Nat) (L st : List Value) (h : fk_H), fk_ev d qX12_readsCondition 191 L st h = fk_ev d qX12_readsCondition 195 L st h) ∧
  (∀ (d : Nat) (L st : List Value) (h : fk_H), fk_ev d qX12_readsCondition 194 L st h = fk_ev d qX12_readsCondition 195 L (.int (nI 0) :: st) h) ∧
  (∀ (d : Nat) (L : List Value) (x0 : Int32)  (N : Nat) (y : Nat → Nat → Int32) (l : Nat → Nat → Int64), fk_ev (d + 1) qX12_readsCondition 195 L (.int x0 :: .ref 246 :: []) (fk_E N y l) = (fk_ev d qX12_lands 0 [.ref 246, .int x0, .null] [] (fk_E N y l)).bind fun o => fk_ev (d + 1) qX12_readsCondition 198 L (o.1.toList ++ []) o.2) ∧
  (∀ (d : Nat) (x : Nat) (st : List Value) (h : fk_H), fk_ev d qX12_readsCondition 198 [.ref x] st h = fk_ev d qX12_readsCondition 199 [.ref x] (.ref x :: st) h) ∧
  (∀ (d : Nat) (x : Nat) (st : List Value) (h : fk_H), fk_ev d qX12_readsCondition 199 [.ref x] st h = fk_ev d qX12_readsCondition 200 [.ref x] (.ref x :: st) h) ∧
  (∀ (d : Nat) (L : List Value)  (w0 : Value) (N : Nat) (y : Nat → Nat → Int32) (l : Nat → Nat → Int64), fk_ev (d + 1) qX12_readsCondition 200 L (.ref 246 :: [w0]) (fk_E N y l) = (fk_ev d qX12_here 0 [.ref 246] [] (fk_E N y l)).bind fun o => fk_ev (d + 1) qX12_readsCondition 203 L (o.1.toList ++ [w0]) o.2) ∧
  (∀ (d : Nat) (L st : List Value) (h : fk_H), fk_ev d qX12_readsCondition 203 L st h = fk_ev d qX12_readsCondition 205 L (.int (nI 38) :: st) h) ∧
  (∀ (d : Nat) (L : List Value) (x y : Int32) (st : List Value) (h : fk_H), fk_ev d qX12_readsCondition 205 L (.int y :: .int x :: st) h = if ¬ x = y then fk_ev d qX12_readsCondition 213 L st h else fk_ev d qX12_readsCondition 208 L st h) ∧
  (∀ (d : Nat) (L st : List Value) (h : fk_H), fk_ev d qX12_readsCondition 208 L st h = fk_ev d qX12_readsCondition 210 L (.int (nI 11) :: st) h) ∧
  (∀ (d : Nat) (L st : List Value) (h : fk_H), fk_ev d qX12_readsCondition 210 L st h = fk_ev d qX12_readsCondition 215 L st h) ∧
  (∀ (d : Nat) (L st : List Value) (h : fk_H), fk_ev d qX12_readsCondition 213 L st h = fk_ev d qX12_readsCondition 215 L (.int (nI 12) :: st) h) ∧
  (∀ (d : Nat) (L : List Value) (x0 : Int32)  (N : Nat) (y : Nat → Nat → Int32) (l : Nat → Nat → Int64), fk_ev (d + 1) qX12_readsCondition 215 L (.int x0 :: .ref 246 :: []) (fk_E N y l) = (fk_ev d qX12_jumps 0 [.ref 246, .int x0] [] (fk_E N y l)).bind fun o => fk_ev (d + 1) qX12_readsCondition 218 L (o.1.toList ++ []) o.2) ∧
  (∀ (d : Nat) (L st : List Value) (h : fk_H), fk_ev d qX12_readsCondition 218 L st h = fk_ev d qX12_readsCondition 40 L st h) := ⟨fun d  x st h => fk_w_aloadn 0 [.ref x] dX12_readsCondition_0 rfl,
  fun d L  N y l  => fk_g_call [] [] rfl lm_12_161 dX12_readsCondition_1 rfl ⟨rfl, by decide⟩ (by simp) fk_at_246,
  fun d L st h => fk_w_bipush dX12_readsCondition_4 (by decide),
  fun d L x y st h => fk_r_icmp_eq dX12_readsCondition_6 (by decide),
  fun d  x st h => fk_w_aloadn 0 [.ref x] dX12_readsCondition_9 rfl,
  fun d L st h => fk_w_iconst dX12_readsCondition_10 (by decide),
  fun d  x st h => fk_w_aloadn 0 [.ref x] dX12_readsCondition_11 rfl,
  fun d L st N y l => fk_g_getI rfl lf_12_155 (by decide) dX12_readsCondition_12 fk_at_246,
  fun d L x0 x1 N y l  => fk_g_call [.int x0, .int x1] [] rfl lm_12_168 dX12_readsCondition_15 rfl ⟨rfl, by decide⟩ (by simp) fk_at_246,
  fun d L h => fk_r_ret dX12_readsCondition_18 (Or.inr (Or.inl ⟨rfl, by decide⟩)),
  fun d L h => fk_r_ret dX12_readsCondition_18 (Or.inr (Or.inl ⟨rfl, by decide⟩)),
  fun d L p _ h => fk_r_ret dX12_readsCondition_18 (Or.inr (Or.inl ⟨rfl, fk_b_01⟩)),
  fun d L x h hx => fk_r_ret dX12_readsCondition_18 (Or.inr (Or.inl ⟨rfl, hx⟩)),
  fun d  x st h => fk_w_aloadn 0 [.ref x] dX12_readsCondition_19 rfl,
  fun d L st h => fk_w_iconst dX12_readsCondition_20 (by decide),
  fun d L st N y l v => fk_g_putI rfl lf_12_182 (by decide) dX12_readsCondition_21 rfl fk_at_246,
  fun d  x st h => fk_w_aloadn 0 [.ref x] dX12_readsCondition_24 rfl,
  fun d L st h => fk_w_iconst dX12_readsCondition_25 (by decide),
  fun d L st N y l v => fk_g_putI rfl lf_12_185 (by decide) dX12_readsCondition_26 rfl fk_at_246,
  fun d  x st h => fk_w_aloadn 0 [.ref x] dX12_readsCondition_29 rfl,
  fun d L st h => fk_w_bipush dX12_readsCondition_30 (by decide),
  fun d L x0 N y l  => fk_g_call [.int x0] [] rfl lm_12_195 dX12_readsCondition_32 rfl ⟨rfl, by decide⟩ (by simp) fk_at_246,
  fun d L x st h => fk_r_if_ne dX12_readsCondition_35 (by decide),
  fun d L st h => fk_w_iconst dX12_readsCondition_38 (by decide),
  fun d L h => fk_r_ret dX12_readsCondition_39 (Or.inr (Or.inl ⟨rfl, by decide⟩)),
  fun d L h => fk_r_ret dX12_readsCondition_39 (Or.inr (Or.inl ⟨rfl, by decide⟩)),
  fun d L p _ h => fk_r_ret dX12_readsCondition_39 (Or.inr (Or.inl ⟨rfl, fk_b_01⟩)),
  fun d L x h hx => fk_r_ret dX12_readsCondition_39 (Or.inr (Or.inl ⟨rfl, hx⟩)),
  fun d L  N y l  => fk_g_call [] [] rfl lm_12_161 dX12_readsCondition_41 rfl ⟨rfl, by decide⟩ (by simp) fk_at_246,
  fun d L st h => fk_w_bipush dX12_readsCondition_44 (by decide),
  fun d L x y st h => fk_r_icmp_eq dX12_readsCondition_46 (by decide),
  fun d  x st h => fk_w_aloadn 0 [.ref x] dX12_readsCondition_49 rfl,
  fun d L  N y l  => fk_g_call [] [] rfl lm_12_161 dX12_readsCondition_50 rfl ⟨rfl, by decide⟩ (by simp) fk_at_246,
  fun d L st h => fk_w_bipush dX12_readsCondition_53 (by decide),
  fun d L x y st h => fk_r_icmp_ne dX12_readsCondition_55 (by decide),
  fun d  x st h => fk_w_aloadn 0 [.ref x] dX12_readsCondition_58 rfl,
  fun d  x st h => fk_w_aloadn 0 [.ref x] dX12_readsCondition_59 rfl,
  fun d L w0 N y l  => fk_g_call [] [w0] rfl lm_12_161 dX12_readsCondition_60 rfl ⟨rfl, by decide⟩ (by simp) fk_at_246,
  fun d L st h => fk_w_bipush dX12_readsCondition_63 (by decide),
  fun d L x y st h => fk_r_icmp_ne dX12_readsCondition_65 (by decide),
  fun d L st h => fk_w_bipush dX12_readsCondition_68 (by decide),
  fun d L st h => fk_r_goto dX12_readsCondition_70 (by decide),
  fun d L st h => fk_w_bipush dX12_readsCondition_73 (by decide),
  fun d L x0 N y l  => fk_g_call [.int x0] [] rfl lm_12_195 dX12_readsCondition_75 rfl ⟨rfl, by decide⟩ (by simp) fk_at_246,
  fun d L x st h => fk_r_if_ne dX12_readsCondition_78 (by decide),
  fun d L st h => fk_w_iconst dX12_readsCondition_81 (by decide),
  fun d L h => fk_r_ret dX12_readsCondition_82 (Or.inr (Or.inl ⟨rfl, by decide⟩)),
  fun d L h => fk_r_ret dX12_readsCondition_82 (Or.inr (Or.inl ⟨rfl, by decide⟩)),
  fun d L p _ h => fk_r_ret dX12_readsCondition_82 (Or.inr (Or.inl ⟨rfl, fk_b_01⟩)),
  fun d L x h hx => fk_r_ret dX12_readsCondition_82 (Or.inr (Or.inl ⟨rfl, hx⟩)),
  fun d  x st h => fk_w_aloadn 0 [.ref x] dX12_readsCondition_83 rfl,
  fun d L  N y l  => fk_g_call [] [] rfl lm_12_223 dX12_readsCondition_84 rfl ⟨rfl, by decide⟩ (by simp) fk_at_246,
  fun d L x st h => fk_r_if_ne dX12_readsCondition_87 (by decide),
  fun d L st h => fk_w_iconst dX12_readsCondition_90 (by decide),
  fun d L h => fk_r_ret dX12_readsCondition_91 (Or.inr (Or.inl ⟨rfl, by decide⟩)),
  fun d L h => fk_r_ret dX12_readsCondition_91 (Or.inr (Or.inl ⟨rfl, by decide⟩)),
  fun d L p _ h => fk_r_ret dX12_readsCondition_91 (Or.inr (Or.inl ⟨rfl, fk_b_01⟩)),
  fun d L x h hx => fk_r_ret dX12_readsCondition_91 (Or.inr (Or.inl ⟨rfl, hx⟩)),
  fun d L  N y l  => fk_g_call [] [] rfl lm_12_161 dX12_readsCondition_93 rfl ⟨rfl, by decide⟩ (by simp) fk_at_246,
  fun d L st h => fk_w_bipush dX12_readsCondition_96 (by decide),
  fun d L x y st h => fk_r_icmp_ne dX12_readsCondition_98 (by decide),
  fun d  x st h => fk_w_aloadn 0 [.ref x] dX12_readsCondition_101 rfl,
  fun d L st h => fk_w_iconst dX12_readsCondition_102 (by decide),
  fun d L x0 N y l  => fk_g_call [.int x0] [] rfl lm_12_226 dX12_readsCondition_103 rfl ⟨rfl, by decide⟩ (by simp) fk_at_246,
  fun d  x st h => fk_w_aloadn 0 [.ref x] dX12_readsCondition_106 rfl,
  fun d  x st h => fk_w_aloadn 0 [.ref x] dX12_readsCondition_107 rfl,
  fun d L st N y l => fk_g_getI rfl lf_12_185 (by decide) dX12_readsCondition_108 fk_at_246,
  fun d L st h => fk_w_iconst dX12_readsCondition_111 (by decide),
  fun d L x y st h => fk_r_isub dX12_readsCondition_112,
  fun d L st N y l v => fk_g_putI rfl lf_12_185 (by decide) dX12_readsCondition_113 rfl fk_at_246,
  fun d  x st h => fk_w_aloadn 0 [.ref x] dX12_readsCondition_116 rfl,
  fun d  x st h => fk_w_aloadn 0 [.ref x] dX12_readsCondition_117 rfl,
  fun d L st N y l => fk_g_getI rfl lf_12_182 (by decide) dX12_readsCondition_118 fk_at_246,
  fun d L st h => fk_w_iconst dX12_readsCondition_121 (by decide),
  fun d L x y st h => fk_r_isub dX12_readsCondition_122,
  fun d L st N y l v => fk_g_putI rfl lf_12_182 (by decide) dX12_readsCondition_123 rfl fk_at_246,
  fun d  x st h => fk_w_aloadn 0 [.ref x] dX12_readsCondition_126 rfl,
  fun d  x st h => fk_w_aloadn 0 [.ref x] dX12_readsCondition_127 rfl,
  fun d L st N y l => fk_g_getI rfl lf_12_155 (by decide) dX12_readsCondition_128 fk_at_246,
  fun d L st h => fk_w_iconst dX12_readsCondition_131 (by decide),
  fun d L x y st h => fk_r_iadd dX12_readsCondition_132,
  fun d L st N y l v => fk_g_putI rfl lf_12_155 (by decide) dX12_readsCondition_133 rfl fk_at_246,
  fun d  x st h => fk_w_aloadn 0 [.ref x] dX12_readsCondition_136 rfl,
  fun d L st N y l => fk_g_getI rfl lf_12_185 (by decide) dX12_readsCondition_137 fk_at_246,
  fun d L x st h => fk_r_if_ne dX12_readsCondition_140 (by decide),
  fun d L st h => fk_w_iconst dX12_readsCondition_143 (by decide),
  fun d L h => fk_r_ret dX12_readsCondition_144 (Or.inr (Or.inl ⟨rfl, by decide⟩)),
  fun d L h => fk_r_ret dX12_readsCondition_144 (Or.inr (Or.inl ⟨rfl, by decide⟩)),
  fun d L p _ h => fk_r_ret dX12_readsCondition_144 (Or.inr (Or.inl ⟨rfl, fk_b_01⟩)),
  fun d L x h hx => fk_r_ret dX12_readsCondition_144 (Or.inr (Or.inl ⟨rfl, hx⟩)),
  fun d  x st h => fk_w_aloadn 0 [.ref x] dX12_readsCondition_145 rfl,
  fun d L  N y l  => fk_g_call [] [] rfl lm_12_220 dX12_readsCondition_146 rfl ⟨rfl, by decide⟩ (by simp) fk_at_246,
  fun d L st h => fk_r_goto dX12_readsCondition_149 (by decide),
  fun d  x st h => fk_w_aloadn 0 [.ref x] dX12_readsCondition_152 rfl,
  fun d L  N y l  => fk_g_call [] [] rfl lm_12_161 dX12_readsCondition_153 rfl ⟨rfl, by decide⟩ (by simp) fk_at_246,
  fun d L st h => fk_w_bipush dX12_readsCondition_156 (by decide),
  fun d L x y st h => fk_r_icmp_eq dX12_readsCondition_158 (by decide),
  fun d  x st h => fk_w_aloadn 0 [.ref x] dX12_readsCondition_161 rfl,
  fun d L  N y l  => fk_g_call [] [] rfl lm_12_161 dX12_readsCondition_162 rfl ⟨rfl, by decide⟩ (by simp) fk_at_246,
  fun d L st h => fk_w_bipush dX12_readsCondition_165 (by decide),
  fun d L x y st h => fk_r_icmp_eq dX12_readsCondition_167 (by decide),
  fun d  x st h => fk_w_aloadn 0 [.ref x] dX12_readsCondition_170 rfl,
  fun d L st h => fk_w_iconst dX12_readsCondition_171 (by decide),
  fun d  x st h => fk_w_aloadn 0 [.ref x] dX12_readsCondition_172 rfl,
  fun d L st N y l => fk_g_getI rfl lf_12_155 (by decide) dX12_readsCondition_173 fk_at_246,
  fun d L x0 x1 N y l  => fk_g_call [.int x0, .int x1] [] rfl lm_12_168 dX12_readsCondition_176 rfl ⟨rfl, by decide⟩ (by simp) fk_at_246,
  fun d L h => fk_r_ret dX12_readsCondition_179 (Or.inr (Or.inl ⟨rfl, by decide⟩)),
  fun d L h => fk_r_ret dX12_readsCondition_179 (Or.inr (Or.inl ⟨rfl, by decide⟩)),
  fun d L p _ h => fk_r_ret dX12_readsCondition_179 (Or.inr (Or.inl ⟨rfl, fk_b_01⟩)),
  fun d L x h hx => fk_r_ret dX12_readsCondition_179 (Or.inr (Or.inl ⟨rfl, hx⟩)),
  fun d  x st h => fk_w_aloadn 0 [.ref x] dX12_readsCondition_180 rfl,
  fun d  x st h => fk_w_aloadn 0 [.ref x] dX12_readsCondition_181 rfl,
  fun d L w0 N y l  => fk_g_call [] [w0] rfl lm_12_161 dX12_readsCondition_182 rfl ⟨rfl, by decide⟩ (by simp) fk_at_246,
  fun d L st h => fk_w_bipush dX12_readsCondition_185 (by decide),
  fun d L x y st h => fk_r_icmp_ne dX12_readsCondition_187 (by decide),
  fun d L st h => fk_w_iconst dX12_readsCondition_190 (by decide),
  fun d L st h => fk_r_goto dX12_readsCondition_191 (by decide),
  fun d L st h => fk_w_iconst dX12_readsCondition_194 (by decide),
  fun d L x0 N y l  => fk_g_call [.int x0] [] rfl lm_12_226 dX12_readsCondition_195 rfl ⟨rfl, by decide⟩ (by simp) fk_at_246,
  fun d  x st h => fk_w_aloadn 0 [.ref x] dX12_readsCondition_198 rfl,
  fun d  x st h => fk_w_aloadn 0 [.ref x] dX12_readsCondition_199 rfl,
  fun d L w0 N y l  => fk_g_call [] [w0] rfl lm_12_161 dX12_readsCondition_200 rfl ⟨rfl, by decide⟩ (by simp) fk_at_246,
  fun d L st h => fk_w_bipush dX12_readsCondition_203 (by decide),
  fun d L x y st h => fk_r_icmp_ne dX12_readsCondition_205 (by decide),
  fun d L st h => fk_w_bipush dX12_readsCondition_208 (by decide),
  fun d L st h => fk_r_goto dX12_readsCondition_210 (by decide),
  fun d L st h => fk_w_bipush dX12_readsCondition_213 (by decide),
  fun d L x0 N y l  => fk_g_call [.int x0] [] rfl lm_12_229 dX12_readsCondition_215 rfl ⟨rfl, by decide⟩ (by simp) fk_at_246,
  fun d L st h => fk_r_goto dX12_readsCondition_218 (by decide)⟩
theorem hX12_readsCondition_40 : ∀ (d : Nat) (x : Nat) (st : List Value) (h : fk_H), fk_ev d qX12_readsCondition 40 [.ref x] st h = fk_ev d qX12_readsCondition 41 [.ref x] (.ref x :: st) h := fun d  x st h => fk_w_aloadn 0 [.ref x] dX12_readsCondition_40 rfl
theorem hX12_readsCondition_92 : ∀ (d : Nat) (x : Nat) (st : List Value) (h : fk_H), fk_ev d qX12_readsCondition 92 [.ref x] st h = fk_ev d qX12_readsCondition 93 [.ref x] (.ref x :: st) h := fun d  x st h => fk_w_aloadn 0 [.ref x] dX12_readsCondition_92 rfl
theorem dX12_isClause_0 : decode cX12_isClause 0 = .ok (.iload_n 0, 1) := by decide +kernel
theorem dX12_isClause_1 : decode cX12_isClause 1 = .ok (.bipush 99, 2) := by decide +kernel
theorem dX12_isClause_3 : decode cX12_isClause 3 = .ok (.if_icmp .eq 33, 3) := by decide +kernel
theorem dX12_isClause_6 : decode cX12_isClause 6 = .ok (.iload_n 0, 1) := by decide +kernel
theorem dX12_isClause_7 : decode cX12_isClause 7 = .ok (.bipush 100, 2) := by decide +kernel
theorem dX12_isClause_9 : decode cX12_isClause 9 = .ok (.if_icmp .eq 27, 3) := by decide +kernel
theorem dX12_isClause_12 : decode cX12_isClause 12 = .ok (.iload_n 0, 1) := by decide +kernel
theorem dX12_isClause_13 : decode cX12_isClause 13 = .ok (.bipush 98, 2) := by decide +kernel
theorem dX12_isClause_15 : decode cX12_isClause 15 = .ok (.if_icmp .eq 21, 3) := by decide +kernel
theorem dX12_isClause_18 : decode cX12_isClause 18 = .ok (.iload_n 0, 1) := by decide +kernel
theorem dX12_isClause_19 : decode cX12_isClause 19 = .ok (.bipush 119, 2) := by decide +kernel
theorem dX12_isClause_21 : decode cX12_isClause 21 = .ok (.if_icmp .eq 15, 3) := by decide +kernel
theorem dX12_isClause_24 : decode cX12_isClause 24 = .ok (.iload_n 0, 1) := by decide +kernel
theorem dX12_isClause_25 : decode cX12_isClause 25 = .ok (.bipush 120, 2) := by decide +kernel
theorem dX12_isClause_27 : decode cX12_isClause 27 = .ok (.if_icmp .eq 9, 3) := by decide +kernel
theorem dX12_isClause_30 : decode cX12_isClause 30 = .ok (.iload_n 0, 1) := by decide +kernel
theorem dX12_isClause_31 : decode cX12_isClause 31 = .ok (.bipush 101, 2) := by decide +kernel
theorem dX12_isClause_33 : decode cX12_isClause 33 = .ok (.if_icmp .ne 7, 3) := by decide +kernel
theorem dX12_isClause_36 : decode cX12_isClause 36 = .ok (.iconst 1, 1) := by decide +kernel
theorem dX12_isClause_37 : decode cX12_isClause 37 = .ok (.goto 4, 3) := by decide +kernel
theorem dX12_isClause_40 : decode cX12_isClause 40 = .ok (.iconst 0, 1) := by decide +kernel
theorem dX12_isClause_41 : decode cX12_isClause 41 = .ok (.ireturn, 1) := by decide +kernel
theorem rX12_isClause : (∀ (d : Nat) (x : Int32) (st : List Value) (h : fk_H), fk_ev d qX12_isClause 0 [.int x] st h = fk_ev d qX12_isClause 1 [.int x] (.int x :: st) h) ∧
  (∀ (d : Nat) (L st : List Value) (h : fk_H), fk_ev d qX12_isClause 1 L st h = fk_ev d qX12_isClause 3 L (.int (nI 99) :: st) h) ∧
  (∀ (d : Nat) (L : List Value) (x y : Int32) (st : List Value) (h : fk_H), fk_ev d qX12_isClause 3 L (.int y :: .int x :: st) h = if x = y then fk_ev d qX12_isClause 36 L st h else fk_ev d qX12_isClause 6 L st h) ∧
  (∀ (d : Nat) (x : Int32) (st : List Value) (h : fk_H), fk_ev d qX12_isClause 6 [.int x] st h = fk_ev d qX12_isClause 7 [.int x] (.int x :: st) h) ∧
  (∀ (d : Nat) (L st : List Value) (h : fk_H), fk_ev d qX12_isClause 7 L st h = fk_ev d qX12_isClause 9 L (.int (nI 100) :: st) h) ∧
  (∀ (d : Nat) (L : List Value) (x y : Int32) (st : List Value) (h : fk_H), fk_ev d qX12_isClause 9 L (.int y :: .int x :: st) h = if x = y then fk_ev d qX12_isClause 36 L st h else fk_ev d qX12_isClause 12 L st h) ∧
  (∀ (d : Nat) (x : Int32) (st : List Value) (h : fk_H), fk_ev d qX12_isClause 12 [.int x] st h = fk_ev d qX12_isClause 13 [.int x] (.int x :: st) h) ∧
  (∀ (d : Nat) (L st : List Value) (h : fk_H), fk_ev d qX12_isClause 13 L st h = fk_ev d qX12_isClause 15 L (.int (nI 98) :: st) h) ∧
  (∀ (d : Nat) (L : List Value) (x y : Int32) (st : List Value) (h : fk_H), fk_ev d qX12_isClause 15 L (.int y :: .int x :: st) h = if x = y then fk_ev d qX12_isClause 36 L st h else fk_ev d qX12_isClause 18 L st h) ∧
  (∀ (d : Nat) (x : Int32) (st : List Value) (h : fk_H), fk_ev d qX12_isClause 18 [.int x] st h = fk_ev d qX12_isClause 19 [.int x] (.int x :: st) h) ∧
  (∀ (d : Nat) (L st : List Value) (h : fk_H), fk_ev d qX12_isClause 19 L st h = fk_ev d qX12_isClause 21 L (.int (nI 119) :: st) h) ∧
  (∀ (d : Nat) (L : List Value) (x y : Int32) (st : List Value) (h : fk_H), fk_ev d qX12_isClause 21 L (.int y :: .int x :: st) h = if x = y then fk_ev d qX12_isClause 36 L st h else fk_ev d qX12_isClause 24 L st h) ∧
  (∀ (d : Nat) (x : Int32) (st : List Value) (h : fk_H), fk_ev d qX12_isClause 24 [.int x] st h = fk_ev d qX12_isClause 25 [.int x] (.int x :: st) h) ∧
  (∀ (d : Nat) (L st : List Value) (h : fk_H), fk_ev d qX12_isClause 25 L st h = fk_ev d qX12_isClause 27 L (.int (nI 120) :: st) h) ∧
  (∀ (d : Nat) (L : List Value) (x y : Int32) (st : List Value) (h : fk_H), fk_ev d qX12_isClause 27 L (.int y :: .int x :: st) h = if x = y then fk_ev d qX12_isClause 36 L st h else fk_ev d qX12_isClause 30 L st h) ∧
  (∀ (d : Nat) (x : Int32) (st : List Value) (h : fk_H), fk_ev d qX12_isClause 30 [.int x] st h = fk_ev d qX12_isClause 31 [.int x] (.int x :: st) h) ∧
  (∀ (d : Nat) (L st : List Value) (h : fk_H), fk_ev d qX12_isClause 31 L st h = fk_ev d qX12_isClause 33 L (.int (nI 101) :: st) h) ∧
  (∀ (d : Nat) (L : List Value) (x y : Int32) (st : List Value) (h : fk_H), fk_ev d qX12_isClause 33 L (.int y :: .int x :: st) h = if ¬ x = y then fk_ev d qX12_isClause 40 L st h else fk_ev d qX12_isClause 36 L st h) ∧
  (∀ (d : Nat) (L st : List Value) (h : fk_H), fk_ev d qX12_isClause 36 L st h = fk_ev d qX12_isClause 37 L (.int (nI 1) :: st) h) ∧
  (∀ (d : Nat) (L st : List Value) (h : fk_H), fk_ev d qX12_isClause 37 L st h = fk_ev d qX12_isClause 41 L st h) ∧
  (∀ (d : Nat) (L st : List Value) (h : fk_H), fk_ev d qX12_isClause 40 L st h = fk_ev d qX12_isClause 41 L (.int (nI 0) :: st) h) ∧
  (∀ (d : Nat) (L : List Value) (h : fk_H), fk_ev d qX12_isClause 41 L [.int (nI 0)] h = some (some (.int (nI 0)), h)) ∧
  (∀ (d : Nat) (L : List Value) (h : fk_H), fk_ev d qX12_isClause 41 L [.int (nI 1)] h = some (some (.int (nI 1)), h)) ∧
  (∀ (d : Nat) (L : List Value) (p : Prop) [Decidable p] (h : fk_H), fk_ev d qX12_isClause 41 L [.int (fk_b p)] h = some (some (.int (fk_b p)), h)) ∧
  (∀ (d : Nat) (L : List Value) (x : Int32) (h : fk_H), (x = nI 0 ∨ x = nI 1) → fk_ev d qX12_isClause 41 L [.int x] h = some (some (.int x), h)) := ⟨fun d  x st h => fk_w_iloadn 0 [.int x] dX12_isClause_0 rfl,
  fun d L st h => fk_w_bipush dX12_isClause_1 (by decide),
  fun d L x y st h => fk_r_icmp_eq dX12_isClause_3 (by decide),
  fun d  x st h => fk_w_iloadn 0 [.int x] dX12_isClause_6 rfl,
  fun d L st h => fk_w_bipush dX12_isClause_7 (by decide),
  fun d L x y st h => fk_r_icmp_eq dX12_isClause_9 (by decide),
  fun d  x st h => fk_w_iloadn 0 [.int x] dX12_isClause_12 rfl,
  fun d L st h => fk_w_bipush dX12_isClause_13 (by decide),
  fun d L x y st h => fk_r_icmp_eq dX12_isClause_15 (by decide),
  fun d  x st h => fk_w_iloadn 0 [.int x] dX12_isClause_18 rfl,
  fun d L st h => fk_w_bipush dX12_isClause_19 (by decide),
  fun d L x y st h => fk_r_icmp_eq dX12_isClause_21 (by decide),
  fun d  x st h => fk_w_iloadn 0 [.int x] dX12_isClause_24 rfl,
  fun d L st h => fk_w_bipush dX12_isClause_25 (by decide),
  fun d L x y st h => fk_r_icmp_eq dX12_isClause_27 (by decide),
  fun d  x st h => fk_w_iloadn 0 [.int x] dX12_isClause_30 rfl,
  fun d L st h => fk_w_bipush dX12_isClause_31 (by decide),
  fun d L x y st h => fk_r_icmp_ne dX12_isClause_33 (by decide),
  fun d L st h => fk_w_iconst dX12_isClause_36 (by decide),
  fun d L st h => fk_r_goto dX12_isClause_37 (by decide),
  fun d L st h => fk_w_iconst dX12_isClause_40 (by decide),
  fun d L h => fk_r_ret dX12_isClause_41 (Or.inr (Or.inl ⟨rfl, by decide⟩)),
  fun d L h => fk_r_ret dX12_isClause_41 (Or.inr (Or.inl ⟨rfl, by decide⟩)),
  fun d L p _ h => fk_r_ret dX12_isClause_41 (Or.inr (Or.inl ⟨rfl, fk_b_01⟩)),
  fun d L x h hx => fk_r_ret dX12_isClause_41 (Or.inr (Or.inl ⟨rfl, hx⟩))⟩
theorem dX12_readsClause_0 : decode cX12_readsClause 0 = .ok (.aload_n 0, 1) := by decide +kernel
theorem dX12_readsClause_1 : decode cX12_readsClause 1 = .ok (.invokevirtual 161, 3) := by decide +kernel
theorem dX12_readsClause_4 : decode cX12_readsClause 4 = .ok (.istore_n 1, 1) := by decide +kernel
theorem dX12_readsClause_5 : decode cX12_readsClause 5 = .ok (.iload_n 1, 1) := by decide +kernel
theorem dX12_readsClause_6 : decode cX12_readsClause 6 = .ok (.invokestatic 232, 3) := by decide +kernel
theorem dX12_readsClause_9 : decode cX12_readsClause 9 = .ok (.ifCond .ne 13, 3) := by decide +kernel
theorem dX12_readsClause_12 : decode cX12_readsClause 12 = .ok (.aload_n 0, 1) := by decide +kernel
theorem dX12_readsClause_13 : decode cX12_readsClause 13 = .ok (.iconst 1, 1) := by decide +kernel
theorem dX12_readsClause_14 : decode cX12_readsClause 14 = .ok (.aload_n 0, 1) := by decide +kernel
theorem dX12_readsClause_15 : decode cX12_readsClause 15 = .ok (.getfield 155, 3) := by decide +kernel
theorem dX12_readsClause_18 : decode cX12_readsClause 18 = .ok (.invokevirtual 168, 3) := by decide +kernel
theorem dX12_readsClause_21 : decode cX12_readsClause 21 = .ok (.ireturn, 1) := by decide +kernel
theorem dX12_readsClause_22 : decode cX12_readsClause 22 = .ok (.aload_n 0, 1) := by decide +kernel
theorem dX12_readsClause_23 : decode cX12_readsClause 23 = .ok (.getfield 235, 3) := by decide +kernel
theorem dX12_readsClause_26 : decode cX12_readsClause 26 = .ok (.bipush 16, 2) := by decide +kernel
theorem dX12_readsClause_28 : decode cX12_readsClause 28 = .ok (.if_icmp .ne 13, 3) := by decide +kernel
theorem dX12_readsClause_31 : decode cX12_readsClause 31 = .ok (.aload_n 0, 1) := by decide +kernel
theorem dX12_readsClause_32 : decode cX12_readsClause 32 = .ok (.iconst 4, 1) := by decide +kernel
theorem dX12_readsClause_33 : decode cX12_readsClause 33 = .ok (.aload_n 0, 1) := by decide +kernel
theorem dX12_readsClause_34 : decode cX12_readsClause 34 = .ok (.getfield 155, 3) := by decide +kernel
theorem dX12_readsClause_37 : decode cX12_readsClause 37 = .ok (.invokevirtual 168, 3) := by decide +kernel
theorem dX12_readsClause_40 : decode cX12_readsClause 40 = .ok (.ireturn, 1) := by decide +kernel
theorem dX12_readsClause_41 : decode cX12_readsClause 41 = .ok (.aload_n 0, 1) := by decide +kernel
theorem dX12_readsClause_42 : decode cX12_readsClause 42 = .ok (.getfield 45, 3) := by decide +kernel
theorem dX12_readsClause_45 : decode cX12_readsClause 45 = .ok (.aload_n 0, 1) := by decide +kernel
theorem dX12_readsClause_46 : decode cX12_readsClause 46 = .ok (.getfield 235, 3) := by decide +kernel
theorem dX12_readsClause_49 : decode cX12_readsClause 49 = .ok (.iload_n 1, 1) := by decide +kernel
theorem dX12_readsClause_50 : decode cX12_readsClause 50 = .ok (.iastore, 1) := by decide +kernel
theorem dX12_readsClause_51 : decode cX12_readsClause 51 = .ok (.aload_n 0, 1) := by decide +kernel
theorem dX12_readsClause_52 : decode cX12_readsClause 52 = .ok (.aload_n 0, 1) := by decide +kernel
theorem dX12_readsClause_53 : decode cX12_readsClause 53 = .ok (.getfield 155, 3) := by decide +kernel
theorem dX12_readsClause_56 : decode cX12_readsClause 56 = .ok (.iconst 1, 1) := by decide +kernel
theorem dX12_readsClause_57 : decode cX12_readsClause 57 = .ok (.iadd, 1) := by decide +kernel
theorem dX12_readsClause_58 : decode cX12_readsClause 58 = .ok (.putfield 155, 3) := by decide +kernel
theorem dX12_readsClause_61 : decode cX12_readsClause 61 = .ok (.aload_n 0, 1) := by decide +kernel
theorem dX12_readsClause_62 : decode cX12_readsClause 62 = .ok (.getfield 48, 3) := by decide +kernel
theorem dX12_readsClause_65 : decode cX12_readsClause 65 = .ok (.aload_n 0, 1) := by decide +kernel
theorem dX12_readsClause_66 : decode cX12_readsClause 66 = .ok (.getfield 235, 3) := by decide +kernel
theorem dX12_readsClause_69 : decode cX12_readsClause 69 = .ok (.aload_n 0, 1) := by decide +kernel
theorem dX12_readsClause_70 : decode cX12_readsClause 70 = .ok (.getfield 178, 3) := by decide +kernel
theorem dX12_readsClause_73 : decode cX12_readsClause 73 = .ok (.iastore, 1) := by decide +kernel
theorem dX12_readsClause_74 : decode cX12_readsClause 74 = .ok (.aload_n 0, 1) := by decide +kernel
theorem dX12_readsClause_75 : decode cX12_readsClause 75 = .ok (.iconst 0, 1) := by decide +kernel
theorem dX12_readsClause_76 : decode cX12_readsClause 76 = .ok (.putfield 182, 3) := by decide +kernel
theorem dX12_readsClause_79 : decode cX12_readsClause 79 = .ok (.aload_n 0, 1) := by decide +kernel
theorem dX12_readsClause_80 : decode cX12_readsClause 80 = .ok (.iconst 0, 1) := by decide +kernel
theorem dX12_readsClause_81 : decode cX12_readsClause 81 = .ok (.putfield 185, 3) := by decide +kernel
theorem dX12_readsClause_84 : decode cX12_readsClause 84 = .ok (.iload_n 1, 1) := by decide +kernel
theorem dX12_readsClause_85 : decode cX12_readsClause 85 = .ok (.bipush 101, 2) := by decide +kernel
theorem dX12_readsClause_87 : decode cX12_readsClause 87 = .ok (.if_icmp .eq 12, 3) := by decide +kernel
theorem dX12_readsClause_90 : decode cX12_readsClause 90 = .ok (.aload_n 0, 1) := by decide +kernel
theorem dX12_readsClause_91 : decode cX12_readsClause 91 = .ok (.invokevirtual 217, 3) := by decide +kernel
theorem dX12_readsClause_94 : decode cX12_readsClause 94 = .ok (.ifCond .ne 5, 3) := by decide +kernel
theorem dX12_readsClause_97 : decode cX12_readsClause 97 = .ok (.iconst 0, 1) := by decide +kernel
theorem dX12_readsClause_98 : decode cX12_readsClause 98 = .ok (.ireturn, 1) := by decide +kernel
theorem dX12_readsClause_99 : decode cX12_readsClause 99 = .ok (.aload_n 0, 1) := by decide +kernel
theorem dX12_readsClause_100 : decode cX12_readsClause 100 = .ok (.getfield 51, 3) := by decide +kernel
theorem dX12_readsClause_103 : decode cX12_readsClause 103 = .ok (.aload_n 0, 1) := by decide +kernel
theorem dX12_readsClause_104 : decode cX12_readsClause 104 = .ok (.getfield 235, 3) := by decide +kernel
theorem dX12_readsClause_107 : decode cX12_readsClause 107 = .ok (.aload_n 0, 1) := by decide +kernel
theorem dX12_readsClause_108 : decode cX12_readsClause 108 = .ok (.getfield 178, 3) := by decide +kernel
theorem dX12_readsClause_111 : decode cX12_readsClause 111 = .ok (.iastore, 1) := by decide +kernel
theorem dX12_readsClause_112 : decode cX12_readsClause 112 = .ok (.aload_n 0, 1) := by decide +kernel
theorem dX12_readsClause_113 : decode cX12_readsClause 113 = .ok (.invokevirtual 238, 3) := by decide +kernel
theorem dX12_readsClause_116 : decode cX12_readsClause 116 = .ok (.ifCond .ne 5, 3) := by decide +kernel
theorem dX12_readsClause_119 : decode cX12_readsClause 119 = .ok (.iconst 0, 1) := by decide +kernel
theorem dX12_readsClause_120 : decode cX12_readsClause 120 = .ok (.ireturn, 1) := by decide +kernel
theorem dX12_readsClause_121 : decode cX12_readsClause 121 = .ok (.aload_n 0, 1) := by decide +kernel
theorem dX12_readsClause_122 : decode cX12_readsClause 122 = .ok (.getfield 54, 3) := by decide +kernel
theorem dX12_readsClause_125 : decode cX12_readsClause 125 = .ok (.aload_n 0, 1) := by decide +kernel
theorem dX12_readsClause_126 : decode cX12_readsClause 126 = .ok (.getfield 235, 3) := by decide +kernel
theorem dX12_readsClause_129 : decode cX12_readsClause 129 = .ok (.aload_n 0, 1) := by decide +kernel
theorem dX12_readsClause_130 : decode cX12_readsClause 130 = .ok (.getfield 178, 3) := by decide +kernel
theorem dX12_readsClause_133 : decode cX12_readsClause 133 = .ok (.iastore, 1) := by decide +kernel
theorem dX12_readsClause_134 : decode cX12_readsClause 134 = .ok (.aload_n 0, 1) := by decide +kernel
theorem dX12_readsClause_135 : decode cX12_readsClause 135 = .ok (.aload_n 0, 1) := by decide +kernel
theorem dX12_readsClause_136 : decode cX12_readsClause 136 = .ok (.getfield 235, 3) := by decide +kernel
theorem dX12_readsClause_139 : decode cX12_readsClause 139 = .ok (.iconst 1, 1) := by decide +kernel
theorem dX12_readsClause_140 : decode cX12_readsClause 140 = .ok (.iadd, 1) := by decide +kernel
theorem dX12_readsClause_141 : decode cX12_readsClause 141 = .ok (.putfield 235, 3) := by decide +kernel
theorem dX12_readsClause_144 : decode cX12_readsClause 144 = .ok (.iconst 1, 1) := by decide +kernel
theorem dX12_readsClause_145 : decode cX12_readsClause 145 = .ok (.ireturn, 1) := by decide +kernel
theorem rX12_readsClause : (∀ (d : Nat) (a1 : Value) (x : Nat) (st : List Value) (h : fk_H), fk_ev d qX12_readsClause 0 [.ref x, a1] st h = fk_ev d qX12_readsClause 1 [.ref x, a1] (.ref x :: st) h) ∧
  (∀ (d : Nat) (L : List Value)   (N : Nat) (y : Nat → Nat → Int32) (l : Nat → Nat → Int64), fk_ev (d + 1) qX12_readsClause 1 L (.ref 246 :: []) (fk_E N y l) = (fk_ev d qX12_here 0 [.ref 246] [] (fk_E N y l)).bind fun o => fk_ev (d + 1) qX12_readsClause 4 L (o.1.toList ++ []) o.2) ∧
  (∀ (d : Nat) (a0 a1 : Value) (x : Int32) (st : List Value) (h : fk_H), fk_ev d qX12_readsClause 4 [a0, a1] (.int x :: st) h = fk_ev d qX12_readsClause 5 [a0, .int x] st h) ∧
  (∀ (d : Nat) (a0 : Value) (x : Int32) (st : List Value) (h : fk_H), fk_ev d qX12_readsClause 5 [a0, .int x] st h = fk_ev d qX12_readsClause 6 [a0, .int x] (.int x :: st) h) ∧
  (∀ (d : Nat) (L : List Value) (x0 : Int32)  (h : fk_H), fk_ev (d + 1) qX12_readsClause 6 L (.int x0 :: []) h = (fk_ev d qX12_isClause 0 [.int x0] [] h).bind fun o => fk_ev (d + 1) qX12_readsClause 9 L (o.1.toList ++ []) o.2) ∧
  (∀ (d : Nat) (L : List Value) (x : Int32) (st : List Value) (h : fk_H), fk_ev d qX12_readsClause 9 L (.int x :: st) h = if ¬ x = nI 0 then fk_ev d qX12_readsClause 22 L st h else fk_ev d qX12_readsClause 12 L st h) ∧
  (∀ (d : Nat) (a1 : Value) (x : Nat) (st : List Value) (h : fk_H), fk_ev d qX12_readsClause 12 [.ref x, a1] st h = fk_ev d qX12_readsClause 13 [.ref x, a1] (.ref x :: st) h) ∧
  (∀ (d : Nat) (L st : List Value) (h : fk_H), fk_ev d qX12_readsClause 13 L st h = fk_ev d qX12_readsClause 14 L (.int (nI 1) :: st) h) ∧
  (∀ (d : Nat) (a1 : Value) (x : Nat) (st : List Value) (h : fk_H), fk_ev d qX12_readsClause 14 [.ref x, a1] st h = fk_ev d qX12_readsClause 15 [.ref x, a1] (.ref x :: st) h) ∧
  (∀ (d : Nat) (L st : List Value) (N : Nat) (y : Nat → Nat → Int32) (l : Nat → Nat → Int64), fk_ev d qX12_readsClause 15 L (.ref 246 :: st) (fk_E N y l) = fk_ev d qX12_readsClause 18 L (.int (y 246 11) :: st) (fk_E N y l)) ∧
  (∀ (d : Nat) (L : List Value) (x0 : Int32) (x1 : Int32)  (N : Nat) (y : Nat → Nat → Int32) (l : Nat → Nat → Int64), fk_ev (d + 1) qX12_readsClause 18 L (.int x1 :: .int x0 :: .ref 246 :: []) (fk_E N y l) = (fk_ev d qX12_wrongAt 0 [.ref 246, .int x0, .int x1] [] (fk_E N y l)).bind fun o => fk_ev (d + 1) qX12_readsClause 21 L (o.1.toList ++ []) o.2) ∧
  (∀ (d : Nat) (L : List Value) (h : fk_H), fk_ev d qX12_readsClause 21 L [.int (nI 0)] h = some (some (.int (nI 0)), h)) ∧
  (∀ (d : Nat) (L : List Value) (h : fk_H), fk_ev d qX12_readsClause 21 L [.int (nI 1)] h = some (some (.int (nI 1)), h)) ∧
  (∀ (d : Nat) (L : List Value) (p : Prop) [Decidable p] (h : fk_H), fk_ev d qX12_readsClause 21 L [.int (fk_b p)] h = some (some (.int (fk_b p)), h)) ∧
  (∀ (d : Nat) (L : List Value) (x : Int32) (h : fk_H), (x = nI 0 ∨ x = nI 1) → fk_ev d qX12_readsClause 21 L [.int x] h = some (some (.int x), h)) ∧
  (∀ (d : Nat) (a1 : Value) (x : Nat) (st : List Value) (h : fk_H), fk_ev d qX12_readsClause 22 [.ref x, a1] st h = fk_ev d qX12_readsClause 23 [.ref x, a1] (.ref x :: st) h) ∧
  (∀ (d : Nat) (L st : List Value) (N : Nat) (y : Nat → Nat → Int32) (l : Nat → Nat → Int64), fk_ev d qX12_readsClause 23 L (.ref 246 :: st) (fk_E N y l) = fk_ev d qX12_readsClause 26 L (.int (y 246 18) :: st) (fk_E N y l)) ∧
  (∀ (d : Nat) (L st : List Value) (h : fk_H), fk_ev d qX12_readsClause 26 L st h = fk_ev d qX12_readsClause 28 L (.int (nI 16) :: st) h) ∧
  (∀ (d : Nat) (L : List Value) (x y : Int32) (st : List Value) (h : fk_H), fk_ev d qX12_readsClause 28 L (.int y :: .int x :: st) h = if ¬ x = y then fk_ev d qX12_readsClause 41 L st h else fk_ev d qX12_readsClause 31 L st h) ∧
  (∀ (d : Nat) (a1 : Value) (x : Nat) (st : List Value) (h : fk_H), fk_ev d qX12_readsClause 31 [.ref x, a1] st h = fk_ev d qX12_readsClause 32 [.ref x, a1] (.ref x :: st) h) ∧
  (∀ (d : Nat) (L st : List Value) (h : fk_H), fk_ev d qX12_readsClause 32 L st h = fk_ev d qX12_readsClause 33 L (.int (nI 4) :: st) h) ∧
  (∀ (d : Nat) (a1 : Value) (x : Nat) (st : List Value) (h : fk_H), fk_ev d qX12_readsClause 33 [.ref x, a1] st h = fk_ev d qX12_readsClause 34 [.ref x, a1] (.ref x :: st) h) ∧
  (∀ (d : Nat) (L st : List Value) (N : Nat) (y : Nat → Nat → Int32) (l : Nat → Nat → Int64), fk_ev d qX12_readsClause 34 L (.ref 246 :: st) (fk_E N y l) = fk_ev d qX12_readsClause 37 L (.int (y 246 11) :: st) (fk_E N y l)) ∧
  (∀ (d : Nat) (L : List Value) (x0 : Int32) (x1 : Int32)  (N : Nat) (y : Nat → Nat → Int32) (l : Nat → Nat → Int64), fk_ev (d + 1) qX12_readsClause 37 L (.int x1 :: .int x0 :: .ref 246 :: []) (fk_E N y l) = (fk_ev d qX12_wrongAt 0 [.ref 246, .int x0, .int x1] [] (fk_E N y l)).bind fun o => fk_ev (d + 1) qX12_readsClause 40 L (o.1.toList ++ []) o.2) ∧
  (∀ (d : Nat) (L : List Value) (h : fk_H), fk_ev d qX12_readsClause 40 L [.int (nI 0)] h = some (some (.int (nI 0)), h)) ∧
  (∀ (d : Nat) (L : List Value) (h : fk_H), fk_ev d qX12_readsClause 40 L [.int (nI 1)] h = some (some (.int (nI 1)), h)) ∧
  (∀ (d : Nat) (L : List Value) (p : Prop) [Decidable p] (h : fk_H), fk_ev d qX12_readsClause 40 L [.int (fk_b p)] h = some (some (.int (fk_b p)), h)) ∧
  (∀ (d : Nat) (L : List Value) (x : Int32) (h : fk_H), (x = nI 0 ∨ x = nI 1) → fk_ev d qX12_readsClause 40 L [.int x] h = some (some (.int x), h)) ∧
  (∀ (d : Nat) (a1 : Value) (x : Nat) (st : List Value) (h : fk_H), fk_ev d qX12_readsClause 41 [.ref x, a1] st h = fk_ev d qX12_readsClause 42 [.ref x, a1] (.ref x :: st) h) ∧
  (∀ (d : Nat) (L st : List Value) (N : Nat) (y : Nat → Nat → Int32) (l : Nat → Nat → Int64), fk_ev d qX12_readsClause 42 L (.ref 246 :: st) (fk_E N y l) = fk_ev d qX12_readsClause 45 L (.ref 258 :: st) (fk_E N y l)) ∧
  (∀ (d : Nat) (a1 : Value) (x : Nat) (st : List Value) (h : fk_H), fk_ev d qX12_readsClause 45 [.ref x, a1] st h = fk_ev d qX12_readsClause 46 [.ref x, a1] (.ref x :: st) h) ∧
  (∀ (d : Nat) (L st : List Value) (N : Nat) (y : Nat → Nat → Int32) (l : Nat → Nat → Int64), fk_ev d qX12_readsClause 46 L (.ref 246 :: st) (fk_E N y l) = fk_ev d qX12_readsClause 49 L (.int (y 246 18) :: st) (fk_E N y l)) ∧
  (∀ (d : Nat) (a0 : Value) (x : Int32) (st : List Value) (h : fk_H), fk_ev d qX12_readsClause 49 [a0, .int x] st h = fk_ev d qX12_readsClause 50 [a0, .int x] (.int x :: st) h) ∧
  (∀ (d : Nat) (L st : List Value) (N : Nat) (y : Nat → Nat → Int32) (l : Nat → Nat → Int64) (i : Nat) (v : Int32), i < 16 → fk_ev d qX12_readsClause 50 L (.int v :: .int (nI i) :: .ref 258 :: st) (fk_E N y l) = fk_ev d qX12_readsClause 51 L st (fk_E N (fk_u y 258 i v) l)) ∧
  (∀ (d : Nat) (a1 : Value) (x : Nat) (st : List Value) (h : fk_H), fk_ev d qX12_readsClause 51 [.ref x, a1] st h = fk_ev d qX12_readsClause 52 [.ref x, a1] (.ref x :: st) h) ∧
  (∀ (d : Nat) (a1 : Value) (x : Nat) (st : List Value) (h : fk_H), fk_ev d qX12_readsClause 52 [.ref x, a1] st h = fk_ev d qX12_readsClause 53 [.ref x, a1] (.ref x :: st) h) ∧
  (∀ (d : Nat) (L st : List Value) (N : Nat) (y : Nat → Nat → Int32) (l : Nat → Nat → Int64), fk_ev d qX12_readsClause 53 L (.ref 246 :: st) (fk_E N y l) = fk_ev d qX12_readsClause 56 L (.int (y 246 11) :: st) (fk_E N y l)) ∧
  (∀ (d : Nat) (L st : List Value) (h : fk_H), fk_ev d qX12_readsClause 56 L st h = fk_ev d qX12_readsClause 57 L (.int (nI 1) :: st) h) ∧
  (∀ (d : Nat) (L : List Value) (x y : Int32) (st : List Value) (h : fk_H), fk_ev d qX12_readsClause 57 L (.int y :: .int x :: st) h = fk_ev d qX12_readsClause 58 L (.int (x + y) :: st) h) ∧
  (∀ (d : Nat) (L st : List Value) (N : Nat) (y : Nat → Nat → Int32) (l : Nat → Nat → Int64) (v : Int32), fk_ev d qX12_readsClause 58 L (.int v :: .ref 246 :: st) (fk_E N y l) = fk_ev d qX12_readsClause 61 L st (fk_E N (fk_u y 246 11 v) l)) ∧
  (∀ (d : Nat) (a1 : Value) (x : Nat) (st : List Value) (h : fk_H), fk_ev d qX12_readsClause 61 [.ref x, a1] st h = fk_ev d qX12_readsClause 62 [.ref x, a1] (.ref x :: st) h) ∧
  (∀ (d : Nat) (L st : List Value) (N : Nat) (y : Nat → Nat → Int32) (l : Nat → Nat → Int64), fk_ev d qX12_readsClause 62 L (.ref 246 :: st) (fk_E N y l) = fk_ev d qX12_readsClause 65 L (.ref 259 :: st) (fk_E N y l)) ∧
  (∀ (d : Nat) (a1 : Value) (x : Nat) (st : List Value) (h : fk_H), fk_ev d qX12_readsClause 65 [.ref x, a1] st h = fk_ev d qX12_readsClause 66 [.ref x, a1] (.ref x :: st) h) ∧
  (∀ (d : Nat) (L st : List Value) (N : Nat) (y : Nat → Nat → Int32) (l : Nat → Nat → Int64), fk_ev d qX12_readsClause 66 L (.ref 246 :: st) (fk_E N y l) = fk_ev d qX12_readsClause 69 L (.int (y 246 18) :: st) (fk_E N y l)) ∧
  (∀ (d : Nat) (a1 : Value) (x : Nat) (st : List Value) (h : fk_H), fk_ev d qX12_readsClause 69 [.ref x, a1] st h = fk_ev d qX12_readsClause 70 [.ref x, a1] (.ref x :: st) h) ∧
  (∀ (d : Nat) (L st : List Value) (N : Nat) (y : Nat → Nat → Int32) (l : Nat → Nat → Int64), fk_ev d qX12_readsClause 70 L (.ref 246 :: st) (fk_E N y l) = fk_ev d qX12_readsClause 73 L (.int (y 246 16) :: st) (fk_E N y l)) ∧
  (∀ (d : Nat) (L st : List Value) (N : Nat) (y : Nat → Nat → Int32) (l : Nat → Nat → Int64) (i : Nat) (v : Int32), i < 16 → fk_ev d qX12_readsClause 73 L (.int v :: .int (nI i) :: .ref 259 :: st) (fk_E N y l) = fk_ev d qX12_readsClause 74 L st (fk_E N (fk_u y 259 i v) l)) ∧
  (∀ (d : Nat) (a1 : Value) (x : Nat) (st : List Value) (h : fk_H), fk_ev d qX12_readsClause 74 [.ref x, a1] st h = fk_ev d qX12_readsClause 75 [.ref x, a1] (.ref x :: st) h) ∧
  (∀ (d : Nat) (L st : List Value) (h : fk_H), fk_ev d qX12_readsClause 75 L st h = fk_ev d qX12_readsClause 76 L (.int (nI 0) :: st) h) ∧
  (∀ (d : Nat) (L st : List Value) (N : Nat) (y : Nat → Nat → Int32) (l : Nat → Nat → Int64) (v : Int32), fk_ev d qX12_readsClause 76 L (.int v :: .ref 246 :: st) (fk_E N y l) = fk_ev d qX12_readsClause 79 L st (fk_E N (fk_u y 246 15 v) l)) ∧
  (∀ (d : Nat) (a1 : Value) (x : Nat) (st : List Value) (h : fk_H), fk_ev d qX12_readsClause 79 [.ref x, a1] st h = fk_ev d qX12_readsClause 80 [.ref x, a1] (.ref x :: st) h) ∧
  (∀ (d : Nat) (L st : List Value) (h : fk_H), fk_ev d qX12_readsClause 80 L st h = fk_ev d qX12_readsClause 81 L (.int (nI 0) :: st) h) ∧
  (∀ (d : Nat) (L st : List Value) (N : Nat) (y : Nat → Nat → Int32) (l : Nat → Nat → Int64) (v : Int32), fk_ev d qX12_readsClause 81 L (.int v :: .ref 246 :: st) (fk_E N y l) = fk_ev d qX12_readsClause 84 L st (fk_E N (fk_u y 246 17 v) l)) ∧
  (∀ (d : Nat) (a0 : Value) (x : Int32) (st : List Value) (h : fk_H), fk_ev d qX12_readsClause 84 [a0, .int x] st h = fk_ev d qX12_readsClause 85 [a0, .int x] (.int x :: st) h) ∧
  (∀ (d : Nat) (L st : List Value) (h : fk_H), fk_ev d qX12_readsClause 85 L st h = fk_ev d qX12_readsClause 87 L (.int (nI 101) :: st) h) ∧
  (∀ (d : Nat) (L : List Value) (x y : Int32) (st : List Value) (h : fk_H), fk_ev d qX12_readsClause 87 L (.int y :: .int x :: st) h = if x = y then fk_ev d qX12_readsClause 99 L st h else fk_ev d qX12_readsClause 90 L st h) ∧
  (∀ (d : Nat) (a1 : Value) (x : Nat) (st : List Value) (h : fk_H), fk_ev d qX12_readsClause 90 [.ref x, a1] st h = fk_ev d qX12_readsClause 91 [.ref x, a1] (.ref x :: st) h) ∧
  (∀ (d : Nat) (L : List Value)   (N : Nat) (y : Nat → Nat → Int32) (l : Nat → Nat → Int64), fk_ev (d + 1) qX12_readsClause 91 L (.ref 246 :: []) (fk_E N y l) = (fk_ev d qX12_readsSum 0 [.ref 246, .null, .null] [] (fk_E N y l)).bind fun o => fk_ev (d + 1) qX12_readsClause 94 L (o.1.toList ++ []) o.2) ∧
  (∀ (d : Nat) (L : List Value) (x : Int32) (st : List Value) (h : fk_H), fk_ev d qX12_readsClause 94 L (.int x :: st) h = if ¬ x = nI 0 then fk_ev d qX12_readsClause 99 L st h else fk_ev d qX12_readsClause 97 L st h) ∧
  (∀ (d : Nat) (L st : List Value) (h : fk_H), fk_ev d qX12_readsClause 97 L st h = fk_ev d qX12_readsClause 98 L (.int (nI 0) :: st) h) ∧
  (∀ (d : Nat) (L : List Value) (h : fk_H), fk_ev d qX12_readsClause 98 L [.int (nI 0)] h = some (some (.int (nI 0)), h)) ∧
  (∀ (d : Nat) (L : List Value) (h : fk_H), fk_ev d qX12_readsClause 98 L [.int (nI 1)] h = some (some (.int (nI 1)), h)) ∧
  (∀ (d : Nat) (L : List Value) (p : Prop) [Decidable p] (h : fk_H), fk_ev d qX12_readsClause 98 L [.int (fk_b p)] h = some (some (.int (fk_b p)), h)) ∧
  (∀ (d : Nat) (L : List Value) (x : Int32) (h : fk_H), (x = nI 0 ∨ x = nI 1) → fk_ev d qX12_readsClause 98 L [.int x] h = some (some (.int x), h)) ∧
  (∀ (d : Nat) (a1 : Value) (x : Nat) (st : List Value) (h : fk_H), fk_ev d qX12_readsClause 99 [.ref x, a1] st h = fk_ev d qX12_readsClause 100 [.ref x, a1] (.ref x :: st) h) ∧
  (∀ (d : Nat) (L st : List Value) (N : Nat) (y : Nat → Nat → Int32) (l : Nat → Nat → Int64), fk_ev d qX12_readsClause 100 L (.ref 246 :: st) (fk_E N y l) = fk_ev d qX12_readsClause 103 L (.ref 260 :: st) (fk_E N y l)) ∧
  (∀ (d : Nat) (a1 : Value) (x : Nat) (st : List Value) (h : fk_H), fk_ev d qX12_readsClause 103 [.ref x, a1] st h = fk_ev d qX12_readsClause 104 [.ref x, a1] (.ref x :: st) h) ∧
  (∀ (d : Nat) (L st : List Value) (N : Nat) (y : Nat → Nat → Int32) (l : Nat → Nat → Int64), fk_ev d qX12_readsClause 104 L (.ref 246 :: st) (fk_E N y l) = fk_ev d qX12_readsClause 107 L (.int (y 246 18) :: st) (fk_E N y l)) ∧
  (∀ (d : Nat) (a1 : Value) (x : Nat) (st : List Value) (h : fk_H), fk_ev d qX12_readsClause 107 [.ref x, a1] st h = fk_ev d qX12_readsClause 108 [.ref x, a1] (.ref x :: st) h) ∧
  (∀ (d : Nat) (L st : List Value) (N : Nat) (y : Nat → Nat → Int32) (l : Nat → Nat → Int64), fk_ev d qX12_readsClause 108 L (.ref 246 :: st) (fk_E N y l) = fk_ev d qX12_readsClause 111 L (.int (y 246 16) :: st) (fk_E N y l)) ∧
  (∀ (d : Nat) (L st : List Value) (N : Nat) (y : Nat → Nat → Int32) (l : Nat → Nat → Int64) (i : Nat) (v : Int32), i < 16 → fk_ev d qX12_readsClause 111 L (.int v :: .int (nI i) :: .ref 260 :: st) (fk_E N y l) = fk_ev d qX12_readsClause 112 L st (fk_E N (fk_u y 260 i v) l)) ∧
  (∀ (d : Nat) (a1 : Value) (x : Nat) (st : List Value) (h : fk_H), fk_ev d qX12_readsClause 112 [.ref x, a1] st h = fk_ev d qX12_readsClause 113 [.ref x, a1] (.ref x :: st) h) ∧
  (∀ (d : Nat) (L : List Value)   (N : Nat) (y : Nat → Nat → Int32) (l : Nat → Nat → Int64), fk_ev (d + 1) qX12_readsClause 113 L (.ref 246 :: []) (fk_E N y l) = (fk_ev d qX12_readsCondition 0 [.ref 246] [] (fk_E N y l)).bind fun o => fk_ev (d + 1) qX12_readsClause 116 L (o.1.toList ++ []) o.2) ∧
  (∀ (d : Nat) (L : List Value) (x : Int32) (st : List Value) (h : fk_H), fk_ev d qX12_readsClause 116 L (.int x :: st) h = if ¬ x = nI 0 then fk_ev d qX12_readsClause 121 L st h else fk_ev d qX12_readsClause 119 L st h) ∧
  (∀ (d : Nat) (L st : List Value) (h : fk_H), fk_ev d qX12_readsClause 119 L st h = fk_ev d qX12_readsClause 120 L (.int (nI 0) :: st) h) ∧
  (∀ (d : Nat) (L : List Value) (h : fk_H), fk_ev d qX12_readsClause 120 L [.int (nI 0)] h = some (some (.int (nI 0)), h)) ∧
  (∀ (d : Nat) (L : List Value) (h : fk_H), fk_ev d qX12_readsClause 120 L [.int (nI 1)] h = some (some (.int (nI 1)), h)) ∧
  (∀ (d : Nat) (L : List Value) (p : Prop) [Decidable p] (h : fk_H), fk_ev d qX12_readsClause 120 L [.int (fk_b p)] h = some (some (.int (fk_b p)), h)) ∧
  (∀ (d : Nat) (L : List Value) (x : Int32) (h : fk_H), (x = nI 0 ∨ x = nI 1) → fk_ev d qX12_readsClause 120 L [.int x] h = some (some (.int x), h)) ∧
  (∀ (d : Nat) (a1 : Value) (x : Nat) (st : List Value) (h : fk_H), fk_ev d qX12_readsClause 121 [.ref x, a1] st h = fk_ev d qX12_readsClause 122 [.ref x, a1] (.ref x :: st) h) ∧
  (∀ (d : Nat) (L st : List Value) (N : Nat) (y : Nat → Nat → Int32) (l : Nat → Nat → Int64), fk_ev d qX12_readsClause 122 L (.ref 246 :: st) (fk_E N y l) = fk_ev d qX12_readsClause 125 L (.ref 261 :: st) (fk_E N y l)) ∧
  (∀ (d : Nat) (a1 : Value) (x : Nat) (st : List Value) (h : fk_H), fk_ev d qX12_readsClause 125 [.ref x, a1] st h = fk_ev d qX12_readsClause 126 [.ref x, a1] (.ref x :: st) h) ∧
  (∀ (d : Nat) (L st : List Value) (N : Nat) (y : Nat → Nat → Int32) (l : Nat → Nat → Int64), fk_ev d qX12_readsClause 126 L (.ref 246 :: st) (fk_E N y l) = fk_ev d qX12_readsClause 129 L (.int (y 246 18) :: st) (fk_E N y l)) ∧
  (∀ (d : Nat) (a1 : Value) (x : Nat) (st : List Value) (h : fk_H), fk_ev d qX12_readsClause 129 [.ref x, a1] st h = fk_ev d qX12_readsClause 130 [.ref x, a1] (.ref x :: st) h) ∧
  (∀ (d : Nat) (L st : List Value) (N : Nat) (y : Nat → Nat → Int32) (l : Nat → Nat → Int64), fk_ev d qX12_readsClause 130 L (.ref 246 :: st) (fk_E N y l) = fk_ev d qX12_readsClause 133 L (.int (y 246 16) :: st) (fk_E N y l)) ∧
  (∀ (d : Nat) (L st : List Value) (N : Nat) (y : Nat → Nat → Int32) (l : Nat → Nat → Int64) (i : Nat) (v : Int32), i < 16 → fk_ev d qX12_readsClause 133 L (.int v :: .int (nI i) :: .ref 261 :: st) (fk_E N y l) = fk_ev d qX12_readsClause 134 L st (fk_E N (fk_u y 261 i v) l)) ∧
  (∀ (d : Nat) (a1 : Value) (x : Nat) (st : List Value) (h : fk_H), fk_ev d qX12_readsClause 134 [.ref x, a1] st h = fk_ev d qX12_readsClause 135 [.ref x, a1] (.ref x :: st) h) ∧
  (∀ (d : Nat) (a1 : Value) (x : Nat) (st : List Value) (h : fk_H), fk_ev d qX12_readsClause 135 [.ref x, a1] st h = fk_ev d qX12_readsClause 136 [.ref x, a1] (.ref x :: st) h) ∧
  (∀ (d : Nat) (L st : List Value) (N : Nat) (y : Nat → Nat → Int32) (l : Nat → Nat → Int64), fk_ev d qX12_readsClause 136 L (.ref 246 :: st) (fk_E N y l) = fk_ev d qX12_readsClause 139 L (.int (y 246 18) :: st) (fk_E N y l)) ∧
  (∀ (d : Nat) (L st : List Value) (h : fk_H), fk_ev d qX12_readsClause 139 L st h = fk_ev d qX12_readsClause 140 L (.int (nI 1) :: st) h) ∧
  (∀ (d : Nat) (L : List Value) (x y : Int32) (st : List Value) (h : fk_H), fk_ev d qX12_readsClause 140 L (.int y :: .int x :: st) h = fk_ev d qX12_readsClause 141 L (.int (x + y) :: st) h) ∧
  (∀ (d : Nat) (L st : List Value) (N : Nat) (y : Nat → Nat → Int32) (l : Nat → Nat → Int64) (v : Int32), fk_ev d qX12_readsClause 141 L (.int v :: .ref 246 :: st) (fk_E N y l) = fk_ev d qX12_readsClause 144 L st (fk_E N (fk_u y 246 18 v) l)) ∧
  (∀ (d : Nat) (L st : List Value) (h : fk_H), fk_ev d qX12_readsClause 144 L st h = fk_ev d qX12_readsClause 145 L (.int (nI 1) :: st) h) ∧
  (∀ (d : Nat) (L : List Value) (h : fk_H), fk_ev d qX12_readsClause 145 L [.int (nI 0)] h = some (some (.int (nI 0)), h)) ∧
  (∀ (d : Nat) (L : List Value) (h : fk_H), fk_ev d qX12_readsClause 145 L [.int (nI 1)] h = some (some (.int (nI 1)), h)) ∧
  (∀ (d : Nat) (L : List Value) (p : Prop) [Decidable p] (h : fk_H), fk_ev d qX12_readsClause 145 L [.int (fk_b p)] h = some (some (.int (fk_b p)), h)) ∧
  (∀ (d : Nat) (L : List Value) (x : Int32) (h : fk_H), (x = nI 0 ∨ x = nI 1) → fk_ev d qX12_readsClause 145 L [.int x] h = some (some (.int x), h)) := ⟨fun d a1 x st h => fk_w_aloadn 0 [.ref x, a1] dX12_readsClause_0 rfl,
  fun d L  N y l  => fk_g_call [] [] rfl lm_12_161 dX12_readsClause_1 rfl ⟨rfl, by decide⟩ (by simp) fk_at_246,
  fun d a0 a1 x st h => fk_w_istoren 1 2 [] [a0, a1] [a0, .int x] dX12_readsClause_4 rfl rfl (by decide) rfl,
  fun d a0 x st h => fk_w_iloadn 1 [a0, .int x] dX12_readsClause_5 rfl,
  fun d L x0 h => fk_g_calls [.int x0] [] rfl lm_12_232 dX12_readsClause_6 rfl ⟨rfl, by decide⟩ (by simp),
  fun d L x st h => fk_r_if_ne dX12_readsClause_9 (by decide),
  fun d a1 x st h => fk_w_aloadn 0 [.ref x, a1] dX12_readsClause_12 rfl,
  fun d L st h => fk_w_iconst dX12_readsClause_13 (by decide),
  fun d a1 x st h => fk_w_aloadn 0 [.ref x, a1] dX12_readsClause_14 rfl,
  fun d L st N y l => fk_g_getI rfl lf_12_155 (by decide) dX12_readsClause_15 fk_at_246,
  fun d L x0 x1 N y l  => fk_g_call [.int x0, .int x1] [] rfl lm_12_168 dX12_readsClause_18 rfl ⟨rfl, by decide⟩ (by simp) fk_at_246,
  fun d L h => fk_r_ret dX12_readsClause_21 (Or.inr (Or.inl ⟨rfl, by decide⟩)),
  fun d L h => fk_r_ret dX12_readsClause_21 (Or.inr (Or.inl ⟨rfl, by decide⟩)),
  fun d L p _ h => fk_r_ret dX12_readsClause_21 (Or.inr (Or.inl ⟨rfl, fk_b_01⟩)),
  fun d L x h hx => fk_r_ret dX12_readsClause_21 (Or.inr (Or.inl ⟨rfl, hx⟩)),
  fun d a1 x st h => fk_w_aloadn 0 [.ref x, a1] dX12_readsClause_22 rfl,
  fun d L st N y l => fk_g_getI rfl lf_12_235 (by decide) dX12_readsClause_23 fk_at_246,
  fun d L st h => fk_w_bipush dX12_readsClause_26 (by decide),
  fun d L x y st h => fk_r_icmp_ne dX12_readsClause_28 (by decide),
  fun d a1 x st h => fk_w_aloadn 0 [.ref x, a1] dX12_readsClause_31 rfl,
  fun d L st h => fk_w_iconst dX12_readsClause_32 (by decide),
  fun d a1 x st h => fk_w_aloadn 0 [.ref x, a1] dX12_readsClause_33 rfl,
  fun d L st N y l => fk_g_getI rfl lf_12_155 (by decide) dX12_readsClause_34 fk_at_246,
  fun d L x0 x1 N y l  => fk_g_call [.int x0, .int x1] [] rfl lm_12_168 dX12_readsClause_37 rfl ⟨rfl, by decide⟩ (by simp) fk_at_246,
  fun d L h => fk_r_ret dX12_readsClause_40 (Or.inr (Or.inl ⟨rfl, by decide⟩)),
  fun d L h => fk_r_ret dX12_readsClause_40 (Or.inr (Or.inl ⟨rfl, by decide⟩)),
  fun d L p _ h => fk_r_ret dX12_readsClause_40 (Or.inr (Or.inl ⟨rfl, fk_b_01⟩)),
  fun d L x h hx => fk_r_ret dX12_readsClause_40 (Or.inr (Or.inl ⟨rfl, hx⟩)),
  fun d a1 x st h => fk_w_aloadn 0 [.ref x, a1] dX12_readsClause_41 rfl,
  fun d L st N y l => fk_g_getC rfl lf_12_45 (by decide) rfl dX12_readsClause_42 fk_at_246,
  fun d a1 x st h => fk_w_aloadn 0 [.ref x, a1] dX12_readsClause_45 rfl,
  fun d L st N y l => fk_g_getI rfl lf_12_235 (by decide) dX12_readsClause_46 fk_at_246,
  fun d a0 x st h => fk_w_iloadn 1 [a0, .int x] dX12_readsClause_49 rfl,
  fun d L st N y l i v hi => fk_g_iast fk_at_258 fk_ln_258 (by decide) dX12_readsClause_50 hi,
  fun d a1 x st h => fk_w_aloadn 0 [.ref x, a1] dX12_readsClause_51 rfl,
  fun d a1 x st h => fk_w_aloadn 0 [.ref x, a1] dX12_readsClause_52 rfl,
  fun d L st N y l => fk_g_getI rfl lf_12_155 (by decide) dX12_readsClause_53 fk_at_246,
  fun d L st h => fk_w_iconst dX12_readsClause_56 (by decide),
  fun d L x y st h => fk_r_iadd dX12_readsClause_57,
  fun d L st N y l v => fk_g_putI rfl lf_12_155 (by decide) dX12_readsClause_58 rfl fk_at_246,
  fun d a1 x st h => fk_w_aloadn 0 [.ref x, a1] dX12_readsClause_61 rfl,
  fun d L st N y l => fk_g_getC rfl lf_12_48 (by decide) rfl dX12_readsClause_62 fk_at_246,
  fun d a1 x st h => fk_w_aloadn 0 [.ref x, a1] dX12_readsClause_65 rfl,
  fun d L st N y l => fk_g_getI rfl lf_12_235 (by decide) dX12_readsClause_66 fk_at_246,
  fun d a1 x st h => fk_w_aloadn 0 [.ref x, a1] dX12_readsClause_69 rfl,
  fun d L st N y l => fk_g_getI rfl lf_12_178 (by decide) dX12_readsClause_70 fk_at_246,
  fun d L st N y l i v hi => fk_g_iast fk_at_259 fk_ln_259 (by decide) dX12_readsClause_73 hi,
  fun d a1 x st h => fk_w_aloadn 0 [.ref x, a1] dX12_readsClause_74 rfl,
  fun d L st h => fk_w_iconst dX12_readsClause_75 (by decide),
  fun d L st N y l v => fk_g_putI rfl lf_12_182 (by decide) dX12_readsClause_76 rfl fk_at_246,
  fun d a1 x st h => fk_w_aloadn 0 [.ref x, a1] dX12_readsClause_79 rfl,
  fun d L st h => fk_w_iconst dX12_readsClause_80 (by decide),
  fun d L st N y l v => fk_g_putI rfl lf_12_185 (by decide) dX12_readsClause_81 rfl fk_at_246,
  fun d a0 x st h => fk_w_iloadn 1 [a0, .int x] dX12_readsClause_84 rfl,
  fun d L st h => fk_w_bipush dX12_readsClause_85 (by decide),
  fun d L x y st h => fk_r_icmp_eq dX12_readsClause_87 (by decide),
  fun d a1 x st h => fk_w_aloadn 0 [.ref x, a1] dX12_readsClause_90 rfl,
  fun d L  N y l  => fk_g_call [] [] rfl lm_12_217 dX12_readsClause_91 rfl ⟨rfl, by decide⟩ (by simp) fk_at_246,
  fun d L x st h => fk_r_if_ne dX12_readsClause_94 (by decide),
  fun d L st h => fk_w_iconst dX12_readsClause_97 (by decide),
  fun d L h => fk_r_ret dX12_readsClause_98 (Or.inr (Or.inl ⟨rfl, by decide⟩)),
  fun d L h => fk_r_ret dX12_readsClause_98 (Or.inr (Or.inl ⟨rfl, by decide⟩)),
  fun d L p _ h => fk_r_ret dX12_readsClause_98 (Or.inr (Or.inl ⟨rfl, fk_b_01⟩)),
  fun d L x h hx => fk_r_ret dX12_readsClause_98 (Or.inr (Or.inl ⟨rfl, hx⟩)),
  fun d a1 x st h => fk_w_aloadn 0 [.ref x, a1] dX12_readsClause_99 rfl,
  fun d L st N y l => fk_g_getC rfl lf_12_51 (by decide) rfl dX12_readsClause_100 fk_at_246,
  fun d a1 x st h => fk_w_aloadn 0 [.ref x, a1] dX12_readsClause_103 rfl,
  fun d L st N y l => fk_g_getI rfl lf_12_235 (by decide) dX12_readsClause_104 fk_at_246,
  fun d a1 x st h => fk_w_aloadn 0 [.ref x, a1] dX12_readsClause_107 rfl,
  fun d L st N y l => fk_g_getI rfl lf_12_178 (by decide) dX12_readsClause_108 fk_at_246,
  fun d L st N y l i v hi => fk_g_iast fk_at_260 fk_ln_260 (by decide) dX12_readsClause_111 hi,
  fun d a1 x st h => fk_w_aloadn 0 [.ref x, a1] dX12_readsClause_112 rfl,
  fun d L  N y l  => fk_g_call [] [] rfl lm_12_238 dX12_readsClause_113 rfl ⟨rfl, by decide⟩ (by simp) fk_at_246,
  fun d L x st h => fk_r_if_ne dX12_readsClause_116 (by decide),
  fun d L st h => fk_w_iconst dX12_readsClause_119 (by decide),
  fun d L h => fk_r_ret dX12_readsClause_120 (Or.inr (Or.inl ⟨rfl, by decide⟩)),
  fun d L h => fk_r_ret dX12_readsClause_120 (Or.inr (Or.inl ⟨rfl, by decide⟩)),
  fun d L p _ h => fk_r_ret dX12_readsClause_120 (Or.inr (Or.inl ⟨rfl, fk_b_01⟩)),
  fun d L x h hx => fk_r_ret dX12_readsClause_120 (Or.inr (Or.inl ⟨rfl, hx⟩)),
  fun d a1 x st h => fk_w_aloadn 0 [.ref x, a1] dX12_readsClause_121 rfl,
  fun d L st N y l => fk_g_getC rfl lf_12_54 (by decide) rfl dX12_readsClause_122 fk_at_246,
  fun d a1 x st h => fk_w_aloadn 0 [.ref x, a1] dX12_readsClause_125 rfl,
  fun d L st N y l => fk_g_getI rfl lf_12_235 (by decide) dX12_readsClause_126 fk_at_246,
  fun d a1 x st h => fk_w_aloadn 0 [.ref x, a1] dX12_readsClause_129 rfl,
  fun d L st N y l => fk_g_getI rfl lf_12_178 (by decide) dX12_readsClause_130 fk_at_246,
  fun d L st N y l i v hi => fk_g_iast fk_at_261 fk_ln_261 (by decide) dX12_readsClause_133 hi,
  fun d a1 x st h => fk_w_aloadn 0 [.ref x, a1] dX12_readsClause_134 rfl,
  fun d a1 x st h => fk_w_aloadn 0 [.ref x, a1] dX12_readsClause_135 rfl,
  fun d L st N y l => fk_g_getI rfl lf_12_235 (by decide) dX12_readsClause_136 fk_at_246,
  fun d L st h => fk_w_iconst dX12_readsClause_139 (by decide),
  fun d L x y st h => fk_r_iadd dX12_readsClause_140,
  fun d L st N y l v => fk_g_putI rfl lf_12_235 (by decide) dX12_readsClause_141 rfl fk_at_246,
  fun d L st h => fk_w_iconst dX12_readsClause_144 (by decide),
  fun d L h => fk_r_ret dX12_readsClause_145 (Or.inr (Or.inl ⟨rfl, by decide⟩)),
  fun d L h => fk_r_ret dX12_readsClause_145 (Or.inr (Or.inl ⟨rfl, by decide⟩)),
  fun d L p _ h => fk_r_ret dX12_readsClause_145 (Or.inr (Or.inl ⟨rfl, fk_b_01⟩)),
  fun d L x h hx => fk_r_ret dX12_readsClause_145 (Or.inr (Or.inl ⟨rfl, hx⟩))⟩
theorem dX12_law_0 : decode cX12_law 0 = .ok (.iload_n 1, 1) := by decide +kernel
theorem dX12_law_1 : decode cX12_law 1 = .ok (.iconst 1, 1) := by decide +kernel
theorem dX12_law_2 : decode cX12_law 2 = .ok (.sipush 240, 3) := by decide +kernel
theorem dX12_law_5 : decode cX12_law 5 = .ok (.invokestatic 112, 3) := by decide +kernel
theorem dX12_law_8 : decode cX12_law 8 = .ok (.ifCond .eq 11, 3) := by decide +kernel
theorem dX12_law_11 : decode cX12_law 11 = .ok (.iload_n 1, 1) := by decide +kernel
theorem dX12_law_12 : decode cX12_law 12 = .ok (.aload_n 0, 1) := by decide +kernel
theorem dX12_law_13 : decode cX12_law 13 = .ok (.getfield 148, 3) := by decide +kernel
theorem dX12_law_16 : decode cX12_law 16 = .ok (.if_icmp .le 5, 3) := by decide +kernel
theorem dX12_law_19 : decode cX12_law 19 = .ok (.iconst (-1), 1) := by decide +kernel
theorem dX12_law_20 : decode cX12_law 20 = .ok (.ireturn, 1) := by decide +kernel
theorem dX12_law_21 : decode cX12_law 21 = .ok (.aload_n 0, 1) := by decide +kernel
theorem dX12_law_22 : decode cX12_law 22 = .ok (.iconst 0, 1) := by decide +kernel
theorem dX12_law_23 : decode cX12_law 23 = .ok (.putfield 155, 3) := by decide +kernel
theorem dX12_law_26 : decode cX12_law 26 = .ok (.aload_n 0, 1) := by decide +kernel
theorem dX12_law_27 : decode cX12_law 27 = .ok (.iload_n 1, 1) := by decide +kernel
theorem dX12_law_28 : decode cX12_law 28 = .ok (.putfield 158, 3) := by decide +kernel
theorem dX12_law_31 : decode cX12_law 31 = .ok (.aload_n 0, 1) := by decide +kernel
theorem dX12_law_32 : decode cX12_law 32 = .ok (.iconst 0, 1) := by decide +kernel
theorem dX12_law_33 : decode cX12_law 33 = .ok (.putfield 178, 3) := by decide +kernel
theorem dX12_law_36 : decode cX12_law 36 = .ok (.aload_n 0, 1) := by decide +kernel
theorem dX12_law_37 : decode cX12_law 37 = .ok (.iconst 0, 1) := by decide +kernel
theorem dX12_law_38 : decode cX12_law 38 = .ok (.putfield 235, 3) := by decide +kernel
theorem dX12_law_41 : decode cX12_law 41 = .ok (.aload_n 0, 1) := by decide +kernel
theorem dX12_law_42 : decode cX12_law 42 = .ok (.invokevirtual 241, 3) := by decide +kernel
theorem dX12_law_45 : decode cX12_law 45 = .ok (.istore_n 2, 1) := by decide +kernel
theorem dX12_law_46 : decode cX12_law 46 = .ok (.iload_n 2, 1) := by decide +kernel
theorem dX12_law_47 : decode cX12_law 47 = .ok (.ifCond .eq 39, 3) := by decide +kernel
theorem dX12_law_50 : decode cX12_law 50 = .ok (.aload_n 0, 1) := by decide +kernel
theorem dX12_law_51 : decode cX12_law 51 = .ok (.getfield 155, 3) := by decide +kernel
theorem dX12_law_54 : decode cX12_law 54 = .ok (.aload_n 0, 1) := by decide +kernel
theorem dX12_law_55 : decode cX12_law 55 = .ok (.getfield 158, 3) := by decide +kernel
theorem dX12_law_58 : decode cX12_law 58 = .ok (.if_icmp .ge 28, 3) := by decide +kernel
theorem dX12_law_61 : decode cX12_law 61 = .ok (.aload_n 0, 1) := by decide +kernel
theorem dX12_law_62 : decode cX12_law 62 = .ok (.bipush 59, 2) := by decide +kernel
theorem dX12_law_64 : decode cX12_law 64 = .ok (.invokevirtual 244, 3) := by decide +kernel
theorem dX12_law_67 : decode cX12_law 67 = .ok (.ifCond .eq 14, 3) := by decide +kernel
theorem dX12_law_70 : decode cX12_law 70 = .ok (.aload_n 0, 1) := by decide +kernel
theorem dX12_law_71 : decode cX12_law 71 = .ok (.invokevirtual 241, 3) := by decide +kernel
theorem dX12_law_74 : decode cX12_law 74 = .ok (.ifCond .eq 7, 3) := by decide +kernel
theorem dX12_law_77 : decode cX12_law 77 = .ok (.iconst 1, 1) := by decide +kernel
theorem dX12_law_78 : decode cX12_law 78 = .ok (.goto 4, 3) := by decide +kernel
theorem dX12_law_81 : decode cX12_law 81 = .ok (.iconst 0, 1) := by decide +kernel
theorem dX12_law_82 : decode cX12_law 82 = .ok (.istore_n 2, 1) := by decide +kernel
theorem dX12_law_83 : decode cX12_law 83 = .ok (.goto (-37), 3) := by decide +kernel
theorem dX12_law_86 : decode cX12_law 86 = .ok (.aload_n 0, 1) := by decide +kernel
theorem dX12_law_87 : decode cX12_law 87 = .ok (.iconst 0, 1) := by decide +kernel
theorem dX12_law_88 : decode cX12_law 88 = .ok (.putfield 148, 3) := by decide +kernel
theorem dX12_law_91 : decode cX12_law 91 = .ok (.iload_n 2, 1) := by decide +kernel
theorem dX12_law_92 : decode cX12_law 92 = .ok (.ifCond .ne 8, 3) := by decide +kernel
theorem dX12_law_95 : decode cX12_law 95 = .ok (.aload_n 0, 1) := by decide +kernel
theorem dX12_law_96 : decode cX12_law 96 = .ok (.getfield 165, 3) := by decide +kernel
theorem dX12_law_99 : decode cX12_law 99 = .ok (.ireturn, 1) := by decide +kernel
theorem dX12_law_100 : decode cX12_law 100 = .ok (.aload_n 0, 1) := by decide +kernel
theorem dX12_law_101 : decode cX12_law 101 = .ok (.aload_n 0, 1) := by decide +kernel
theorem dX12_law_102 : decode cX12_law 102 = .ok (.getfield 235, 3) := by decide +kernel
theorem dX12_law_105 : decode cX12_law 105 = .ok (.putfield 247, 3) := by decide +kernel
theorem dX12_law_108 : decode cX12_law 108 = .ok (.iconst 0, 1) := by decide +kernel
theorem dX12_law_109 : decode cX12_law 109 = .ok (.istore_n 3, 1) := by decide +kernel
theorem dX12_law_110 : decode cX12_law 110 = .ok (.iload_n 3, 1) := by decide +kernel
theorem dX12_law_111 : decode cX12_law 111 = .ok (.aload_n 0, 1) := by decide +kernel
theorem dX12_law_112 : decode cX12_law 112 = .ok (.getfield 178, 3) := by decide +kernel
theorem dX12_law_115 : decode cX12_law 115 = .ok (.if_icmp .ge 21, 3) := by decide +kernel
theorem dX12_law_118 : decode cX12_law 118 = .ok (.aload_n 0, 1) := by decide +kernel
theorem dX12_law_119 : decode cX12_law 119 = .ok (.getfield 57, 3) := by decide +kernel
theorem dX12_law_122 : decode cX12_law 122 = .ok (.iload_n 3, 1) := by decide +kernel
theorem dX12_law_123 : decode cX12_law 123 = .ok (.aload_n 0, 1) := by decide +kernel
theorem dX12_law_124 : decode cX12_law 124 = .ok (.getfield 39, 3) := by decide +kernel
theorem dX12_law_127 : decode cX12_law 127 = .ok (.iload_n 3, 1) := by decide +kernel
theorem dX12_law_128 : decode cX12_law 128 = .ok (.iaload, 1) := by decide +kernel
theorem dX12_law_129 : decode cX12_law 129 = .ok (.iastore, 1) := by decide +kernel
theorem dX12_law_130 : decode cX12_law 130 = .ok (.iinc 3 1, 3) := by decide +kernel
theorem dX12_law_133 : decode cX12_law 133 = .ok (.goto (-23), 3) := by decide +kernel
theorem dX12_law_136 : decode cX12_law 136 = .ok (.iconst 0, 1) := by decide +kernel
theorem dX12_law_137 : decode cX12_law 137 = .ok (.istore_n 3, 1) := by decide +kernel
theorem dX12_law_138 : decode cX12_law 138 = .ok (.iload_n 3, 1) := by decide +kernel
theorem dX12_law_139 : decode cX12_law 139 = .ok (.aload_n 0, 1) := by decide +kernel
theorem dX12_law_140 : decode cX12_law 140 = .ok (.getfield 235, 3) := by decide +kernel
theorem dX12_law_143 : decode cX12_law 143 = .ok (.if_icmp .ge 57, 3) := by decide +kernel
theorem dX12_law_146 : decode cX12_law 146 = .ok (.aload_n 0, 1) := by decide +kernel
theorem dX12_law_147 : decode cX12_law 147 = .ok (.getfield 60, 3) := by decide +kernel
theorem dX12_law_150 : decode cX12_law 150 = .ok (.iload_n 3, 1) := by decide +kernel
theorem dX12_law_151 : decode cX12_law 151 = .ok (.aload_n 0, 1) := by decide +kernel
theorem dX12_law_152 : decode cX12_law 152 = .ok (.getfield 45, 3) := by decide +kernel
theorem dX12_law_155 : decode cX12_law 155 = .ok (.iload_n 3, 1) := by decide +kernel
theorem dX12_law_156 : decode cX12_law 156 = .ok (.iaload, 1) := by decide +kernel
theorem dX12_law_157 : decode cX12_law 157 = .ok (.iastore, 1) := by decide +kernel
theorem dX12_law_158 : decode cX12_law 158 = .ok (.aload_n 0, 1) := by decide +kernel
theorem dX12_law_159 : decode cX12_law 159 = .ok (.getfield 63, 3) := by decide +kernel
theorem dX12_law_162 : decode cX12_law 162 = .ok (.iload_n 3, 1) := by decide +kernel
theorem dX12_law_163 : decode cX12_law 163 = .ok (.aload_n 0, 1) := by decide +kernel
theorem dX12_law_164 : decode cX12_law 164 = .ok (.getfield 48, 3) := by decide +kernel
theorem dX12_law_167 : decode cX12_law 167 = .ok (.iload_n 3, 1) := by decide +kernel
theorem dX12_law_168 : decode cX12_law 168 = .ok (.iaload, 1) := by decide +kernel
theorem dX12_law_169 : decode cX12_law 169 = .ok (.iastore, 1) := by decide +kernel
theorem dX12_law_170 : decode cX12_law 170 = .ok (.aload_n 0, 1) := by decide +kernel
theorem dX12_law_171 : decode cX12_law 171 = .ok (.getfield 66, 3) := by decide +kernel
theorem dX12_law_174 : decode cX12_law 174 = .ok (.iload_n 3, 1) := by decide +kernel
theorem dX12_law_175 : decode cX12_law 175 = .ok (.aload_n 0, 1) := by decide +kernel
theorem dX12_law_176 : decode cX12_law 176 = .ok (.getfield 51, 3) := by decide +kernel
theorem dX12_law_179 : decode cX12_law 179 = .ok (.iload_n 3, 1) := by decide +kernel
theorem dX12_law_180 : decode cX12_law 180 = .ok (.iaload, 1) := by decide +kernel
theorem dX12_law_181 : decode cX12_law 181 = .ok (.iastore, 1) := by decide +kernel
theorem dX12_law_182 : decode cX12_law 182 = .ok (.aload_n 0, 1) := by decide +kernel
theorem dX12_law_183 : decode cX12_law 183 = .ok (.getfield 69, 3) := by decide +kernel
theorem dX12_law_186 : decode cX12_law 186 = .ok (.iload_n 3, 1) := by decide +kernel
theorem dX12_law_187 : decode cX12_law 187 = .ok (.aload_n 0, 1) := by decide +kernel
theorem dX12_law_188 : decode cX12_law 188 = .ok (.getfield 54, 3) := by decide +kernel
theorem dX12_law_191 : decode cX12_law 191 = .ok (.iload_n 3, 1) := by decide +kernel
theorem dX12_law_192 : decode cX12_law 192 = .ok (.iaload, 1) := by decide +kernel
theorem dX12_law_193 : decode cX12_law 193 = .ok (.iastore, 1) := by decide +kernel
theorem dX12_law_194 : decode cX12_law 194 = .ok (.iinc 3 1, 3) := by decide +kernel
theorem dX12_law_197 : decode cX12_law 197 = .ok (.goto (-59), 3) := by decide +kernel
theorem dX12_law_200 : decode cX12_law 200 = .ok (.aload_n 0, 1) := by decide +kernel
theorem dX12_law_201 : decode cX12_law 201 = .ok (.getfield 235, 3) := by decide +kernel
theorem dX12_law_204 : decode cX12_law 204 = .ok (.ireturn, 1) := by decide +kernel
theorem rX12_law : (∀ (d : Nat) (a0 a2 a3 : Value) (x : Int32) (st : List Value) (h : fk_H), fk_ev d qX12_law 0 [a0, .int x, a2, a3] st h = fk_ev d qX12_law 1 [a0, .int x, a2, a3] (.int x :: st) h) ∧
  (∀ (d : Nat) (L st : List Value) (h : fk_H), fk_ev d qX12_law 1 L st h = fk_ev d qX12_law 2 L (.int (nI 1) :: st) h) ∧
  (∀ (d : Nat) (L st : List Value) (h : fk_H), fk_ev d qX12_law 2 L st h = fk_ev d qX12_law 5 L (.int (nI 240) :: st) h) ∧
  (∀ (d : Nat) (L : List Value) (x0 : Int32) (x1 : Int32) (x2 : Int32)  (h : fk_H), fk_ev (d + 1) qX12_law 5 L (.int x2 :: .int x1 :: .int x0 :: []) h = (fk_ev d qX12_in 0 [.int x0, .int x1, .int x2] [] h).bind fun o => fk_ev (d + 1) qX12_law 8 L (o.1.toList ++ []) o.2) ∧
  (∀ (d : Nat) (L : List Value) (x : Int32) (st : List Value) (h : fk_H), fk_ev d qX12_law 8 L (.int x :: st) h = if x = nI 0 then fk_ev d qX12_law 19 L st h else fk_ev d qX12_law 11 L st h) ∧
  (∀ (d : Nat) (a0 a2 a3 : Value) (x : Int32) (st : List Value) (h : fk_H), fk_ev d qX12_law 11 [a0, .int x, a2, a3] st h = fk_ev d qX12_law 12 [a0, .int x, a2, a3] (.int x :: st) h) ∧
  (∀ (d : Nat) (a1 a2 a3 : Value) (x : Nat) (st : List Value) (h : fk_H), fk_ev d qX12_law 12 [.ref x, a1, a2, a3] st h = fk_ev d qX12_law 13 [.ref x, a1, a2, a3] (.ref x :: st) h) ∧
  (∀ (d : Nat) (L st : List Value) (N : Nat) (y : Nat → Nat → Int32) (l : Nat → Nat → Int64), fk_ev d qX12_law 13 L (.ref 246 :: st) (fk_E N y l) = fk_ev d qX12_law 16 L (.int (y 246 10) :: st) (fk_E N y l)) ∧
  (∀ (d : Nat) (L : List Value) (x y : Int32) (st : List Value) (h : fk_H), fk_ev d qX12_law 16 L (.int y :: .int x :: st) h = if x ≤ y then fk_ev d qX12_law 21 L st h else fk_ev d qX12_law 19 L st h) ∧
  (∀ (d : Nat) (L st : List Value) (h : fk_H), fk_ev d qX12_law 19 L st h = fk_ev d qX12_law 20 L (.int ((-1 : Int32)) :: st) h) ∧
  (∀ (d : Nat) (L : List Value) (x : Int32) (h : fk_H), fk_ev d qX12_law 20 L [.int x] h = some (some (.int x), h)) ∧
  (∀ (d : Nat) (a1 a2 a3 : Value) (x : Nat) (st : List Value) (h : fk_H), fk_ev d qX12_law 21 [.ref x, a1, a2, a3] st h = fk_ev d qX12_law 22 [.ref x, a1, a2, a3] (.ref x :: st) h) ∧
  (∀ (d : Nat) (L st : List Value) (h : fk_H), fk_ev d qX12_law 22 L st h = fk_ev d qX12_law 23 L (.int (nI 0) :: st) h) ∧
  (∀ (d : Nat) (L st : List Value) (N : Nat) (y : Nat → Nat → Int32) (l : Nat → Nat → Int64) (v : Int32), fk_ev d qX12_law 23 L (.int v :: .ref 246 :: st) (fk_E N y l) = fk_ev d qX12_law 26 L st (fk_E N (fk_u y 246 11 v) l)) ∧
  (∀ (d : Nat) (a1 a2 a3 : Value) (x : Nat) (st : List Value) (h : fk_H), fk_ev d qX12_law 26 [.ref x, a1, a2, a3] st h = fk_ev d qX12_law 27 [.ref x, a1, a2, a3] (.ref x :: st) h) ∧
  (∀ (d : Nat) (a0 a2 a3 : Value) (x : Int32) (st : List Value) (h : fk_H), fk_ev d qX12_law 27 [a0, .int x, a2, a3] st h = fk_ev d qX12_law 28 [a0, .int x, a2, a3] (.int x :: st) h) ∧
  (∀ (d : Nat) (L st : List Value) (N : Nat) (y : Nat → Nat → Int32) (l : Nat → Nat → Int64) (v : Int32), fk_ev d qX12_law 28 L (.int v :: .ref 246 :: st) (fk_E N y l) = fk_ev d qX12_law 31 L st (fk_E N (fk_u y 246 12 v) l)) ∧
  (∀ (d : Nat) (a1 a2 a3 : Value) (x : Nat) (st : List Value) (h : fk_H), fk_ev d qX12_law 31 [.ref x, a1, a2, a3] st h = fk_ev d qX12_law 32 [.ref x, a1, a2, a3] (.ref x :: st) h) ∧
  (∀ (d : Nat) (L st : List Value) (h : fk_H), fk_ev d qX12_law 32 L st h = fk_ev d qX12_law 33 L (.int (nI 0) :: st) h) ∧
  (∀ (d : Nat) (L st : List Value) (N : Nat) (y : Nat → Nat → Int32) (l : Nat → Nat → Int64) (v : Int32), fk_ev d qX12_law 33 L (.int v :: .ref 246 :: st) (fk_E N y l) = fk_ev d qX12_law 36 L st (fk_E N (fk_u y 246 16 v) l)) ∧
  (∀ (d : Nat) (a1 a2 a3 : Value) (x : Nat) (st : List Value) (h : fk_H), fk_ev d qX12_law 36 [.ref x, a1, a2, a3] st h = fk_ev d qX12_law 37 [.ref x, a1, a2, a3] (.ref x :: st) h) ∧
  (∀ (d : Nat) (L st : List Value) (h : fk_H), fk_ev d qX12_law 37 L st h = fk_ev d qX12_law 38 L (.int (nI 0) :: st) h) ∧
  (∀ (d : Nat) (L st : List Value) (N : Nat) (y : Nat → Nat → Int32) (l : Nat → Nat → Int64) (v : Int32), fk_ev d qX12_law 38 L (.int v :: .ref 246 :: st) (fk_E N y l) = fk_ev d qX12_law 41 L st (fk_E N (fk_u y 246 18 v) l)) ∧
  (∀ (d : Nat) (a1 a2 a3 : Value) (x : Nat) (st : List Value) (h : fk_H), fk_ev d qX12_law 41 [.ref x, a1, a2, a3] st h = fk_ev d qX12_law 42 [.ref x, a1, a2, a3] (.ref x :: st) h) ∧
  (∀ (d : Nat) (L : List Value)   (N : Nat) (y : Nat → Nat → Int32) (l : Nat → Nat → Int64), fk_ev (d + 1) qX12_law 42 L (.ref 246 :: []) (fk_E N y l) = (fk_ev d qX12_readsClause 0 [.ref 246, .null] [] (fk_E N y l)).bind fun o => fk_ev (d + 1) qX12_law 45 L (o.1.toList ++ []) o.2) ∧
  (∀ (d : Nat) (a0 a1 a2 a3 : Value) (x : Int32) (st : List Value) (h : fk_H), fk_ev d qX12_law 45 [a0, a1, a2, a3] (.int x :: st) h = fk_ev d qX12_law 46 [a0, a1, .int x, a3] st h) ∧
  (∀ (d : Nat) (L : List Value) (x : Int32) (st : List Value) (h : fk_H), fk_ev d qX12_law 47 L (.int x :: st) h = if x = nI 0 then fk_ev d qX12_law 86 L st h else fk_ev d qX12_law 50 L st h) ∧
  (∀ (d : Nat) (a1 a2 a3 : Value) (x : Nat) (st : List Value) (h : fk_H), fk_ev d qX12_law 50 [.ref x, a1, a2, a3] st h = fk_ev d qX12_law 51 [.ref x, a1, a2, a3] (.ref x :: st) h) ∧
  (∀ (d : Nat) (L st : List Value) (N : Nat) (y : Nat → Nat → Int32) (l : Nat → Nat → Int64), fk_ev d qX12_law 51 L (.ref 246 :: st) (fk_E N y l) = fk_ev d qX12_law 54 L (.int (y 246 11) :: st) (fk_E N y l)) ∧
  (∀ (d : Nat) (a1 a2 a3 : Value) (x : Nat) (st : List Value) (h : fk_H), fk_ev d qX12_law 54 [.ref x, a1, a2, a3] st h = fk_ev d qX12_law 55 [.ref x, a1, a2, a3] (.ref x :: st) h) ∧
  (∀ (d : Nat) (L st : List Value) (N : Nat) (y : Nat → Nat → Int32) (l : Nat → Nat → Int64), fk_ev d qX12_law 55 L (.ref 246 :: st) (fk_E N y l) = fk_ev d qX12_law 58 L (.int (y 246 12) :: st) (fk_E N y l)) ∧
  (∀ (d : Nat) (L : List Value) (x y : Int32) (st : List Value) (h : fk_H), fk_ev d qX12_law 58 L (.int y :: .int x :: st) h = if y ≤ x then fk_ev d qX12_law 86 L st h else fk_ev d qX12_law 61 L st h) ∧
  (∀ (d : Nat) (a1 a2 a3 : Value) (x : Nat) (st : List Value) (h : fk_H), fk_ev d qX12_law 61 [.ref x, a1, a2, a3] st h = fk_ev d qX12_law 62 [.ref x, a1, a2, a3] (.ref x :: st) h) ∧
  (∀ (d : Nat) (L st : List Value) (h : fk_H), fk_ev d qX12_law 62 L st h = fk_ev d qX12_law 64 L (.int (nI 59) :: st) h) ∧
  (∀ (d : Nat) (L : List Value) (x0 : Int32)  (N : Nat) (y : Nat → Nat → Int32) (l : Nat → Nat → Int64), fk_ev (d + 1) qX12_law 64 L (.int x0 :: .ref 246 :: []) (fk_E N y l) = (fk_ev d qX12_takes 0 [.ref 246, .int x0] [] (fk_E N y l)).bind fun o => fk_ev (d + 1) qX12_law 67 L (o.1.toList ++ []) o.2) ∧
  (∀ (d : Nat) (L : List Value) (x : Int32) (st : List Value) (h : fk_H), fk_ev d qX12_law 67 L (.int x :: st) h = if x = nI 0 then fk_ev d qX12_law 81 L st h else fk_ev d qX12_law 70 L st h) ∧
  (∀ (d : Nat) (a1 a2 a3 : Value) (x : Nat) (st : List Value) (h : fk_H), fk_ev d qX12_law 70 [.ref x, a1, a2, a3] st h = fk_ev d qX12_law 71 [.ref x, a1, a2, a3] (.ref x :: st) h) ∧
  (∀ (d : Nat) (L : List Value)   (N : Nat) (y : Nat → Nat → Int32) (l : Nat → Nat → Int64), fk_ev (d + 1) qX12_law 71 L (.ref 246 :: []) (fk_E N y l) = (fk_ev d qX12_readsClause 0 [.ref 246, .null] [] (fk_E N y l)).bind fun o => fk_ev (d + 1) qX12_law 74 L (o.1.toList ++ []) o.2) ∧
  (∀ (d : Nat) (L : List Value) (x : Int32) (st : List Value) (h : fk_H), fk_ev d qX12_law 74 L (.int x :: st) h = if x = nI 0 then fk_ev d qX12_law 81 L st h else fk_ev d qX12_law 77 L st h) ∧
  (∀ (d : Nat) (L st : List Value) (h : fk_H), fk_ev d qX12_law 77 L st h = fk_ev d qX12_law 78 L (.int (nI 1) :: st) h) ∧
  (∀ (d : Nat) (L st : List Value) (h : fk_H), fk_ev d qX12_law 78 L st h = fk_ev d qX12_law 82 L st h) ∧
  (∀ (d : Nat) (L st : List Value) (h : fk_H), fk_ev d qX12_law 81 L st h = fk_ev d qX12_law 82 L (.int (nI 0) :: st) h) ∧
  (∀ (d : Nat) (a0 a1 a2 a3 : Value) (x : Int32) (st : List Value) (h : fk_H), fk_ev d qX12_law 82 [a0, a1, a2, a3] (.int x :: st) h = fk_ev d qX12_law 83 [a0, a1, .int x, a3] st h) ∧
  (∀ (d : Nat) (L st : List Value) (h : fk_H), fk_ev d qX12_law 83 L st h = fk_ev d qX12_law 46 L st h) ∧
  (∀ (d : Nat) (a1 a2 a3 : Value) (x : Nat) (st : List Value) (h : fk_H), fk_ev d qX12_law 86 [.ref x, a1, a2, a3] st h = fk_ev d qX12_law 87 [.ref x, a1, a2, a3] (.ref x :: st) h) ∧
  (∀ (d : Nat) (L st : List Value) (h : fk_H), fk_ev d qX12_law 87 L st h = fk_ev d qX12_law 88 L (.int (nI 0) :: st) h) ∧
  (∀ (d : Nat) (L st : List Value) (N : Nat) (y : Nat → Nat → Int32) (l : Nat → Nat → Int64) (v : Int32), fk_ev d qX12_law 88 L (.int v :: .ref 246 :: st) (fk_E N y l) = fk_ev d qX12_law 91 L st (fk_E N (fk_u y 246 10 v) l)) ∧
  (∀ (d : Nat) (a0 a1 a3 : Value) (x : Int32) (st : List Value) (h : fk_H), fk_ev d qX12_law 91 [a0, a1, .int x, a3] st h = fk_ev d qX12_law 92 [a0, a1, .int x, a3] (.int x :: st) h) ∧
  (∀ (d : Nat) (L : List Value) (x : Int32) (st : List Value) (h : fk_H), fk_ev d qX12_law 92 L (.int x :: st) h = if ¬ x = nI 0 then fk_ev d qX12_law 100 L st h else fk_ev d qX12_law 95 L st h) ∧
  (∀ (d : Nat) (a1 a2 a3 : Value) (x : Nat) (st : List Value) (h : fk_H), fk_ev d qX12_law 95 [.ref x, a1, a2, a3] st h = fk_ev d qX12_law 96 [.ref x, a1, a2, a3] (.ref x :: st) h) ∧
  (∀ (d : Nat) (L st : List Value) (N : Nat) (y : Nat → Nat → Int32) (l : Nat → Nat → Int64), fk_ev d qX12_law 96 L (.ref 246 :: st) (fk_E N y l) = fk_ev d qX12_law 99 L (.int (y 246 13) :: st) (fk_E N y l)) ∧
  (∀ (d : Nat) (L : List Value) (x : Int32) (h : fk_H), fk_ev d qX12_law 99 L [.int x] h = some (some (.int x), h)) ∧
  (∀ (d : Nat) (a1 a2 a3 : Value) (x : Nat) (st : List Value) (h : fk_H), fk_ev d qX12_law 100 [.ref x, a1, a2, a3] st h = fk_ev d qX12_law 101 [.ref x, a1, a2, a3] (.ref x :: st) h) ∧
  (∀ (d : Nat) (a1 a2 a3 : Value) (x : Nat) (st : List Value) (h : fk_H), fk_ev d qX12_law 101 [.ref x, a1, a2, a3] st h = fk_ev d qX12_law 102 [.ref x, a1, a2, a3] (.ref x :: st) h) ∧
  (∀ (d : Nat) (L st : List Value) (N : Nat) (y : Nat → Nat → Int32) (l : Nat → Nat → Int64), fk_ev d qX12_law 102 L (.ref 246 :: st) (fk_E N y l) = fk_ev d qX12_law 105 L (.int (y 246 18) :: st) (fk_E N y l)) ∧
  (∀ (d : Nat) (L st : List Value) (N : Nat) (y : Nat → Nat → Int32) (l : Nat → Nat → Int64) (v : Int32), fk_ev d qX12_law 105 L (.int v :: .ref 246 :: st) (fk_E N y l) = fk_ev d qX12_law 108 L st (fk_E N (fk_u y 246 19 v) l)) ∧
  (∀ (d : Nat) (L st : List Value) (h : fk_H), fk_ev d qX12_law 108 L st h = fk_ev d qX12_law 109 L (.int (nI 0) :: st) h) ∧
  (∀ (d : Nat) (a0 a1 a2 a3 : Value) (x : Int32) (st : List Value) (h : fk_H), fk_ev d qX12_law 109 [a0, a1, a2, a3] (.int x :: st) h = fk_ev d qX12_law 110 [a0, a1, a2, .int x] st h) ∧
  (∀ (d : Nat) (a1 a2 a3 : Value) (x : Nat) (st : List Value) (h : fk_H), fk_ev d qX12_law 111 [.ref x, a1, a2, a3] st h = fk_ev d qX12_law 112 [.ref x, a1, a2, a3] (.ref x :: st) h) ∧
  (∀ (d : Nat) (L st : List Value) (N : Nat) (y : Nat → Nat → Int32) (l : Nat → Nat → Int64), fk_ev d qX12_law 112 L (.ref 246 :: st) (fk_E N y l) = fk_ev d qX12_law 115 L (.int (y 246 16) :: st) (fk_E N y l)) ∧
  (∀ (d : Nat) (L : List Value) (x y : Int32) (st : List Value) (h : fk_H), fk_ev d qX12_law 115 L (.int y :: .int x :: st) h = if y ≤ x then fk_ev d qX12_law 136 L st h else fk_ev d qX12_law 118 L st h) ∧
  (∀ (d : Nat) (a1 a2 a3 : Value) (x : Nat) (st : List Value) (h : fk_H), fk_ev d qX12_law 118 [.ref x, a1, a2, a3] st h = fk_ev d qX12_law 119 [.ref x, a1, a2, a3] (.ref x :: st) h) ∧
  (∀ (d : Nat) (L st : List Value) (N : Nat) (y : Nat → Nat → Int32) (l : Nat → Nat → Int64), fk_ev d qX12_law 119 L (.ref 246 :: st) (fk_E N y l) = fk_ev d qX12_law 122 L (.ref 262 :: st) (fk_E N y l)) ∧
  (∀ (d : Nat) (a0 a1 a2 : Value) (x : Int32) (st : List Value) (h : fk_H), fk_ev d qX12_law 122 [a0, a1, a2, .int x] st h = fk_ev d qX12_law 123 [a0, a1, a2, .int x] (.int x :: st) h) ∧
  (∀ (d : Nat) (a1 a2 a3 : Value) (x : Nat) (st : List Value) (h : fk_H), fk_ev d qX12_law 123 [.ref x, a1, a2, a3] st h = fk_ev d qX12_law 124 [.ref x, a1, a2, a3] (.ref x :: st) h) ∧
  (∀ (d : Nat) (L st : List Value) (N : Nat) (y : Nat → Nat → Int32) (l : Nat → Nat → Int64), fk_ev d qX12_law 124 L (.ref 246 :: st) (fk_E N y l) = fk_ev d qX12_law 127 L (.ref 256 :: st) (fk_E N y l)) ∧
  (∀ (d : Nat) (a0 a1 a2 : Value) (x : Int32) (st : List Value) (h : fk_H), fk_ev d qX12_law 127 [a0, a1, a2, .int x] st h = fk_ev d qX12_law 128 [a0, a1, a2, .int x] (.int x :: st) h) ∧
  (∀ (d : Nat) (L st : List Value) (N : Nat) (y : Nat → Nat → Int32) (l : Nat → Nat → Int64) (i : Nat), i < 260 → fk_ev d qX12_law 128 L (.int (nI i) :: .ref 256 :: st) (fk_E N y l) = fk_ev d qX12_law 129 L (.int (y 256 i) :: st) (fk_E N y l)) ∧
  (∀ (d : Nat) (L st : List Value) (N : Nat) (y : Nat → Nat → Int32) (l : Nat → Nat → Int64) (i : Nat) (v : Int32), i < 260 → fk_ev d qX12_law 129 L (.int v :: .int (nI i) :: .ref 262 :: st) (fk_E N y l) = fk_ev d qX12_law 130 L st (fk_E N (fk_u y 262 i v) l)) ∧
  (∀ (d : Nat) (a0 a1 a2 : Value) (x : Int32) (st : List Value) (h : fk_H), fk_ev d qX12_law 130 [a0, a1, a2, .int x] st h = fk_ev d qX12_law 133 [a0, a1, a2, .int (x + nI 1)] st h) ∧
  (∀ (d : Nat) (L st : List Value) (h : fk_H), fk_ev d qX12_law 133 L st h = fk_ev d qX12_law 110 L st h) ∧
  (∀ (d : Nat) (L st : List Value) (h : fk_H), fk_ev d qX12_law 136 L st h = fk_ev d qX12_law 137 L (.int (nI 0) :: st) h) ∧
  (∀ (d : Nat) (a0 a1 a2 a3 : Value) (x : Int32) (st : List Value) (h : fk_H), fk_ev d qX12_law 137 [a0, a1, a2, a3] (.int x :: st) h = fk_ev d qX12_law 138 [a0, a1, a2, .int x] st h) ∧
  (∀ (d : Nat) (a1 a2 a3 : Value) (x : Nat) (st : List Value) (h : fk_H), fk_ev d qX12_law 139 [.ref x, a1, a2, a3] st h = fk_ev d qX12_law 140 [.ref x, a1, a2, a3] (.ref x :: st) h) ∧
  (∀ (d : Nat) (L st : List Value) (N : Nat) (y : Nat → Nat → Int32) (l : Nat → Nat → Int64), fk_ev d qX12_law 140 L (.ref 246 :: st) (fk_E N y l) = fk_ev d qX12_law 143 L (.int (y 246 18) :: st) (fk_E N y l)) ∧
  (∀ (d : Nat) (L : List Value) (x y : Int32) (st : List Value) (h : fk_H), fk_ev d qX12_law 143 L (.int y :: .int x :: st) h = if y ≤ x then fk_ev d qX12_law 200 L st h else fk_ev d qX12_law 146 L st h) ∧
  (∀ (d : Nat) (a1 a2 a3 : Value) (x : Nat) (st : List Value) (h : fk_H), fk_ev d qX12_law 146 [.ref x, a1, a2, a3] st h = fk_ev d qX12_law 147 [.ref x, a1, a2, a3] (.ref x :: st) h) ∧
  (∀ (d : Nat) (L st : List Value) (N : Nat) (y : Nat → Nat → Int32) (l : Nat → Nat → Int64), fk_ev d qX12_law 147 L (.ref 246 :: st) (fk_E N y l) = fk_ev d qX12_law 150 L (.ref 263 :: st) (fk_E N y l)) ∧
  (∀ (d : Nat) (a0 a1 a2 : Value) (x : Int32) (st : List Value) (h : fk_H), fk_ev d qX12_law 150 [a0, a1, a2, .int x] st h = fk_ev d qX12_law 151 [a0, a1, a2, .int x] (.int x :: st) h) ∧
  (∀ (d : Nat) (a1 a2 a3 : Value) (x : Nat) (st : List Value) (h : fk_H), fk_ev d qX12_law 151 [.ref x, a1, a2, a3] st h = fk_ev d qX12_law 152 [.ref x, a1, a2, a3] (.ref x :: st) h) ∧
  (∀ (d : Nat) (L st : List Value) (N : Nat) (y : Nat → Nat → Int32) (l : Nat → Nat → Int64), fk_ev d qX12_law 152 L (.ref 246 :: st) (fk_E N y l) = fk_ev d qX12_law 155 L (.ref 258 :: st) (fk_E N y l)) ∧
  (∀ (d : Nat) (a0 a1 a2 : Value) (x : Int32) (st : List Value) (h : fk_H), fk_ev d qX12_law 155 [a0, a1, a2, .int x] st h = fk_ev d qX12_law 156 [a0, a1, a2, .int x] (.int x :: st) h) ∧
  (∀ (d : Nat) (L st : List Value) (N : Nat) (y : Nat → Nat → Int32) (l : Nat → Nat → Int64) (i : Nat), i < 16 → fk_ev d qX12_law 156 L (.int (nI i) :: .ref 258 :: st) (fk_E N y l) = fk_ev d qX12_law 157 L (.int (y 258 i) :: st) (fk_E N y l)) ∧
  (∀ (d : Nat) (L st : List Value) (N : Nat) (y : Nat → Nat → Int32) (l : Nat → Nat → Int64) (i : Nat) (v : Int32), i < 16 → fk_ev d qX12_law 157 L (.int v :: .int (nI i) :: .ref 263 :: st) (fk_E N y l) = fk_ev d qX12_law 158 L st (fk_E N (fk_u y 263 i v) l)) ∧
  (∀ (d : Nat) (a1 a2 a3 : Value) (x : Nat) (st : List Value) (h : fk_H), fk_ev d qX12_law 158 [.ref x, a1, a2, a3] st h = fk_ev d qX12_law 159 [.ref x, a1, a2, a3] (.ref x :: st) h) ∧
  (∀ (d : Nat) (L st : List Value) (N : Nat) (y : Nat → Nat → Int32) (l : Nat → Nat → Int64), fk_ev d qX12_law 159 L (.ref 246 :: st) (fk_E N y l) = fk_ev d qX12_law 162 L (.ref 264 :: st) (fk_E N y l)) ∧
  (∀ (d : Nat) (a0 a1 a2 : Value) (x : Int32) (st : List Value) (h : fk_H), fk_ev d qX12_law 162 [a0, a1, a2, .int x] st h = fk_ev d qX12_law 163 [a0, a1, a2, .int x] (.int x :: st) h) ∧
  (∀ (d : Nat) (a1 a2 a3 : Value) (x : Nat) (st : List Value) (h : fk_H), fk_ev d qX12_law 163 [.ref x, a1, a2, a3] st h = fk_ev d qX12_law 164 [.ref x, a1, a2, a3] (.ref x :: st) h) ∧
  (∀ (d : Nat) (L st : List Value) (N : Nat) (y : Nat → Nat → Int32) (l : Nat → Nat → Int64), fk_ev d qX12_law 164 L (.ref 246 :: st) (fk_E N y l) = fk_ev d qX12_law 167 L (.ref 259 :: st) (fk_E N y l)) ∧
  (∀ (d : Nat) (a0 a1 a2 : Value) (x : Int32) (st : List Value) (h : fk_H), fk_ev d qX12_law 167 [a0, a1, a2, .int x] st h = fk_ev d qX12_law 168 [a0, a1, a2, .int x] (.int x :: st) h) ∧
  (∀ (d : Nat) (L st : List Value) (N : Nat) (y : Nat → Nat → Int32) (l : Nat → Nat → Int64) (i : Nat), i < 16 → fk_ev d qX12_law 168 L (.int (nI i) :: .ref 259 :: st) (fk_E N y l) = fk_ev d qX12_law 169 L (.int (y 259 i) :: st) (fk_E N y l)) ∧
  (∀ (d : Nat) (L st : List Value) (N : Nat) (y : Nat → Nat → Int32) (l : Nat → Nat → Int64) (i : Nat) (v : Int32), i < 16 → fk_ev d qX12_law 169 L (.int v :: .int (nI i) :: .ref 264 :: st) (fk_E N y l) = fk_ev d qX12_law 170 L st (fk_E N (fk_u y 264 i v) l)) ∧
  (∀ (d : Nat) (a1 a2 a3 : Value) (x : Nat) (st : List Value) (h : fk_H), fk_ev d qX12_law 170 [.ref x, a1, a2, a3] st h = fk_ev d qX12_law 171 [.ref x, a1, a2, a3] (.ref x :: st) h) ∧
  (∀ (d : Nat) (L st : List Value) (N : Nat) (y : Nat → Nat → Int32) (l : Nat → Nat → Int64), fk_ev d qX12_law 171 L (.ref 246 :: st) (fk_E N y l) = fk_ev d qX12_law 174 L (.ref 265 :: st) (fk_E N y l)) ∧
  (∀ (d : Nat) (a0 a1 a2 : Value) (x : Int32) (st : List Value) (h : fk_H), fk_ev d qX12_law 174 [a0, a1, a2, .int x] st h = fk_ev d qX12_law 175 [a0, a1, a2, .int x] (.int x :: st) h) ∧
  (∀ (d : Nat) (a1 a2 a3 : Value) (x : Nat) (st : List Value) (h : fk_H), fk_ev d qX12_law 175 [.ref x, a1, a2, a3] st h = fk_ev d qX12_law 176 [.ref x, a1, a2, a3] (.ref x :: st) h) ∧
  (∀ (d : Nat) (L st : List Value) (N : Nat) (y : Nat → Nat → Int32) (l : Nat → Nat → Int64), fk_ev d qX12_law 176 L (.ref 246 :: st) (fk_E N y l) = fk_ev d qX12_law 179 L (.ref 260 :: st) (fk_E N y l)) ∧
  (∀ (d : Nat) (a0 a1 a2 : Value) (x : Int32) (st : List Value) (h : fk_H), fk_ev d qX12_law 179 [a0, a1, a2, .int x] st h = fk_ev d qX12_law 180 [a0, a1, a2, .int x] (.int x :: st) h) ∧
  (∀ (d : Nat) (L st : List Value) (N : Nat) (y : Nat → Nat → Int32) (l : Nat → Nat → Int64) (i : Nat), i < 16 → fk_ev d qX12_law 180 L (.int (nI i) :: .ref 260 :: st) (fk_E N y l) = fk_ev d qX12_law 181 L (.int (y 260 i) :: st) (fk_E N y l)) ∧
  (∀ (d : Nat) (L st : List Value) (N : Nat) (y : Nat → Nat → Int32) (l : Nat → Nat → Int64) (i : Nat) (v : Int32), i < 16 → fk_ev d qX12_law 181 L (.int v :: .int (nI i) :: .ref 265 :: st) (fk_E N y l) = fk_ev d qX12_law 182 L st (fk_E N (fk_u y 265 i v) l)) ∧
  (∀ (d : Nat) (a1 a2 a3 : Value) (x : Nat) (st : List Value) (h : fk_H), fk_ev d qX12_law 182 [.ref x, a1, a2, a3] st h = fk_ev d qX12_law 183 [.ref x, a1, a2, a3] (.ref x :: st) h) ∧
  (∀ (d : Nat) (L st : List Value) (N : Nat) (y : Nat → Nat → Int32) (l : Nat → Nat → Int64), fk_ev d qX12_law 183 L (.ref 246 :: st) (fk_E N y l) = fk_ev d qX12_law 186 L (.ref 266 :: st) (fk_E N y l)) ∧
  (∀ (d : Nat) (a0 a1 a2 : Value) (x : Int32) (st : List Value) (h : fk_H), fk_ev d qX12_law 186 [a0, a1, a2, .int x] st h = fk_ev d qX12_law 187 [a0, a1, a2, .int x] (.int x :: st) h) ∧
  (∀ (d : Nat) (a1 a2 a3 : Value) (x : Nat) (st : List Value) (h : fk_H), fk_ev d qX12_law 187 [.ref x, a1, a2, a3] st h = fk_ev d qX12_law 188 [.ref x, a1, a2, a3] (.ref x :: st) h) ∧
  (∀ (d : Nat) (L st : List Value) (N : Nat) (y : Nat → Nat → Int32) (l : Nat → Nat → Int64), fk_ev d qX12_law 188 L (.ref 246 :: st) (fk_E N y l) = fk_ev d qX12_law 191 L (.ref 261 :: st) (fk_E N y l)) ∧
  (∀ (d : Nat) (a0 a1 a2 : Value) (x : Int32) (st : List Value) (h : fk_H), fk_ev d qX12_law 191 [a0, a1, a2, .int x] st h = fk_ev d qX12_law 192 [a0, a1, a2, .int x] (.int x :: st) h) ∧
  (∀ (d : Nat) (L st : List Value) (N : Nat) (y : Nat → Nat → Int32) (l : Nat → Nat → Int64) (i : Nat), i < 16 → fk_ev d qX12_law 192 L (.int (nI i) :: .ref 261 :: st) (fk_E N y l) = fk_ev d qX12_law 193 L (.int (y 261 i) :: st) (fk_E N y l)) ∧
  (∀ (d : Nat) (L st : List Value) (N : Nat) (y : Nat → Nat → Int32) (l : Nat → Nat → Int64) (i : Nat) (v : Int32), i < 16 → fk_ev d qX12_law 193 L (.int v :: .int (nI i) :: .ref 266 :: st) (fk_E N y l) = fk_ev d qX12_law 194 L st (fk_E N (fk_u y 266 i v) l)) ∧
  (∀ (d : Nat) (a0 a1 a2 : Value) (x : Int32) (st : List Value) (h : fk_H), fk_ev d qX12_law 194 [a0, a1, a2, .int x] st h = fk_ev d qX12_law 197 [a0, a1, a2, .int (x + nI 1)] st h) ∧
  (∀ (d : Nat) (L st : List Value) (h : fk_H), fk_ev d qX12_law 197 L st h = fk_ev d qX12_law 138 L st h) ∧
  (∀ (d : Nat) (a1 a2 a3 : Value) (x : Nat) (st : List Value) (h : fk_H), fk_ev d qX12_law 200 [.ref x, a1, a2, a3] st h = fk_ev d qX12_law 201 [.ref x, a1, a2, a3] (.ref x :: st) h) ∧
  (∀ (d : Nat) (L st : List Value) (N : Nat) (y : Nat → Nat → Int32) (l : Nat → Nat → Int64), fk_ev d qX12_law 201 L (.ref 246 :: st) (fk_E N y l) = fk_ev d qX12_law 204 L (.int (y 246 18) :: st) (fk_E N y l)) ∧
  (∀ (d : Nat) (L : List Value) (x : Int32) (h : fk_H), fk_ev d qX12_law 204 L [.int x] h = some (some (.int x), h)) := ⟨fun d a0 a2 a3 x st h => fk_w_iloadn 1 [a0, .int x, a2, a3] dX12_law_0 rfl,
  fun d L st h => fk_w_iconst dX12_law_1 (by decide),
  fun d L st h => fk_w_sipush dX12_law_2 (by decide),
  fun d L x0 x1 x2 h => fk_g_calls [.int x0, .int x1, .int x2] [] rfl lm_12_112 dX12_law_5 rfl ⟨rfl, by decide⟩ (by simp),
  fun d L x st h => fk_r_if_eq dX12_law_8 (by decide),
  fun d a0 a2 a3 x st h => fk_w_iloadn 1 [a0, .int x, a2, a3] dX12_law_11 rfl,
  fun d a1 a2 a3 x st h => fk_w_aloadn 0 [.ref x, a1, a2, a3] dX12_law_12 rfl,
  fun d L st N y l => fk_g_getI rfl lf_12_148 (by decide) dX12_law_13 fk_at_246,
  fun d L x y st h => fk_r_icmp_le dX12_law_16 (by decide),
  fun d L st h => fk_w_iconst dX12_law_19 (by decide),
  fun d L x h => fk_r_ret dX12_law_20 (Or.inl rfl),
  fun d a1 a2 a3 x st h => fk_w_aloadn 0 [.ref x, a1, a2, a3] dX12_law_21 rfl,
  fun d L st h => fk_w_iconst dX12_law_22 (by decide),
  fun d L st N y l v => fk_g_putI rfl lf_12_155 (by decide) dX12_law_23 rfl fk_at_246,
  fun d a1 a2 a3 x st h => fk_w_aloadn 0 [.ref x, a1, a2, a3] dX12_law_26 rfl,
  fun d a0 a2 a3 x st h => fk_w_iloadn 1 [a0, .int x, a2, a3] dX12_law_27 rfl,
  fun d L st N y l v => fk_g_putI rfl lf_12_158 (by decide) dX12_law_28 rfl fk_at_246,
  fun d a1 a2 a3 x st h => fk_w_aloadn 0 [.ref x, a1, a2, a3] dX12_law_31 rfl,
  fun d L st h => fk_w_iconst dX12_law_32 (by decide),
  fun d L st N y l v => fk_g_putI rfl lf_12_178 (by decide) dX12_law_33 rfl fk_at_246,
  fun d a1 a2 a3 x st h => fk_w_aloadn 0 [.ref x, a1, a2, a3] dX12_law_36 rfl,
  fun d L st h => fk_w_iconst dX12_law_37 (by decide),
  fun d L st N y l v => fk_g_putI rfl lf_12_235 (by decide) dX12_law_38 rfl fk_at_246,
  fun d a1 a2 a3 x st h => fk_w_aloadn 0 [.ref x, a1, a2, a3] dX12_law_41 rfl,
  fun d L  N y l  => fk_g_call [] [] rfl lm_12_241 dX12_law_42 rfl ⟨rfl, by decide⟩ (by simp) fk_at_246,
  fun d a0 a1 a2 a3 x st h => fk_w_istoren 2 4 [] [a0, a1, a2, a3] [a0, a1, .int x, a3] dX12_law_45 rfl rfl (by decide) rfl,
  fun d L x st h => fk_r_if_eq dX12_law_47 (by decide),
  fun d a1 a2 a3 x st h => fk_w_aloadn 0 [.ref x, a1, a2, a3] dX12_law_50 rfl,
  fun d L st N y l => fk_g_getI rfl lf_12_155 (by decide) dX12_law_51 fk_at_246,
  fun d a1 a2 a3 x st h => fk_w_aloadn 0 [.ref x, a1, a2, a3] dX12_law_54 rfl,
  fun d L st N y l => fk_g_getI rfl lf_12_158 (by decide) dX12_law_55 fk_at_246,
  fun d L x y st h => fk_r_icmp_ge dX12_law_58 (by decide),
  fun d a1 a2 a3 x st h => fk_w_aloadn 0 [.ref x, a1, a2, a3] dX12_law_61 rfl,
  fun d L st h => fk_w_bipush dX12_law_62 (by decide),
  fun d L x0 N y l  => fk_g_call [.int x0] [] rfl lm_12_244 dX12_law_64 rfl ⟨rfl, by decide⟩ (by simp) fk_at_246,
  fun d L x st h => fk_r_if_eq dX12_law_67 (by decide),
  fun d a1 a2 a3 x st h => fk_w_aloadn 0 [.ref x, a1, a2, a3] dX12_law_70 rfl,
  fun d L  N y l  => fk_g_call [] [] rfl lm_12_241 dX12_law_71 rfl ⟨rfl, by decide⟩ (by simp) fk_at_246,
  fun d L x st h => fk_r_if_eq dX12_law_74 (by decide),
  fun d L st h => fk_w_iconst dX12_law_77 (by decide),
  fun d L st h => fk_r_goto dX12_law_78 (by decide),
  fun d L st h => fk_w_iconst dX12_law_81 (by decide),
  fun d a0 a1 a2 a3 x st h => fk_w_istoren 2 4 [] [a0, a1, a2, a3] [a0, a1, .int x, a3] dX12_law_82 rfl rfl (by decide) rfl,
  fun d L st h => fk_r_goto dX12_law_83 (by decide),
  fun d a1 a2 a3 x st h => fk_w_aloadn 0 [.ref x, a1, a2, a3] dX12_law_86 rfl,
  fun d L st h => fk_w_iconst dX12_law_87 (by decide),
  fun d L st N y l v => fk_g_putI rfl lf_12_148 (by decide) dX12_law_88 rfl fk_at_246,
  fun d a0 a1 a3 x st h => fk_w_iloadn 2 [a0, a1, .int x, a3] dX12_law_91 rfl,
  fun d L x st h => fk_r_if_ne dX12_law_92 (by decide),
  fun d a1 a2 a3 x st h => fk_w_aloadn 0 [.ref x, a1, a2, a3] dX12_law_95 rfl,
  fun d L st N y l => fk_g_getI rfl lf_12_165 (by decide) dX12_law_96 fk_at_246,
  fun d L x h => fk_r_ret dX12_law_99 (Or.inl rfl),
  fun d a1 a2 a3 x st h => fk_w_aloadn 0 [.ref x, a1, a2, a3] dX12_law_100 rfl,
  fun d a1 a2 a3 x st h => fk_w_aloadn 0 [.ref x, a1, a2, a3] dX12_law_101 rfl,
  fun d L st N y l => fk_g_getI rfl lf_12_235 (by decide) dX12_law_102 fk_at_246,
  fun d L st N y l v => fk_g_putI rfl lf_12_247 (by decide) dX12_law_105 rfl fk_at_246,
  fun d L st h => fk_w_iconst dX12_law_108 (by decide),
  fun d a0 a1 a2 a3 x st h => fk_w_istoren 3 4 [] [a0, a1, a2, a3] [a0, a1, a2, .int x] dX12_law_109 rfl rfl (by decide) rfl,
  fun d a1 a2 a3 x st h => fk_w_aloadn 0 [.ref x, a1, a2, a3] dX12_law_111 rfl,
  fun d L st N y l => fk_g_getI rfl lf_12_178 (by decide) dX12_law_112 fk_at_246,
  fun d L x y st h => fk_r_icmp_ge dX12_law_115 (by decide),
  fun d a1 a2 a3 x st h => fk_w_aloadn 0 [.ref x, a1, a2, a3] dX12_law_118 rfl,
  fun d L st N y l => fk_g_getC rfl lf_12_57 (by decide) rfl dX12_law_119 fk_at_246,
  fun d a0 a1 a2 x st h => fk_w_iloadn 3 [a0, a1, a2, .int x] dX12_law_122 rfl,
  fun d a1 a2 a3 x st h => fk_w_aloadn 0 [.ref x, a1, a2, a3] dX12_law_123 rfl,
  fun d L st N y l => fk_g_getC rfl lf_12_39 (by decide) rfl dX12_law_124 fk_at_246,
  fun d a0 a1 a2 x st h => fk_w_iloadn 3 [a0, a1, a2, .int x] dX12_law_127 rfl,
  fun d L st N y l i hi => fk_g_iald fk_at_256 fk_ln_256 (by decide) dX12_law_128 hi,
  fun d L st N y l i v hi => fk_g_iast fk_at_262 fk_ln_262 (by decide) dX12_law_129 hi,
  fun d a0 a1 a2 x st h => fk_w_iinc 3 4 (1) [] [a0, a1, a2, .int x] [a0, a1, a2, .int (x + nI 1)] dX12_law_130 rfl rfl rfl (by decide) rfl,
  fun d L st h => fk_r_goto dX12_law_133 (by decide),
  fun d L st h => fk_w_iconst dX12_law_136 (by decide),
  fun d a0 a1 a2 a3 x st h => fk_w_istoren 3 4 [] [a0, a1, a2, a3] [a0, a1, a2, .int x] dX12_law_137 rfl rfl (by decide) rfl,
  fun d a1 a2 a3 x st h => fk_w_aloadn 0 [.ref x, a1, a2, a3] dX12_law_139 rfl,
  fun d L st N y l => fk_g_getI rfl lf_12_235 (by decide) dX12_law_140 fk_at_246,
  fun d L x y st h => fk_r_icmp_ge dX12_law_143 (by decide),
  fun d a1 a2 a3 x st h => fk_w_aloadn 0 [.ref x, a1, a2, a3] dX12_law_146 rfl,
  fun d L st N y l => fk_g_getC rfl lf_12_60 (by decide) rfl dX12_law_147 fk_at_246,
  fun d a0 a1 a2 x st h => fk_w_iloadn 3 [a0, a1, a2, .int x] dX12_law_150 rfl,
  fun d a1 a2 a3 x st h => fk_w_aloadn 0 [.ref x, a1, a2, a3] dX12_law_151 rfl,
  fun d L st N y l => fk_g_getC rfl lf_12_45 (by decide) rfl dX12_law_152 fk_at_246,
  fun d a0 a1 a2 x st h => fk_w_iloadn 3 [a0, a1, a2, .int x] dX12_law_155 rfl,
  fun d L st N y l i hi => fk_g_iald fk_at_258 fk_ln_258 (by decide) dX12_law_156 hi,
  fun d L st N y l i v hi => fk_g_iast fk_at_263 fk_ln_263 (by decide) dX12_law_157 hi,
  fun d a1 a2 a3 x st h => fk_w_aloadn 0 [.ref x, a1, a2, a3] dX12_law_158 rfl,
  fun d L st N y l => fk_g_getC rfl lf_12_63 (by decide) rfl dX12_law_159 fk_at_246,
  fun d a0 a1 a2 x st h => fk_w_iloadn 3 [a0, a1, a2, .int x] dX12_law_162 rfl,
  fun d a1 a2 a3 x st h => fk_w_aloadn 0 [.ref x, a1, a2, a3] dX12_law_163 rfl,
  fun d L st N y l => fk_g_getC rfl lf_12_48 (by decide) rfl dX12_law_164 fk_at_246,
  fun d a0 a1 a2 x st h => fk_w_iloadn 3 [a0, a1, a2, .int x] dX12_law_167 rfl,
  fun d L st N y l i hi => fk_g_iald fk_at_259 fk_ln_259 (by decide) dX12_law_168 hi,
  fun d L st N y l i v hi => fk_g_iast fk_at_264 fk_ln_264 (by decide) dX12_law_169 hi,
  fun d a1 a2 a3 x st h => fk_w_aloadn 0 [.ref x, a1, a2, a3] dX12_law_170 rfl,
  fun d L st N y l => fk_g_getC rfl lf_12_66 (by decide) rfl dX12_law_171 fk_at_246,
  fun d a0 a1 a2 x st h => fk_w_iloadn 3 [a0, a1, a2, .int x] dX12_law_174 rfl,
  fun d a1 a2 a3 x st h => fk_w_aloadn 0 [.ref x, a1, a2, a3] dX12_law_175 rfl,
  fun d L st N y l => fk_g_getC rfl lf_12_51 (by decide) rfl dX12_law_176 fk_at_246,
  fun d a0 a1 a2 x st h => fk_w_iloadn 3 [a0, a1, a2, .int x] dX12_law_179 rfl,
  fun d L st N y l i hi => fk_g_iald fk_at_260 fk_ln_260 (by decide) dX12_law_180 hi,
  fun d L st N y l i v hi => fk_g_iast fk_at_265 fk_ln_265 (by decide) dX12_law_181 hi,
  fun d a1 a2 a3 x st h => fk_w_aloadn 0 [.ref x, a1, a2, a3] dX12_law_182 rfl,
  fun d L st N y l => fk_g_getC rfl lf_12_69 (by decide) rfl dX12_law_183 fk_at_246,
  fun d a0 a1 a2 x st h => fk_w_iloadn 3 [a0, a1, a2, .int x] dX12_law_186 rfl,
  fun d a1 a2 a3 x st h => fk_w_aloadn 0 [.ref x, a1, a2, a3] dX12_law_187 rfl,
  fun d L st N y l => fk_g_getC rfl lf_12_54 (by decide) rfl dX12_law_188 fk_at_246,
  fun d a0 a1 a2 x st h => fk_w_iloadn 3 [a0, a1, a2, .int x] dX12_law_191 rfl,
  fun d L st N y l i hi => fk_g_iald fk_at_261 fk_ln_261 (by decide) dX12_law_192 hi,
  fun d L st N y l i v hi => fk_g_iast fk_at_266 fk_ln_266 (by decide) dX12_law_193 hi,
  fun d a0 a1 a2 x st h => fk_w_iinc 3 4 (1) [] [a0, a1, a2, .int x] [a0, a1, a2, .int (x + nI 1)] dX12_law_194 rfl rfl rfl (by decide) rfl,
  fun d L st h => fk_r_goto dX12_law_197 (by decide),
  fun d a1 a2 a3 x st h => fk_w_aloadn 0 [.ref x, a1, a2, a3] dX12_law_200 rfl,
  fun d L st N y l => fk_g_getI rfl lf_12_235 (by decide) dX12_law_201 fk_at_246,
  fun d L x h => fk_r_ret dX12_law_204 (Or.inl rfl)⟩
theorem hX12_law_46 : ∀ (d : Nat) (a0 a1 a3 : Value) (x : Int32) (st : List Value) (h : fk_H), fk_ev d qX12_law 46 [a0, a1, .int x, a3] st h = fk_ev d qX12_law 47 [a0, a1, .int x, a3] (.int x :: st) h := fun d a0 a1 a3 x st h => fk_w_iloadn 2 [a0, a1, .int x, a3] dX12_law_46 rfl
theorem hX12_law_110 : ∀ (d : Nat) (a0 a1 a2 : Value) (x : Int32) (st : List Value) (h : fk_H), fk_ev d qX12_law 110 [a0, a1, a2, .int x] st h = fk_ev d qX12_law 111 [a0, a1, a2, .int x] (.int x :: st) h := fun d a0 a1 a2 x st h => fk_w_iloadn 3 [a0, a1, a2, .int x] dX12_law_110 rfl
theorem hX12_law_138 : ∀ (d : Nat) (a0 a1 a2 : Value) (x : Int32) (st : List Value) (h : fk_H), fk_ev d qX12_law 138 [a0, a1, a2, .int x] st h = fk_ev d qX12_law 139 [a0, a1, a2, .int x] (.int x :: st) h := fun d a0 a1 a2 x st h => fk_w_iloadn 3 [a0, a1, a2, .int x] dX12_law_138 rfl
theorem dX12_reckon_0 : decode cX12_reckon 0 = .ok (.iload_n 0, 1) := by decide +kernel
theorem dX12_reckon_1 : decode cX12_reckon 1 = .ok (.tableswitch 85 2 8 #[43, 47, 51, 55, 59, 63, 74], 43) := by decide +kernel
theorem dX12_reckon_44 : decode cX12_reckon 44 = .ok (.iload_n 1, 1) := by decide +kernel
theorem dX12_reckon_45 : decode cX12_reckon 45 = .ok (.iload_n 2, 1) := by decide +kernel
theorem dX12_reckon_46 : decode cX12_reckon 46 = .ok (.iadd, 1) := by decide +kernel
theorem dX12_reckon_47 : decode cX12_reckon 47 = .ok (.ireturn, 1) := by decide +kernel
theorem dX12_reckon_48 : decode cX12_reckon 48 = .ok (.iload_n 1, 1) := by decide +kernel
theorem dX12_reckon_49 : decode cX12_reckon 49 = .ok (.iload_n 2, 1) := by decide +kernel
theorem dX12_reckon_50 : decode cX12_reckon 50 = .ok (.isub, 1) := by decide +kernel
theorem dX12_reckon_51 : decode cX12_reckon 51 = .ok (.ireturn, 1) := by decide +kernel
theorem dX12_reckon_52 : decode cX12_reckon 52 = .ok (.iload_n 1, 1) := by decide +kernel
theorem dX12_reckon_53 : decode cX12_reckon 53 = .ok (.iload_n 2, 1) := by decide +kernel
theorem dX12_reckon_54 : decode cX12_reckon 54 = .ok (.imul, 1) := by decide +kernel
theorem dX12_reckon_55 : decode cX12_reckon 55 = .ok (.ireturn, 1) := by decide +kernel
theorem dX12_reckon_56 : decode cX12_reckon 56 = .ok (.iload_n 1, 1) := by decide +kernel
theorem dX12_reckon_57 : decode cX12_reckon 57 = .ok (.iload_n 2, 1) := by decide +kernel
theorem dX12_reckon_58 : decode cX12_reckon 58 = .ok (.idiv, 1) := by decide +kernel
theorem dX12_reckon_59 : decode cX12_reckon 59 = .ok (.ireturn, 1) := by decide +kernel
theorem dX12_reckon_60 : decode cX12_reckon 60 = .ok (.iload_n 1, 1) := by decide +kernel
theorem dX12_reckon_61 : decode cX12_reckon 61 = .ok (.iload_n 2, 1) := by decide +kernel
theorem dX12_reckon_62 : decode cX12_reckon 62 = .ok (.irem, 1) := by decide +kernel
theorem dX12_reckon_63 : decode cX12_reckon 63 = .ok (.ireturn, 1) := by decide +kernel
theorem dX12_reckon_64 : decode cX12_reckon 64 = .ok (.iload_n 1, 1) := by decide +kernel
theorem dX12_reckon_65 : decode cX12_reckon 65 = .ok (.iload_n 2, 1) := by decide +kernel
theorem dX12_reckon_66 : decode cX12_reckon 66 = .ok (.if_icmp .ge 7, 3) := by decide +kernel
theorem dX12_reckon_69 : decode cX12_reckon 69 = .ok (.iconst 1, 1) := by decide +kernel
theorem dX12_reckon_70 : decode cX12_reckon 70 = .ok (.goto 4, 3) := by decide +kernel
theorem dX12_reckon_73 : decode cX12_reckon 73 = .ok (.iconst 0, 1) := by decide +kernel
theorem dX12_reckon_74 : decode cX12_reckon 74 = .ok (.ireturn, 1) := by decide +kernel
theorem dX12_reckon_75 : decode cX12_reckon 75 = .ok (.iload_n 1, 1) := by decide +kernel
theorem dX12_reckon_76 : decode cX12_reckon 76 = .ok (.iload_n 2, 1) := by decide +kernel
theorem dX12_reckon_77 : decode cX12_reckon 77 = .ok (.if_icmp .le 7, 3) := by decide +kernel
theorem dX12_reckon_80 : decode cX12_reckon 80 = .ok (.iconst 1, 1) := by decide +kernel
theorem dX12_reckon_81 : decode cX12_reckon 81 = .ok (.goto 4, 3) := by decide +kernel
theorem dX12_reckon_84 : decode cX12_reckon 84 = .ok (.iconst 0, 1) := by decide +kernel
theorem dX12_reckon_85 : decode cX12_reckon 85 = .ok (.ireturn, 1) := by decide +kernel
theorem dX12_reckon_86 : decode cX12_reckon 86 = .ok (.iload_n 1, 1) := by decide +kernel
theorem dX12_reckon_87 : decode cX12_reckon 87 = .ok (.iload_n 2, 1) := by decide +kernel
theorem dX12_reckon_88 : decode cX12_reckon 88 = .ok (.if_icmp .ne 7, 3) := by decide +kernel
theorem dX12_reckon_91 : decode cX12_reckon 91 = .ok (.iconst 1, 1) := by decide +kernel
theorem dX12_reckon_92 : decode cX12_reckon 92 = .ok (.goto 4, 3) := by decide +kernel
theorem dX12_reckon_95 : decode cX12_reckon 95 = .ok (.iconst 0, 1) := by decide +kernel
theorem dX12_reckon_96 : decode cX12_reckon 96 = .ok (.ireturn, 1) := by decide +kernel
theorem rX12_reckon : (∀ (d : Nat) (a1 a2 : Value) (x : Int32) (st : List Value) (h : fk_H), fk_ev d qX12_reckon 0 [.int x, a1, a2] st h = fk_ev d qX12_reckon 1 [.int x, a1, a2] (.int x :: st) h) ∧
  (∀ (d : Nat) (L st : List Value) (h : fk_H), fk_ev d qX12_reckon 1 L (.int (nI 2) :: st) h = fk_ev d qX12_reckon 44 L st h) ∧
  (∀ (d : Nat) (L st : List Value) (h : fk_H), fk_ev d qX12_reckon 1 L (.int (nI 3) :: st) h = fk_ev d qX12_reckon 48 L st h) ∧
  (∀ (d : Nat) (L st : List Value) (h : fk_H), fk_ev d qX12_reckon 1 L (.int (nI 4) :: st) h = fk_ev d qX12_reckon 52 L st h) ∧
  (∀ (d : Nat) (L st : List Value) (h : fk_H), fk_ev d qX12_reckon 1 L (.int (nI 5) :: st) h = fk_ev d qX12_reckon 56 L st h) ∧
  (∀ (d : Nat) (L st : List Value) (h : fk_H), fk_ev d qX12_reckon 1 L (.int (nI 6) :: st) h = fk_ev d qX12_reckon 60 L st h) ∧
  (∀ (d : Nat) (L st : List Value) (h : fk_H), fk_ev d qX12_reckon 1 L (.int (nI 7) :: st) h = fk_ev d qX12_reckon 64 L st h) ∧
  (∀ (d : Nat) (L st : List Value) (h : fk_H), fk_ev d qX12_reckon 1 L (.int (nI 8) :: st) h = fk_ev d qX12_reckon 75 L st h) ∧
  (∀ (d : Nat) (L : List Value) (x : Int32) (st : List Value) (h : fk_H), (x.toInt < 2 ∨ 8 < x.toInt) → fk_ev d qX12_reckon 1 L (.int x :: st) h = fk_ev d qX12_reckon 86 L st h) ∧
  (∀ (d : Nat) (a0 a2 : Value) (x : Int32) (st : List Value) (h : fk_H), fk_ev d qX12_reckon 44 [a0, .int x, a2] st h = fk_ev d qX12_reckon 45 [a0, .int x, a2] (.int x :: st) h) ∧
  (∀ (d : Nat) (a0 a1 : Value) (x : Int32) (st : List Value) (h : fk_H), fk_ev d qX12_reckon 45 [a0, a1, .int x] st h = fk_ev d qX12_reckon 46 [a0, a1, .int x] (.int x :: st) h) ∧
  (∀ (d : Nat) (L : List Value) (x y : Int32) (st : List Value) (h : fk_H), fk_ev d qX12_reckon 46 L (.int y :: .int x :: st) h = fk_ev d qX12_reckon 47 L (.int (x + y) :: st) h) ∧
  (∀ (d : Nat) (L : List Value) (x : Int32) (h : fk_H), fk_ev d qX12_reckon 47 L [.int x] h = some (some (.int x), h)) ∧
  (∀ (d : Nat) (a0 a2 : Value) (x : Int32) (st : List Value) (h : fk_H), fk_ev d qX12_reckon 48 [a0, .int x, a2] st h = fk_ev d qX12_reckon 49 [a0, .int x, a2] (.int x :: st) h) ∧
  (∀ (d : Nat) (a0 a1 : Value) (x : Int32) (st : List Value) (h : fk_H), fk_ev d qX12_reckon 49 [a0, a1, .int x] st h = fk_ev d qX12_reckon 50 [a0, a1, .int x] (.int x :: st) h) ∧
  (∀ (d : Nat) (L : List Value) (x y : Int32) (st : List Value) (h : fk_H), fk_ev d qX12_reckon 50 L (.int y :: .int x :: st) h = fk_ev d qX12_reckon 51 L (.int (x - y) :: st) h) ∧
  (∀ (d : Nat) (L : List Value) (x : Int32) (h : fk_H), fk_ev d qX12_reckon 51 L [.int x] h = some (some (.int x), h)) ∧
  (∀ (d : Nat) (a0 a2 : Value) (x : Int32) (st : List Value) (h : fk_H), fk_ev d qX12_reckon 52 [a0, .int x, a2] st h = fk_ev d qX12_reckon 53 [a0, .int x, a2] (.int x :: st) h) ∧
  (∀ (d : Nat) (a0 a1 : Value) (x : Int32) (st : List Value) (h : fk_H), fk_ev d qX12_reckon 53 [a0, a1, .int x] st h = fk_ev d qX12_reckon 54 [a0, a1, .int x] (.int x :: st) h) ∧
  (∀ (d : Nat) (L : List Value) (x y : Int32) (st : List Value) (h : fk_H), fk_ev d qX12_reckon 54 L (.int y :: .int x :: st) h = fk_ev d qX12_reckon 55 L (.int (x * y) :: st) h) ∧
  (∀ (d : Nat) (L : List Value) (x : Int32) (h : fk_H), fk_ev d qX12_reckon 55 L [.int x] h = some (some (.int x), h)) ∧
  (∀ (d : Nat) (a0 a2 : Value) (x : Int32) (st : List Value) (h : fk_H), fk_ev d qX12_reckon 56 [a0, .int x, a2] st h = fk_ev d qX12_reckon 57 [a0, .int x, a2] (.int x :: st) h) ∧
  (∀ (d : Nat) (a0 a1 : Value) (x : Int32) (st : List Value) (h : fk_H), fk_ev d qX12_reckon 57 [a0, a1, .int x] st h = fk_ev d qX12_reckon 58 [a0, a1, .int x] (.int x :: st) h) ∧
  (∀ (d : Nat) (L : List Value) (x y : Int32) (st : List Value) (h : fk_H), fk_ev d qX12_reckon 58 L (.int y :: .int x :: st) h = if y = 0 then none else fk_ev d qX12_reckon 59 L (.int (x / y) :: st) h) ∧
  (∀ (d : Nat) (L : List Value) (x : Int32) (h : fk_H), fk_ev d qX12_reckon 59 L [.int x] h = some (some (.int x), h)) ∧
  (∀ (d : Nat) (a0 a2 : Value) (x : Int32) (st : List Value) (h : fk_H), fk_ev d qX12_reckon 60 [a0, .int x, a2] st h = fk_ev d qX12_reckon 61 [a0, .int x, a2] (.int x :: st) h) ∧
  (∀ (d : Nat) (a0 a1 : Value) (x : Int32) (st : List Value) (h : fk_H), fk_ev d qX12_reckon 61 [a0, a1, .int x] st h = fk_ev d qX12_reckon 62 [a0, a1, .int x] (.int x :: st) h) ∧
  (∀ (d : Nat) (L : List Value) (x y : Int32) (st : List Value) (h : fk_H), fk_ev d qX12_reckon 62 L (.int y :: .int x :: st) h = if y = 0 then none else fk_ev d qX12_reckon 63 L (.int (x - x / y * y) :: st) h) ∧
  (∀ (d : Nat) (L : List Value) (x : Int32) (h : fk_H), fk_ev d qX12_reckon 63 L [.int x] h = some (some (.int x), h)) ∧
  (∀ (d : Nat) (a0 a2 : Value) (x : Int32) (st : List Value) (h : fk_H), fk_ev d qX12_reckon 64 [a0, .int x, a2] st h = fk_ev d qX12_reckon 65 [a0, .int x, a2] (.int x :: st) h) ∧
  (∀ (d : Nat) (a0 a1 : Value) (x : Int32) (st : List Value) (h : fk_H), fk_ev d qX12_reckon 65 [a0, a1, .int x] st h = fk_ev d qX12_reckon 66 [a0, a1, .int x] (.int x :: st) h) ∧
  (∀ (d : Nat) (L : List Value) (x y : Int32) (st : List Value) (h : fk_H), fk_ev d qX12_reckon 66 L (.int y :: .int x :: st) h = if y ≤ x then fk_ev d qX12_reckon 73 L st h else fk_ev d qX12_reckon 69 L st h) ∧
  (∀ (d : Nat) (L st : List Value) (h : fk_H), fk_ev d qX12_reckon 69 L st h = fk_ev d qX12_reckon 70 L (.int (nI 1) :: st) h) ∧
  (∀ (d : Nat) (L st : List Value) (h : fk_H), fk_ev d qX12_reckon 70 L st h = fk_ev d qX12_reckon 74 L st h) ∧
  (∀ (d : Nat) (L st : List Value) (h : fk_H), fk_ev d qX12_reckon 73 L st h = fk_ev d qX12_reckon 74 L (.int (nI 0) :: st) h) ∧
  (∀ (d : Nat) (L : List Value) (x : Int32) (h : fk_H), fk_ev d qX12_reckon 74 L [.int x] h = some (some (.int x), h)) ∧
  (∀ (d : Nat) (a0 a2 : Value) (x : Int32) (st : List Value) (h : fk_H), fk_ev d qX12_reckon 75 [a0, .int x, a2] st h = fk_ev d qX12_reckon 76 [a0, .int x, a2] (.int x :: st) h) ∧
  (∀ (d : Nat) (a0 a1 : Value) (x : Int32) (st : List Value) (h : fk_H), fk_ev d qX12_reckon 76 [a0, a1, .int x] st h = fk_ev d qX12_reckon 77 [a0, a1, .int x] (.int x :: st) h) ∧
  (∀ (d : Nat) (L : List Value) (x y : Int32) (st : List Value) (h : fk_H), fk_ev d qX12_reckon 77 L (.int y :: .int x :: st) h = if x ≤ y then fk_ev d qX12_reckon 84 L st h else fk_ev d qX12_reckon 80 L st h) ∧
  (∀ (d : Nat) (L st : List Value) (h : fk_H), fk_ev d qX12_reckon 80 L st h = fk_ev d qX12_reckon 81 L (.int (nI 1) :: st) h) ∧
  (∀ (d : Nat) (L st : List Value) (h : fk_H), fk_ev d qX12_reckon 81 L st h = fk_ev d qX12_reckon 85 L st h) ∧
  (∀ (d : Nat) (L st : List Value) (h : fk_H), fk_ev d qX12_reckon 84 L st h = fk_ev d qX12_reckon 85 L (.int (nI 0) :: st) h) ∧
  (∀ (d : Nat) (L : List Value) (x : Int32) (h : fk_H), fk_ev d qX12_reckon 85 L [.int x] h = some (some (.int x), h)) ∧
  (∀ (d : Nat) (a0 a2 : Value) (x : Int32) (st : List Value) (h : fk_H), fk_ev d qX12_reckon 86 [a0, .int x, a2] st h = fk_ev d qX12_reckon 87 [a0, .int x, a2] (.int x :: st) h) ∧
  (∀ (d : Nat) (a0 a1 : Value) (x : Int32) (st : List Value) (h : fk_H), fk_ev d qX12_reckon 87 [a0, a1, .int x] st h = fk_ev d qX12_reckon 88 [a0, a1, .int x] (.int x :: st) h) ∧
  (∀ (d : Nat) (L : List Value) (x y : Int32) (st : List Value) (h : fk_H), fk_ev d qX12_reckon 88 L (.int y :: .int x :: st) h = if ¬ x = y then fk_ev d qX12_reckon 95 L st h else fk_ev d qX12_reckon 91 L st h) ∧
  (∀ (d : Nat) (L st : List Value) (h : fk_H), fk_ev d qX12_reckon 91 L st h = fk_ev d qX12_reckon 92 L (.int (nI 1) :: st) h) ∧
  (∀ (d : Nat) (L st : List Value) (h : fk_H), fk_ev d qX12_reckon 92 L st h = fk_ev d qX12_reckon 96 L st h) ∧
  (∀ (d : Nat) (L st : List Value) (h : fk_H), fk_ev d qX12_reckon 95 L st h = fk_ev d qX12_reckon 96 L (.int (nI 0) :: st) h) ∧
  (∀ (d : Nat) (L : List Value) (x : Int32) (h : fk_H), fk_ev d qX12_reckon 96 L [.int x] h = some (some (.int x), h)) := ⟨fun d a1 a2 x st h => fk_w_iloadn 0 [.int x, a1, a2] dX12_reckon_0 rfl,
  fun d L st h => fk_w_tab (2) (off := 43) dX12_reckon_1 (by decide) (by decide) (by decide) (by decide),
  fun d L st h => fk_w_tab (3) (off := 47) dX12_reckon_1 (by decide) (by decide) (by decide) (by decide),
  fun d L st h => fk_w_tab (4) (off := 51) dX12_reckon_1 (by decide) (by decide) (by decide) (by decide),
  fun d L st h => fk_w_tab (5) (off := 55) dX12_reckon_1 (by decide) (by decide) (by decide) (by decide),
  fun d L st h => fk_w_tab (6) (off := 59) dX12_reckon_1 (by decide) (by decide) (by decide) (by decide),
  fun d L st h => fk_w_tab (7) (off := 63) dX12_reckon_1 (by decide) (by decide) (by decide) (by decide),
  fun d L st h => fk_w_tab (8) (off := 74) dX12_reckon_1 (by decide) (by decide) (by decide) (by decide),
  fun d L x st h hx => fk_w_tabo dX12_reckon_1 hx (by decide),
  fun d a0 a2 x st h => fk_w_iloadn 1 [a0, .int x, a2] dX12_reckon_44 rfl,
  fun d a0 a1 x st h => fk_w_iloadn 2 [a0, a1, .int x] dX12_reckon_45 rfl,
  fun d L x y st h => fk_r_iadd dX12_reckon_46,
  fun d L x h => fk_r_ret dX12_reckon_47 (Or.inl rfl),
  fun d a0 a2 x st h => fk_w_iloadn 1 [a0, .int x, a2] dX12_reckon_48 rfl,
  fun d a0 a1 x st h => fk_w_iloadn 2 [a0, a1, .int x] dX12_reckon_49 rfl,
  fun d L x y st h => fk_r_isub dX12_reckon_50,
  fun d L x h => fk_r_ret dX12_reckon_51 (Or.inl rfl),
  fun d a0 a2 x st h => fk_w_iloadn 1 [a0, .int x, a2] dX12_reckon_52 rfl,
  fun d a0 a1 x st h => fk_w_iloadn 2 [a0, a1, .int x] dX12_reckon_53 rfl,
  fun d L x y st h => fk_r_imul dX12_reckon_54,
  fun d L x h => fk_r_ret dX12_reckon_55 (Or.inl rfl),
  fun d a0 a2 x st h => fk_w_iloadn 1 [a0, .int x, a2] dX12_reckon_56 rfl,
  fun d a0 a1 x st h => fk_w_iloadn 2 [a0, a1, .int x] dX12_reckon_57 rfl,
  fun d L x y st h => fk_r_idiv dX12_reckon_58,
  fun d L x h => fk_r_ret dX12_reckon_59 (Or.inl rfl),
  fun d a0 a2 x st h => fk_w_iloadn 1 [a0, .int x, a2] dX12_reckon_60 rfl,
  fun d a0 a1 x st h => fk_w_iloadn 2 [a0, a1, .int x] dX12_reckon_61 rfl,
  fun d L x y st h => fk_r_irem dX12_reckon_62,
  fun d L x h => fk_r_ret dX12_reckon_63 (Or.inl rfl),
  fun d a0 a2 x st h => fk_w_iloadn 1 [a0, .int x, a2] dX12_reckon_64 rfl,
  fun d a0 a1 x st h => fk_w_iloadn 2 [a0, a1, .int x] dX12_reckon_65 rfl,
  fun d L x y st h => fk_r_icmp_ge dX12_reckon_66 (by decide),
  fun d L st h => fk_w_iconst dX12_reckon_69 (by decide),
  fun d L st h => fk_r_goto dX12_reckon_70 (by decide),
  fun d L st h => fk_w_iconst dX12_reckon_73 (by decide),
  fun d L x h => fk_r_ret dX12_reckon_74 (Or.inl rfl),
  fun d a0 a2 x st h => fk_w_iloadn 1 [a0, .int x, a2] dX12_reckon_75 rfl,
  fun d a0 a1 x st h => fk_w_iloadn 2 [a0, a1, .int x] dX12_reckon_76 rfl,
  fun d L x y st h => fk_r_icmp_le dX12_reckon_77 (by decide),
  fun d L st h => fk_w_iconst dX12_reckon_80 (by decide),
  fun d L st h => fk_r_goto dX12_reckon_81 (by decide),
  fun d L st h => fk_w_iconst dX12_reckon_84 (by decide),
  fun d L x h => fk_r_ret dX12_reckon_85 (Or.inl rfl),
  fun d a0 a2 x st h => fk_w_iloadn 1 [a0, .int x, a2] dX12_reckon_86 rfl,
  fun d a0 a1 x st h => fk_w_iloadn 2 [a0, a1, .int x] dX12_reckon_87 rfl,
  fun d L x y st h => fk_r_icmp_ne dX12_reckon_88 (by decide),
  fun d L st h => fk_w_iconst dX12_reckon_91 (by decide),
  fun d L st h => fk_r_goto dX12_reckon_92 (by decide),
  fun d L st h => fk_w_iconst dX12_reckon_95 (by decide),
  fun d L x h => fk_r_ret dX12_reckon_96 (Or.inl rfl)⟩
theorem dX12_comesTo_0 : decode cX12_comesTo 0 = .ok (.iconst 0, 1) := by decide +kernel
theorem dX12_comesTo_1 : decode cX12_comesTo 1 = .ok (.istore_n 3, 1) := by decide +kernel
theorem dX12_comesTo_2 : decode cX12_comesTo 2 = .ok (.sipush 260, 3) := by decide +kernel
theorem dX12_comesTo_5 : decode cX12_comesTo 5 = .ok (.iload_n 1, 1) := by decide +kernel
theorem dX12_comesTo_6 : decode cX12_comesTo 6 = .ok (.sipush 260, 3) := by decide +kernel
theorem dX12_comesTo_9 : decode cX12_comesTo 9 = .ok (.idiv, 1) := by decide +kernel
theorem dX12_comesTo_10 : decode cX12_comesTo 10 = .ok (.imul, 1) := by decide +kernel
theorem dX12_comesTo_11 : decode cX12_comesTo 11 = .ok (.istore 4, 2) := by decide +kernel
theorem dX12_comesTo_13 : decode cX12_comesTo 13 = .ok (.iload_n 1, 1) := by decide +kernel
theorem dX12_comesTo_14 : decode cX12_comesTo 14 = .ok (.istore 5, 2) := by decide +kernel
theorem dX12_comesTo_16 : decode cX12_comesTo 16 = .ok (.iload 5, 2) := by decide +kernel
theorem dX12_comesTo_18 : decode cX12_comesTo 18 = .ok (.iload_n 2, 1) := by decide +kernel
theorem dX12_comesTo_19 : decode cX12_comesTo 19 = .ok (.if_icmp .ge 214, 3) := by decide +kernel
theorem dX12_comesTo_22 : decode cX12_comesTo 22 = .ok (.aload_n 0, 1) := by decide +kernel
theorem dX12_comesTo_23 : decode cX12_comesTo 23 = .ok (.getfield 57, 3) := by decide +kernel
theorem dX12_comesTo_26 : decode cX12_comesTo 26 = .ok (.iload 5, 2) := by decide +kernel
theorem dX12_comesTo_28 : decode cX12_comesTo 28 = .ok (.iaload, 1) := by decide +kernel
theorem dX12_comesTo_29 : decode cX12_comesTo 29 = .ok (.ldc 181, 2) := by decide +kernel
theorem dX12_comesTo_31 : decode cX12_comesTo 31 = .ok (.idiv, 1) := by decide +kernel
theorem dX12_comesTo_32 : decode cX12_comesTo 32 = .ok (.istore 6, 2) := by decide +kernel
theorem dX12_comesTo_34 : decode cX12_comesTo 34 = .ok (.aload_n 0, 1) := by decide +kernel
theorem dX12_comesTo_35 : decode cX12_comesTo 35 = .ok (.getfield 57, 3) := by decide +kernel
theorem dX12_comesTo_38 : decode cX12_comesTo 38 = .ok (.iload 5, 2) := by decide +kernel
theorem dX12_comesTo_40 : decode cX12_comesTo 40 = .ok (.iaload, 1) := by decide +kernel
theorem dX12_comesTo_41 : decode cX12_comesTo 41 = .ok (.ldc 181, 2) := by decide +kernel
theorem dX12_comesTo_43 : decode cX12_comesTo 43 = .ok (.irem, 1) := by decide +kernel
theorem dX12_comesTo_44 : decode cX12_comesTo 44 = .ok (.istore 7, 2) := by decide +kernel
theorem dX12_comesTo_46 : decode cX12_comesTo 46 = .ok (.iload 5, 2) := by decide +kernel
theorem dX12_comesTo_48 : decode cX12_comesTo 48 = .ok (.iconst 1, 1) := by decide +kernel
theorem dX12_comesTo_49 : decode cX12_comesTo 49 = .ok (.iadd, 1) := by decide +kernel
theorem dX12_comesTo_50 : decode cX12_comesTo 50 = .ok (.istore 5, 2) := by decide +kernel
theorem dX12_comesTo_52 : decode cX12_comesTo 52 = .ok (.iload 6, 2) := by decide +kernel
theorem dX12_comesTo_54 : decode cX12_comesTo 54 = .ok (.ifCond .eq 9, 3) := by decide +kernel
theorem dX12_comesTo_57 : decode cX12_comesTo 57 = .ok (.iload 6, 2) := by decide +kernel
theorem dX12_comesTo_59 : decode cX12_comesTo 59 = .ok (.iconst 1, 1) := by decide +kernel
theorem dX12_comesTo_60 : decode cX12_comesTo 60 = .ok (.if_icmp .ne 33, 3) := by decide +kernel
theorem dX12_comesTo_63 : decode cX12_comesTo 63 = .ok (.aload_n 0, 1) := by decide +kernel
theorem dX12_comesTo_64 : decode cX12_comesTo 64 = .ok (.getfield 72, 3) := by decide +kernel
theorem dX12_comesTo_67 : decode cX12_comesTo 67 = .ok (.iload_n 3, 1) := by decide +kernel
theorem dX12_comesTo_68 : decode cX12_comesTo 68 = .ok (.iload 6, 2) := by decide +kernel
theorem dX12_comesTo_70 : decode cX12_comesTo 70 = .ok (.ifCond .ne 8, 3) := by decide +kernel
theorem dX12_comesTo_73 : decode cX12_comesTo 73 = .ok (.iload 7, 2) := by decide +kernel
theorem dX12_comesTo_75 : decode cX12_comesTo 75 = .ok (.goto 10, 3) := by decide +kernel
theorem dX12_comesTo_78 : decode cX12_comesTo 78 = .ok (.aload_n 0, 1) := by decide +kernel
theorem dX12_comesTo_79 : decode cX12_comesTo 79 = .ok (.getfield 75, 3) := by decide +kernel
theorem dX12_comesTo_82 : decode cX12_comesTo 82 = .ok (.iload 7, 2) := by decide +kernel
theorem dX12_comesTo_84 : decode cX12_comesTo 84 = .ok (.iaload, 1) := by decide +kernel
theorem dX12_comesTo_85 : decode cX12_comesTo 85 = .ok (.iastore, 1) := by decide +kernel
theorem dX12_comesTo_86 : decode cX12_comesTo 86 = .ok (.iload_n 3, 1) := by decide +kernel
theorem dX12_comesTo_87 : decode cX12_comesTo 87 = .ok (.iconst 1, 1) := by decide +kernel
theorem dX12_comesTo_88 : decode cX12_comesTo 88 = .ok (.iadd, 1) := by decide +kernel
theorem dX12_comesTo_89 : decode cX12_comesTo 89 = .ok (.istore_n 3, 1) := by decide +kernel
theorem dX12_comesTo_90 : decode cX12_comesTo 90 = .ok (.goto 140, 3) := by decide +kernel
theorem dX12_comesTo_93 : decode cX12_comesTo 93 = .ok (.iload 6, 2) := by decide +kernel
theorem dX12_comesTo_95 : decode cX12_comesTo 95 = .ok (.bipush 10, 2) := by decide +kernel
theorem dX12_comesTo_97 : decode cX12_comesTo 97 = .ok (.if_icmp .ne 24, 3) := by decide +kernel
theorem dX12_comesTo_100 : decode cX12_comesTo 100 = .ok (.aload_n 0, 1) := by decide +kernel
theorem dX12_comesTo_101 : decode cX12_comesTo 101 = .ok (.getfield 72, 3) := by decide +kernel
theorem dX12_comesTo_104 : decode cX12_comesTo 104 = .ok (.iload_n 3, 1) := by decide +kernel
theorem dX12_comesTo_105 : decode cX12_comesTo 105 = .ok (.iconst 1, 1) := by decide +kernel
theorem dX12_comesTo_106 : decode cX12_comesTo 106 = .ok (.isub, 1) := by decide +kernel
theorem dX12_comesTo_107 : decode cX12_comesTo 107 = .ok (.iconst 1, 1) := by decide +kernel
theorem dX12_comesTo_108 : decode cX12_comesTo 108 = .ok (.aload_n 0, 1) := by decide +kernel
theorem dX12_comesTo_109 : decode cX12_comesTo 109 = .ok (.getfield 72, 3) := by decide +kernel
theorem dX12_comesTo_112 : decode cX12_comesTo 112 = .ok (.iload_n 3, 1) := by decide +kernel
theorem dX12_comesTo_113 : decode cX12_comesTo 113 = .ok (.iconst 1, 1) := by decide +kernel
theorem dX12_comesTo_114 : decode cX12_comesTo 114 = .ok (.isub, 1) := by decide +kernel
theorem dX12_comesTo_115 : decode cX12_comesTo 115 = .ok (.iaload, 1) := by decide +kernel
theorem dX12_comesTo_116 : decode cX12_comesTo 116 = .ok (.isub, 1) := by decide +kernel
theorem dX12_comesTo_117 : decode cX12_comesTo 117 = .ok (.iastore, 1) := by decide +kernel
theorem dX12_comesTo_118 : decode cX12_comesTo 118 = .ok (.goto 112, 3) := by decide +kernel
theorem dX12_comesTo_121 : decode cX12_comesTo 121 = .ok (.iload 6, 2) := by decide +kernel
theorem dX12_comesTo_123 : decode cX12_comesTo 123 = .ok (.bipush 11, 2) := by decide +kernel
theorem dX12_comesTo_125 : decode cX12_comesTo 125 = .ok (.if_icmp .eq 10, 3) := by decide +kernel
theorem dX12_comesTo_128 : decode cX12_comesTo 128 = .ok (.iload 6, 2) := by decide +kernel
theorem dX12_comesTo_130 : decode cX12_comesTo 130 = .ok (.bipush 12, 2) := by decide +kernel
theorem dX12_comesTo_132 : decode cX12_comesTo 132 = .ok (.if_icmp .ne 43, 3) := by decide +kernel
theorem dX12_comesTo_135 : decode cX12_comesTo 135 = .ok (.aload_n 0, 1) := by decide +kernel
theorem dX12_comesTo_136 : decode cX12_comesTo 136 = .ok (.getfield 72, 3) := by decide +kernel
theorem dX12_comesTo_139 : decode cX12_comesTo 139 = .ok (.iload_n 3, 1) := by decide +kernel
theorem dX12_comesTo_140 : decode cX12_comesTo 140 = .ok (.iconst 1, 1) := by decide +kernel
theorem dX12_comesTo_141 : decode cX12_comesTo 141 = .ok (.isub, 1) := by decide +kernel
theorem dX12_comesTo_142 : decode cX12_comesTo 142 = .ok (.iaload, 1) := by decide +kernel
theorem dX12_comesTo_143 : decode cX12_comesTo 143 = .ok (.iload 6, 2) := by decide +kernel
theorem dX12_comesTo_145 : decode cX12_comesTo 145 = .ok (.bipush 12, 2) := by decide +kernel
theorem dX12_comesTo_147 : decode cX12_comesTo 147 = .ok (.if_icmp .ne 7, 3) := by decide +kernel
theorem dX12_comesTo_150 : decode cX12_comesTo 150 = .ok (.iconst 1, 1) := by decide +kernel
theorem dX12_comesTo_151 : decode cX12_comesTo 151 = .ok (.goto 4, 3) := by decide +kernel
theorem dX12_comesTo_154 : decode cX12_comesTo 154 = .ok (.iconst 0, 1) := by decide +kernel
theorem dX12_comesTo_155 : decode cX12_comesTo 155 = .ok (.if_icmp .ne 13, 3) := by decide +kernel
theorem dX12_comesTo_158 : decode cX12_comesTo 158 = .ok (.iload 4, 2) := by decide +kernel
theorem dX12_comesTo_160 : decode cX12_comesTo 160 = .ok (.iload 7, 2) := by decide +kernel
theorem dX12_comesTo_162 : decode cX12_comesTo 162 = .ok (.iadd, 1) := by decide +kernel
theorem dX12_comesTo_163 : decode cX12_comesTo 163 = .ok (.istore 5, 2) := by decide +kernel
theorem dX12_comesTo_165 : decode cX12_comesTo 165 = .ok (.goto 65, 3) := by decide +kernel
theorem dX12_comesTo_168 : decode cX12_comesTo 168 = .ok (.iload_n 3, 1) := by decide +kernel
theorem dX12_comesTo_169 : decode cX12_comesTo 169 = .ok (.iconst 1, 1) := by decide +kernel
theorem dX12_comesTo_170 : decode cX12_comesTo 170 = .ok (.isub, 1) := by decide +kernel
theorem dX12_comesTo_171 : decode cX12_comesTo 171 = .ok (.istore_n 3, 1) := by decide +kernel
theorem dX12_comesTo_172 : decode cX12_comesTo 172 = .ok (.goto 58, 3) := by decide +kernel
theorem dX12_comesTo_175 : decode cX12_comesTo 175 = .ok (.iload_n 3, 1) := by decide +kernel
theorem dX12_comesTo_176 : decode cX12_comesTo 176 = .ok (.iconst 1, 1) := by decide +kernel
theorem dX12_comesTo_177 : decode cX12_comesTo 177 = .ok (.isub, 1) := by decide +kernel
theorem dX12_comesTo_178 : decode cX12_comesTo 178 = .ok (.istore_n 3, 1) := by decide +kernel
theorem dX12_comesTo_179 : decode cX12_comesTo 179 = .ok (.iload 6, 2) := by decide +kernel
theorem dX12_comesTo_181 : decode cX12_comesTo 181 = .ok (.iconst 5, 1) := by decide +kernel
theorem dX12_comesTo_182 : decode cX12_comesTo 182 = .ok (.if_icmp .eq 10, 3) := by decide +kernel
theorem dX12_comesTo_185 : decode cX12_comesTo 185 = .ok (.iload 6, 2) := by decide +kernel
theorem dX12_comesTo_187 : decode cX12_comesTo 187 = .ok (.bipush 6, 2) := by decide +kernel
theorem dX12_comesTo_189 : decode cX12_comesTo 189 = .ok (.if_icmp .ne 14, 3) := by decide +kernel
theorem dX12_comesTo_192 : decode cX12_comesTo 192 = .ok (.aload_n 0, 1) := by decide +kernel
theorem dX12_comesTo_193 : decode cX12_comesTo 193 = .ok (.getfield 72, 3) := by decide +kernel
theorem dX12_comesTo_196 : decode cX12_comesTo 196 = .ok (.iload_n 3, 1) := by decide +kernel
theorem dX12_comesTo_197 : decode cX12_comesTo 197 = .ok (.iaload, 1) := by decide +kernel
theorem dX12_comesTo_198 : decode cX12_comesTo 198 = .ok (.ifCond .ne 5, 3) := by decide +kernel
theorem dX12_comesTo_201 : decode cX12_comesTo 201 = .ok (.iconst 0, 1) := by decide +kernel
theorem dX12_comesTo_202 : decode cX12_comesTo 202 = .ok (.ireturn, 1) := by decide +kernel
theorem dX12_comesTo_203 : decode cX12_comesTo 203 = .ok (.aload_n 0, 1) := by decide +kernel
theorem dX12_comesTo_204 : decode cX12_comesTo 204 = .ok (.getfield 72, 3) := by decide +kernel
theorem dX12_comesTo_207 : decode cX12_comesTo 207 = .ok (.iload_n 3, 1) := by decide +kernel
theorem dX12_comesTo_208 : decode cX12_comesTo 208 = .ok (.iconst 1, 1) := by decide +kernel
theorem dX12_comesTo_209 : decode cX12_comesTo 209 = .ok (.isub, 1) := by decide +kernel
theorem dX12_comesTo_210 : decode cX12_comesTo 210 = .ok (.iload 6, 2) := by decide +kernel
theorem dX12_comesTo_212 : decode cX12_comesTo 212 = .ok (.aload_n 0, 1) := by decide +kernel
theorem dX12_comesTo_213 : decode cX12_comesTo 213 = .ok (.getfield 72, 3) := by decide +kernel
theorem dX12_comesTo_216 : decode cX12_comesTo 216 = .ok (.iload_n 3, 1) := by decide +kernel
theorem dX12_comesTo_217 : decode cX12_comesTo 217 = .ok (.iconst 1, 1) := by decide +kernel
theorem dX12_comesTo_218 : decode cX12_comesTo 218 = .ok (.isub, 1) := by decide +kernel
theorem dX12_comesTo_219 : decode cX12_comesTo 219 = .ok (.iaload, 1) := by decide +kernel
theorem dX12_comesTo_220 : decode cX12_comesTo 220 = .ok (.aload_n 0, 1) := by decide +kernel
theorem dX12_comesTo_221 : decode cX12_comesTo 221 = .ok (.getfield 72, 3) := by decide +kernel
theorem dX12_comesTo_224 : decode cX12_comesTo 224 = .ok (.iload_n 3, 1) := by decide +kernel
theorem dX12_comesTo_225 : decode cX12_comesTo 225 = .ok (.iaload, 1) := by decide +kernel
theorem dX12_comesTo_226 : decode cX12_comesTo 226 = .ok (.invokestatic 250, 3) := by decide +kernel
theorem dX12_comesTo_229 : decode cX12_comesTo 229 = .ok (.iastore, 1) := by decide +kernel
theorem dX12_comesTo_230 : decode cX12_comesTo 230 = .ok (.goto (-214), 3) := by decide +kernel
theorem dX12_comesTo_233 : decode cX12_comesTo 233 = .ok (.aload_n 0, 1) := by decide +kernel
theorem dX12_comesTo_234 : decode cX12_comesTo 234 = .ok (.getfield 72, 3) := by decide +kernel
theorem dX12_comesTo_237 : decode cX12_comesTo 237 = .ok (.iconst 0, 1) := by decide +kernel
theorem dX12_comesTo_238 : decode cX12_comesTo 238 = .ok (.iaload, 1) := by decide +kernel
theorem dX12_comesTo_239 : decode cX12_comesTo 239 = .ok (.ireturn, 1) := by decide +kernel
theorem rX12_comesTo : (∀ (d : Nat) (L st : List Value) (h : fk_H), fk_ev d qX12_comesTo 0 L st h = fk_ev d qX12_comesTo 1 L (.int (nI 0) :: st) h) ∧
  (∀ (d : Nat) (a0 a1 a2 a3 a4 a5 a6 a7 : Value) (x : Int32) (st : List Value) (h : fk_H), fk_ev d qX12_comesTo 1 [a0, a1, a2, a3, a4, a5, a6, a7] (.int x :: st) h = fk_ev d qX12_comesTo 2 [a0, a1, a2, .int x, a4, a5, a6, a7] st h) ∧
  (∀ (d : Nat) (L st : List Value) (h : fk_H), fk_ev d qX12_comesTo 2 L st h = fk_ev d qX12_comesTo 5 L (.int (nI 260) :: st) h) ∧
  (∀ (d : Nat) (a0 a2 a3 a4 a5 a6 a7 : Value) (x : Int32) (st : List Value) (h : fk_H), fk_ev d qX12_comesTo 5 [a0, .int x, a2, a3, a4, a5, a6, a7] st h = fk_ev d qX12_comesTo 6 [a0, .int x, a2, a3, a4, a5, a6, a7] (.int x :: st) h) ∧
  (∀ (d : Nat) (L st : List Value) (h : fk_H), fk_ev d qX12_comesTo 6 L st h = fk_ev d qX12_comesTo 9 L (.int (nI 260) :: st) h) ∧
  (∀ (d : Nat) (L : List Value) (x y : Int32) (st : List Value) (h : fk_H), fk_ev d qX12_comesTo 9 L (.int y :: .int x :: st) h = if y = 0 then none else fk_ev d qX12_comesTo 10 L (.int (x / y) :: st) h) ∧
  (∀ (d : Nat) (L : List Value) (x y : Int32) (st : List Value) (h : fk_H), fk_ev d qX12_comesTo 10 L (.int y :: .int x :: st) h = fk_ev d qX12_comesTo 11 L (.int (x * y) :: st) h) ∧
  (∀ (d : Nat) (a0 a1 a2 a3 a4 a5 a6 a7 : Value) (x : Int32) (st : List Value) (h : fk_H), fk_ev d qX12_comesTo 11 [a0, a1, a2, a3, a4, a5, a6, a7] (.int x :: st) h = fk_ev d qX12_comesTo 13 [a0, a1, a2, a3, .int x, a5, a6, a7] st h) ∧
  (∀ (d : Nat) (a0 a2 a3 a4 a5 a6 a7 : Value) (x : Int32) (st : List Value) (h : fk_H), fk_ev d qX12_comesTo 13 [a0, .int x, a2, a3, a4, a5, a6, a7] st h = fk_ev d qX12_comesTo 14 [a0, .int x, a2, a3, a4, a5, a6, a7] (.int x :: st) h) ∧
  (∀ (d : Nat) (a0 a1 a2 a3 a4 a5 a6 a7 : Value) (x : Int32) (st : List Value) (h : fk_H), fk_ev d qX12_comesTo 14 [a0, a1, a2, a3, a4, a5, a6, a7] (.int x :: st) h = fk_ev d qX12_comesTo 16 [a0, a1, a2, a3, a4, .int x, a6, a7] st h) ∧
  (∀ (d : Nat) (a0 a1 a3 a4 a5 a6 a7 : Value) (x : Int32) (st : List Value) (h : fk_H), fk_ev d qX12_comesTo 18 [a0, a1, .int x, a3, a4, a5, a6, a7] st h = fk_ev d qX12_comesTo 19 [a0, a1, .int x, a3, a4, a5, a6, a7] (.int x :: st) h) ∧
  (∀ (d : Nat) (L : List Value) (x y : Int32) (st : List Value) (h : fk_H), fk_ev d qX12_comesTo 19 L (.int y :: .int x :: st) h = if y ≤ x then fk_ev d qX12_comesTo 233 L st h else fk_ev d qX12_comesTo 22 L st h) ∧
  (∀ (d : Nat) (a1 a2 a3 a4 a5 a6 a7 : Value) (x : Nat) (st : List Value) (h : fk_H), fk_ev d qX12_comesTo 22 [.ref x, a1, a2, a3, a4, a5, a6, a7] st h = fk_ev d qX12_comesTo 23 [.ref x, a1, a2, a3, a4, a5, a6, a7] (.ref x :: st) h) ∧
  (∀ (d : Nat) (L st : List Value) (N : Nat) (y : Nat → Nat → Int32) (l : Nat → Nat → Int64), fk_ev d qX12_comesTo 23 L (.ref 246 :: st) (fk_E N y l) = fk_ev d qX12_comesTo 26 L (.ref 262 :: st) (fk_E N y l)) ∧
  (∀ (d : Nat) (a0 a1 a2 a3 a4 a6 a7 : Value) (x : Int32) (st : List Value) (h : fk_H), fk_ev d qX12_comesTo 26 [a0, a1, a2, a3, a4, .int x, a6, a7] st h = fk_ev d qX12_comesTo 28 [a0, a1, a2, a3, a4, .int x, a6, a7] (.int x :: st) h) ∧
  (∀ (d : Nat) (L st : List Value) (N : Nat) (y : Nat → Nat → Int32) (l : Nat → Nat → Int64) (i : Nat), i < 260 → fk_ev d qX12_comesTo 28 L (.int (nI i) :: .ref 262 :: st) (fk_E N y l) = fk_ev d qX12_comesTo 29 L (.int (y 262 i) :: st) (fk_E N y l)) ∧
  (∀ (d : Nat) (L st : List Value) (h : fk_H), fk_ev d qX12_comesTo 29 L st h = fk_ev d qX12_comesTo 31 L (.int (nI 1048576) :: st) h) ∧
  (∀ (d : Nat) (L : List Value) (x y : Int32) (st : List Value) (h : fk_H), fk_ev d qX12_comesTo 31 L (.int y :: .int x :: st) h = if y = 0 then none else fk_ev d qX12_comesTo 32 L (.int (x / y) :: st) h) ∧
  (∀ (d : Nat) (a0 a1 a2 a3 a4 a5 a6 a7 : Value) (x : Int32) (st : List Value) (h : fk_H), fk_ev d qX12_comesTo 32 [a0, a1, a2, a3, a4, a5, a6, a7] (.int x :: st) h = fk_ev d qX12_comesTo 34 [a0, a1, a2, a3, a4, a5, .int x, a7] st h) ∧
  (∀ (d : Nat) (a1 a2 a3 a4 a5 a6 a7 : Value) (x : Nat) (st : List Value) (h : fk_H), fk_ev d qX12_comesTo 34 [.ref x, a1, a2, a3, a4, a5, a6, a7] st h = fk_ev d qX12_comesTo 35 [.ref x, a1, a2, a3, a4, a5, a6, a7] (.ref x :: st) h) ∧
  (∀ (d : Nat) (L st : List Value) (N : Nat) (y : Nat → Nat → Int32) (l : Nat → Nat → Int64), fk_ev d qX12_comesTo 35 L (.ref 246 :: st) (fk_E N y l) = fk_ev d qX12_comesTo 38 L (.ref 262 :: st) (fk_E N y l)) ∧
  (∀ (d : Nat) (a0 a1 a2 a3 a4 a6 a7 : Value) (x : Int32) (st : List Value) (h : fk_H), fk_ev d qX12_comesTo 38 [a0, a1, a2, a3, a4, .int x, a6, a7] st h = fk_ev d qX12_comesTo 40 [a0, a1, a2, a3, a4, .int x, a6, a7] (.int x :: st) h) ∧
  (∀ (d : Nat) (L st : List Value) (N : Nat) (y : Nat → Nat → Int32) (l : Nat → Nat → Int64) (i : Nat), i < 260 → fk_ev d qX12_comesTo 40 L (.int (nI i) :: .ref 262 :: st) (fk_E N y l) = fk_ev d qX12_comesTo 41 L (.int (y 262 i) :: st) (fk_E N y l)) ∧
  (∀ (d : Nat) (L st : List Value) (h : fk_H), fk_ev d qX12_comesTo 41 L st h = fk_ev d qX12_comesTo 43 L (.int (nI 1048576) :: st) h) ∧
  (∀ (d : Nat) (L : List Value) (x y : Int32) (st : List Value) (h : fk_H), fk_ev d qX12_comesTo 43 L (.int y :: .int x :: st) h = if y = 0 then none else fk_ev d qX12_comesTo 44 L (.int (x - x / y * y) :: st) h) ∧
  (∀ (d : Nat) (a0 a1 a2 a3 a4 a5 a6 a7 : Value) (x : Int32) (st : List Value) (h : fk_H), fk_ev d qX12_comesTo 44 [a0, a1, a2, a3, a4, a5, a6, a7] (.int x :: st) h = fk_ev d qX12_comesTo 46 [a0, a1, a2, a3, a4, a5, a6, .int x] st h) ∧
  (∀ (d : Nat) (a0 a1 a2 a3 a4 a6 a7 : Value) (x : Int32) (st : List Value) (h : fk_H), fk_ev d qX12_comesTo 46 [a0, a1, a2, a3, a4, .int x, a6, a7] st h = fk_ev d qX12_comesTo 48 [a0, a1, a2, a3, a4, .int x, a6, a7] (.int x :: st) h) ∧
  (∀ (d : Nat) (L st : List Value) (h : fk_H), fk_ev d qX12_comesTo 48 L st h = fk_ev d qX12_comesTo 49 L (.int (nI 1) :: st) h) ∧
  (∀ (d : Nat) (L : List Value) (x y : Int32) (st : List Value) (h : fk_H), fk_ev d qX12_comesTo 49 L (.int y :: .int x :: st) h = fk_ev d qX12_comesTo 50 L (.int (x + y) :: st) h) ∧
  (∀ (d : Nat) (a0 a1 a2 a3 a4 a5 a6 a7 : Value) (x : Int32) (st : List Value) (h : fk_H), fk_ev d qX12_comesTo 50 [a0, a1, a2, a3, a4, a5, a6, a7] (.int x :: st) h = fk_ev d qX12_comesTo 52 [a0, a1, a2, a3, a4, .int x, a6, a7] st h) ∧
  (∀ (d : Nat) (a0 a1 a2 a3 a4 a5 a7 : Value) (x : Int32) (st : List Value) (h : fk_H), fk_ev d qX12_comesTo 52 [a0, a1, a2, a3, a4, a5, .int x, a7] st h = fk_ev d qX12_comesTo 54 [a0, a1, a2, a3, a4, a5, .int x, a7] (.int x :: st) h) ∧
  (∀ (d : Nat) (L : List Value) (x : Int32) (st : List Value) (h : fk_H), fk_ev d qX12_comesTo 54 L (.int x :: st) h = if x = nI 0 then fk_ev d qX12_comesTo 63 L st h else fk_ev d qX12_comesTo 57 L st h) ∧
  (∀ (d : Nat) (a0 a1 a2 a3 a4 a5 a7 : Value) (x : Int32) (st : List Value) (h : fk_H), fk_ev d qX12_comesTo 57 [a0, a1, a2, a3, a4, a5, .int x, a7] st h = fk_ev d qX12_comesTo 59 [a0, a1, a2, a3, a4, a5, .int x, a7] (.int x :: st) h) ∧
  (∀ (d : Nat) (L st : List Value) (h : fk_H), fk_ev d qX12_comesTo 59 L st h = fk_ev d qX12_comesTo 60 L (.int (nI 1) :: st) h) ∧
  (∀ (d : Nat) (L : List Value) (x y : Int32) (st : List Value) (h : fk_H), fk_ev d qX12_comesTo 60 L (.int y :: .int x :: st) h = if ¬ x = y then fk_ev d qX12_comesTo 93 L st h else fk_ev d qX12_comesTo 63 L st h) ∧
  (∀ (d : Nat) (a1 a2 a3 a4 a5 a6 a7 : Value) (x : Nat) (st : List Value) (h : fk_H), fk_ev d qX12_comesTo 63 [.ref x, a1, a2, a3, a4, a5, a6, a7] st h = fk_ev d qX12_comesTo 64 [.ref x, a1, a2, a3, a4, a5, a6, a7] (.ref x :: st) h) ∧
  (∀ (d : Nat) (L st : List Value) (N : Nat) (y : Nat → Nat → Int32) (l : Nat → Nat → Int64), fk_ev d qX12_comesTo 64 L (.ref 246 :: st) (fk_E N y l) = fk_ev d qX12_comesTo 67 L (.ref 267 :: st) (fk_E N y l)) ∧
  (∀ (d : Nat) (a0 a1 a2 a4 a5 a6 a7 : Value) (x : Int32) (st : List Value) (h : fk_H), fk_ev d qX12_comesTo 67 [a0, a1, a2, .int x, a4, a5, a6, a7] st h = fk_ev d qX12_comesTo 68 [a0, a1, a2, .int x, a4, a5, a6, a7] (.int x :: st) h) ∧
  (∀ (d : Nat) (a0 a1 a2 a3 a4 a5 a7 : Value) (x : Int32) (st : List Value) (h : fk_H), fk_ev d qX12_comesTo 68 [a0, a1, a2, a3, a4, a5, .int x, a7] st h = fk_ev d qX12_comesTo 70 [a0, a1, a2, a3, a4, a5, .int x, a7] (.int x :: st) h) ∧
  (∀ (d : Nat) (L : List Value) (x : Int32) (st : List Value) (h : fk_H), fk_ev d qX12_comesTo 70 L (.int x :: st) h = if ¬ x = nI 0 then fk_ev d qX12_comesTo 78 L st h else fk_ev d qX12_comesTo 73 L st h) ∧
  (∀ (d : Nat) (a0 a1 a2 a3 a4 a5 a6 : Value) (x : Int32) (st : List Value) (h : fk_H), fk_ev d qX12_comesTo 73 [a0, a1, a2, a3, a4, a5, a6, .int x] st h = fk_ev d qX12_comesTo 75 [a0, a1, a2, a3, a4, a5, a6, .int x] (.int x :: st) h) ∧
  (∀ (d : Nat) (L st : List Value) (h : fk_H), fk_ev d qX12_comesTo 75 L st h = fk_ev d qX12_comesTo 85 L st h) ∧
  (∀ (d : Nat) (a1 a2 a3 a4 a5 a6 a7 : Value) (x : Nat) (st : List Value) (h : fk_H), fk_ev d qX12_comesTo 78 [.ref x, a1, a2, a3, a4, a5, a6, a7] st h = fk_ev d qX12_comesTo 79 [.ref x, a1, a2, a3, a4, a5, a6, a7] (.ref x :: st) h) ∧
  (∀ (d : Nat) (L st : List Value) (N : Nat) (y : Nat → Nat → Int32) (l : Nat → Nat → Int64), fk_ev d qX12_comesTo 79 L (.ref 246 :: st) (fk_E N y l) = fk_ev d qX12_comesTo 82 L (.ref 268 :: st) (fk_E N y l)) ∧
  (∀ (d : Nat) (a0 a1 a2 a3 a4 a5 a6 : Value) (x : Int32) (st : List Value) (h : fk_H), fk_ev d qX12_comesTo 82 [a0, a1, a2, a3, a4, a5, a6, .int x] st h = fk_ev d qX12_comesTo 84 [a0, a1, a2, a3, a4, a5, a6, .int x] (.int x :: st) h) ∧
  (∀ (d : Nat) (L st : List Value) (N : Nat) (y : Nat → Nat → Int32) (l : Nat → Nat → Int64) (i : Nat), i < 14 → fk_ev d qX12_comesTo 84 L (.int (nI i) :: .ref 268 :: st) (fk_E N y l) = fk_ev d qX12_comesTo 85 L (.int (y 268 i) :: st) (fk_E N y l)) ∧
  (∀ (d : Nat) (L st : List Value) (N : Nat) (y : Nat → Nat → Int32) (l : Nat → Nat → Int64) (i : Nat) (v : Int32), i < 260 → fk_ev d qX12_comesTo 85 L (.int v :: .int (nI i) :: .ref 267 :: st) (fk_E N y l) = fk_ev d qX12_comesTo 86 L st (fk_E N (fk_u y 267 i v) l)) ∧
  (∀ (d : Nat) (a0 a1 a2 a4 a5 a6 a7 : Value) (x : Int32) (st : List Value) (h : fk_H), fk_ev d qX12_comesTo 86 [a0, a1, a2, .int x, a4, a5, a6, a7] st h = fk_ev d qX12_comesTo 87 [a0, a1, a2, .int x, a4, a5, a6, a7] (.int x :: st) h) ∧
  (∀ (d : Nat) (L st : List Value) (h : fk_H), fk_ev d qX12_comesTo 87 L st h = fk_ev d qX12_comesTo 88 L (.int (nI 1) :: st) h) ∧
  (∀ (d : Nat) (L : List Value) (x y : Int32) (st : List Value) (h : fk_H), fk_ev d qX12_comesTo 88 L (.int y :: .int x :: st) h = fk_ev d qX12_comesTo 89 L (.int (x + y) :: st) h) ∧
  (∀ (d : Nat) (a0 a1 a2 a3 a4 a5 a6 a7 : Value) (x : Int32) (st : List Value) (h : fk_H), fk_ev d qX12_comesTo 89 [a0, a1, a2, a3, a4, a5, a6, a7] (.int x :: st) h = fk_ev d qX12_comesTo 90 [a0, a1, a2, .int x, a4, a5, a6, a7] st h) ∧
  (∀ (d : Nat) (L st : List Value) (h : fk_H), fk_ev d qX12_comesTo 90 L st h = fk_ev d qX12_comesTo 230 L st h) ∧
  (∀ (d : Nat) (a0 a1 a2 a3 a4 a5 a7 : Value) (x : Int32) (st : List Value) (h : fk_H), fk_ev d qX12_comesTo 93 [a0, a1, a2, a3, a4, a5, .int x, a7] st h = fk_ev d qX12_comesTo 95 [a0, a1, a2, a3, a4, a5, .int x, a7] (.int x :: st) h) ∧
  (∀ (d : Nat) (L st : List Value) (h : fk_H), fk_ev d qX12_comesTo 95 L st h = fk_ev d qX12_comesTo 97 L (.int (nI 10) :: st) h) ∧
  (∀ (d : Nat) (L : List Value) (x y : Int32) (st : List Value) (h : fk_H), fk_ev d qX12_comesTo 97 L (.int y :: .int x :: st) h = if ¬ x = y then fk_ev d qX12_comesTo 121 L st h else fk_ev d qX12_comesTo 100 L st h) ∧
  (∀ (d : Nat) (a1 a2 a3 a4 a5 a6 a7 : Value) (x : Nat) (st : List Value) (h : fk_H), fk_ev d qX12_comesTo 100 [.ref x, a1, a2, a3, a4, a5, a6, a7] st h = fk_ev d qX12_comesTo 101 [.ref x, a1, a2, a3, a4, a5, a6, a7] (.ref x :: st) h) ∧
  (∀ (d : Nat) (L st : List Value) (N : Nat) (y : Nat → Nat → Int32) (l : Nat → Nat → Int64), fk_ev d qX12_comesTo 101 L (.ref 246 :: st) (fk_E N y l) = fk_ev d qX12_comesTo 104 L (.ref 267 :: st) (fk_E N y l)) ∧
  (∀ (d : Nat) (a0 a1 a2 a4 a5 a6 a7 : Value) (x : Int32) (st : List Value) (h : fk_H), fk_ev d qX12_comesTo 104 [a0, a1, a2, .int x, a4, a5, a6, a7] st h = fk_ev d qX12_comesTo 105 [a0, a1, a2, .int x, a4, a5, a6, a7] (.int x :: st) h) ∧
  (∀ (d : Nat) (L st : List Value) (h : fk_H), fk_ev d qX12_comesTo 105 L st h = fk_ev d qX12_comesTo 106 L (.int (nI 1) :: st) h) ∧
  (∀ (d : Nat) (L : List Value) (x y : Int32) (st : List Value) (h : fk_H), fk_ev d qX12_comesTo 106 L (.int y :: .int x :: st) h = fk_ev d qX12_comesTo 107 L (.int (x - y) :: st) h) ∧
  (∀ (d : Nat) (L st : List Value) (h : fk_H), fk_ev d qX12_comesTo 107 L st h = fk_ev d qX12_comesTo 108 L (.int (nI 1) :: st) h) ∧
  (∀ (d : Nat) (a1 a2 a3 a4 a5 a6 a7 : Value) (x : Nat) (st : List Value) (h : fk_H), fk_ev d qX12_comesTo 108 [.ref x, a1, a2, a3, a4, a5, a6, a7] st h = fk_ev d qX12_comesTo 109 [.ref x, a1, a2, a3, a4, a5, a6, a7] (.ref x :: st) h) ∧
  (∀ (d : Nat) (L st : List Value) (N : Nat) (y : Nat → Nat → Int32) (l : Nat → Nat → Int64), fk_ev d qX12_comesTo 109 L (.ref 246 :: st) (fk_E N y l) = fk_ev d qX12_comesTo 112 L (.ref 267 :: st) (fk_E N y l)) ∧
  (∀ (d : Nat) (a0 a1 a2 a4 a5 a6 a7 : Value) (x : Int32) (st : List Value) (h : fk_H), fk_ev d qX12_comesTo 112 [a0, a1, a2, .int x, a4, a5, a6, a7] st h = fk_ev d qX12_comesTo 113 [a0, a1, a2, .int x, a4, a5, a6, a7] (.int x :: st) h) ∧
  (∀ (d : Nat) (L st : List Value) (h : fk_H), fk_ev d qX12_comesTo 113 L st h = fk_ev d qX12_comesTo 114 L (.int (nI 1) :: st) h) ∧
  (∀ (d : Nat) (L : List Value) (x y : Int32) (st : List Value) (h : fk_H), fk_ev d qX12_comesTo 114 L (.int y :: .int x :: st) h = fk_ev d qX12_comesTo 115 L (.int (x - y) :: st) h) ∧
  (∀ (d : Nat) (L st : List Value) (N : Nat) (y : Nat → Nat → Int32) (l : Nat → Nat → Int64) (i : Nat), i < 260 → fk_ev d qX12_comesTo 115 L (.int (nI i) :: .ref 267 :: st) (fk_E N y l) = fk_ev d qX12_comesTo 116 L (.int (y 267 i) :: st) (fk_E N y l)) ∧
  (∀ (d : Nat) (L : List Value) (x y : Int32) (st : List Value) (h : fk_H), fk_ev d qX12_comesTo 116 L (.int y :: .int x :: st) h = fk_ev d qX12_comesTo 117 L (.int (x - y) :: st) h) ∧
  (∀ (d : Nat) (L st : List Value) (N : Nat) (y : Nat → Nat → Int32) (l : Nat → Nat → Int64) (i : Nat) (v : Int32), i < 260 → fk_ev d qX12_comesTo 117 L (.int v :: .int (nI i) :: .ref 267 :: st) (fk_E N y l) = fk_ev d qX12_comesTo 118 L st (fk_E N (fk_u y 267 i v) l)) ∧
  (∀ (d : Nat) (L st : List Value) (h : fk_H), fk_ev d qX12_comesTo 118 L st h = fk_ev d qX12_comesTo 230 L st h) ∧
  (∀ (d : Nat) (a0 a1 a2 a3 a4 a5 a7 : Value) (x : Int32) (st : List Value) (h : fk_H), fk_ev d qX12_comesTo 121 [a0, a1, a2, a3, a4, a5, .int x, a7] st h = fk_ev d qX12_comesTo 123 [a0, a1, a2, a3, a4, a5, .int x, a7] (.int x :: st) h) ∧
  (∀ (d : Nat) (L st : List Value) (h : fk_H), fk_ev d qX12_comesTo 123 L st h = fk_ev d qX12_comesTo 125 L (.int (nI 11) :: st) h) ∧
  (∀ (d : Nat) (L : List Value) (x y : Int32) (st : List Value) (h : fk_H), fk_ev d qX12_comesTo 125 L (.int y :: .int x :: st) h = if x = y then fk_ev d qX12_comesTo 135 L st h else fk_ev d qX12_comesTo 128 L st h) ∧
  (∀ (d : Nat) (a0 a1 a2 a3 a4 a5 a7 : Value) (x : Int32) (st : List Value) (h : fk_H), fk_ev d qX12_comesTo 128 [a0, a1, a2, a3, a4, a5, .int x, a7] st h = fk_ev d qX12_comesTo 130 [a0, a1, a2, a3, a4, a5, .int x, a7] (.int x :: st) h) ∧
  (∀ (d : Nat) (L st : List Value) (h : fk_H), fk_ev d qX12_comesTo 130 L st h = fk_ev d qX12_comesTo 132 L (.int (nI 12) :: st) h) ∧
  (∀ (d : Nat) (L : List Value) (x y : Int32) (st : List Value) (h : fk_H), fk_ev d qX12_comesTo 132 L (.int y :: .int x :: st) h = if ¬ x = y then fk_ev d qX12_comesTo 175 L st h else fk_ev d qX12_comesTo 135 L st h) ∧
  (∀ (d : Nat) (a1 a2 a3 a4 a5 a6 a7 : Value) (x : Nat) (st : List Value) (h : fk_H), fk_ev d qX12_comesTo 135 [.ref x, a1, a2, a3, a4, a5, a6, a7] st h = fk_ev d qX12_comesTo 136 [.ref x, a1, a2, a3, a4, a5, a6, a7] (.ref x :: st) h) ∧
  (∀ (d : Nat) (L st : List Value) (N : Nat) (y : Nat → Nat → Int32) (l : Nat → Nat → Int64), fk_ev d qX12_comesTo 136 L (.ref 246 :: st) (fk_E N y l) = fk_ev d qX12_comesTo 139 L (.ref 267 :: st) (fk_E N y l)) ∧
  (∀ (d : Nat) (a0 a1 a2 a4 a5 a6 a7 : Value) (x : Int32) (st : List Value) (h : fk_H), fk_ev d qX12_comesTo 139 [a0, a1, a2, .int x, a4, a5, a6, a7] st h = fk_ev d qX12_comesTo 140 [a0, a1, a2, .int x, a4, a5, a6, a7] (.int x :: st) h) ∧
  (∀ (d : Nat) (L st : List Value) (h : fk_H), fk_ev d qX12_comesTo 140 L st h = fk_ev d qX12_comesTo 141 L (.int (nI 1) :: st) h) ∧
  (∀ (d : Nat) (L : List Value) (x y : Int32) (st : List Value) (h : fk_H), fk_ev d qX12_comesTo 141 L (.int y :: .int x :: st) h = fk_ev d qX12_comesTo 142 L (.int (x - y) :: st) h) ∧
  (∀ (d : Nat) (L st : List Value) (N : Nat) (y : Nat → Nat → Int32) (l : Nat → Nat → Int64) (i : Nat), i < 260 → fk_ev d qX12_comesTo 142 L (.int (nI i) :: .ref 267 :: st) (fk_E N y l) = fk_ev d qX12_comesTo 143 L (.int (y 267 i) :: st) (fk_E N y l)) ∧
  (∀ (d : Nat) (a0 a1 a2 a3 a4 a5 a7 : Value) (x : Int32) (st : List Value) (h : fk_H), fk_ev d qX12_comesTo 143 [a0, a1, a2, a3, a4, a5, .int x, a7] st h = fk_ev d qX12_comesTo 145 [a0, a1, a2, a3, a4, a5, .int x, a7] (.int x :: st) h) ∧
  (∀ (d : Nat) (L st : List Value) (h : fk_H), fk_ev d qX12_comesTo 145 L st h = fk_ev d qX12_comesTo 147 L (.int (nI 12) :: st) h) ∧
  (∀ (d : Nat) (L : List Value) (x y : Int32) (st : List Value) (h : fk_H), fk_ev d qX12_comesTo 147 L (.int y :: .int x :: st) h = if ¬ x = y then fk_ev d qX12_comesTo 154 L st h else fk_ev d qX12_comesTo 150 L st h) ∧
  (∀ (d : Nat) (L st : List Value) (h : fk_H), fk_ev d qX12_comesTo 150 L st h = fk_ev d qX12_comesTo 151 L (.int (nI 1) :: st) h) ∧
  (∀ (d : Nat) (L st : List Value) (h : fk_H), fk_ev d qX12_comesTo 151 L st h = fk_ev d qX12_comesTo 155 L st h) ∧
  (∀ (d : Nat) (L st : List Value) (h : fk_H), fk_ev d qX12_comesTo 154 L st h = fk_ev d qX12_comesTo 155 L (.int (nI 0) :: st) h) ∧
  (∀ (d : Nat) (L : List Value) (x y : Int32) (st : List Value) (h : fk_H), fk_ev d qX12_comesTo 155 L (.int y :: .int x :: st) h = if ¬ x = y then fk_ev d qX12_comesTo 168 L st h else fk_ev d qX12_comesTo 158 L st h) ∧
  (∀ (d : Nat) (a0 a1 a2 a3 a5 a6 a7 : Value) (x : Int32) (st : List Value) (h : fk_H), fk_ev d qX12_comesTo 158 [a0, a1, a2, a3, .int x, a5, a6, a7] st h = fk_ev d qX12_comesTo 160 [a0, a1, a2, a3, .int x, a5, a6, a7] (.int x :: st) h) ∧
  (∀ (d : Nat) (a0 a1 a2 a3 a4 a5 a6 : Value) (x : Int32) (st : List Value) (h : fk_H), fk_ev d qX12_comesTo 160 [a0, a1, a2, a3, a4, a5, a6, .int x] st h = fk_ev d qX12_comesTo 162 [a0, a1, a2, a3, a4, a5, a6, .int x] (.int x :: st) h) ∧
  (∀ (d : Nat) (L : List Value) (x y : Int32) (st : List Value) (h : fk_H), fk_ev d qX12_comesTo 162 L (.int y :: .int x :: st) h = fk_ev d qX12_comesTo 163 L (.int (x + y) :: st) h) ∧
  (∀ (d : Nat) (a0 a1 a2 a3 a4 a5 a6 a7 : Value) (x : Int32) (st : List Value) (h : fk_H), fk_ev d qX12_comesTo 163 [a0, a1, a2, a3, a4, a5, a6, a7] (.int x :: st) h = fk_ev d qX12_comesTo 165 [a0, a1, a2, a3, a4, .int x, a6, a7] st h) ∧
  (∀ (d : Nat) (L st : List Value) (h : fk_H), fk_ev d qX12_comesTo 165 L st h = fk_ev d qX12_comesTo 230 L st h) ∧
  (∀ (d : Nat) (a0 a1 a2 a4 a5 a6 a7 : Value) (x : Int32) (st : List Value) (h : fk_H), fk_ev d qX12_comesTo 168 [a0, a1, a2, .int x, a4, a5, a6, a7] st h = fk_ev d qX12_comesTo 169 [a0, a1, a2, .int x, a4, a5, a6, a7] (.int x :: st) h) ∧
  (∀ (d : Nat) (L st : List Value) (h : fk_H), fk_ev d qX12_comesTo 169 L st h = fk_ev d qX12_comesTo 170 L (.int (nI 1) :: st) h) ∧
  (∀ (d : Nat) (L : List Value) (x y : Int32) (st : List Value) (h : fk_H), fk_ev d qX12_comesTo 170 L (.int y :: .int x :: st) h = fk_ev d qX12_comesTo 171 L (.int (x - y) :: st) h) ∧
  (∀ (d : Nat) (a0 a1 a2 a3 a4 a5 a6 a7 : Value) (x : Int32) (st : List Value) (h : fk_H), fk_ev d qX12_comesTo 171 [a0, a1, a2, a3, a4, a5, a6, a7] (.int x :: st) h = fk_ev d qX12_comesTo 172 [a0, a1, a2, .int x, a4, a5, a6, a7] st h) ∧
  (∀ (d : Nat) (L st : List Value) (h : fk_H), fk_ev d qX12_comesTo 172 L st h = fk_ev d qX12_comesTo 230 L st h) ∧
  (∀ (d : Nat) (a0 a1 a2 a4 a5 a6 a7 : Value) (x : Int32) (st : List Value) (h : fk_H), fk_ev d qX12_comesTo 175 [a0, a1, a2, .int x, a4, a5, a6, a7] st h = fk_ev d qX12_comesTo 176 [a0, a1, a2, .int x, a4, a5, a6, a7] (.int x :: st) h) ∧
  (∀ (d : Nat) (L st : List Value) (h : fk_H), fk_ev d qX12_comesTo 176 L st h = fk_ev d qX12_comesTo 177 L (.int (nI 1) :: st) h) ∧
  (∀ (d : Nat) (L : List Value) (x y : Int32) (st : List Value) (h : fk_H), fk_ev d qX12_comesTo 177 L (.int y :: .int x :: st) h = fk_ev d qX12_comesTo 178 L (.int (x - y) :: st) h) ∧
  (∀ (d : Nat) (a0 a1 a2 a3 a4 a5 a6 a7 : Value) (x : Int32) (st : List Value) (h : fk_H), fk_ev d qX12_comesTo 178 [a0, a1, a2, a3, a4, a5, a6, a7] (.int x :: st) h = fk_ev d qX12_comesTo 179 [a0, a1, a2, .int x, a4, a5, a6, a7] st h) ∧
  (∀ (d : Nat) (a0 a1 a2 a3 a4 a5 a7 : Value) (x : Int32) (st : List Value) (h : fk_H), fk_ev d qX12_comesTo 179 [a0, a1, a2, a3, a4, a5, .int x, a7] st h = fk_ev d qX12_comesTo 181 [a0, a1, a2, a3, a4, a5, .int x, a7] (.int x :: st) h) ∧
  (∀ (d : Nat) (L st : List Value) (h : fk_H), fk_ev d qX12_comesTo 181 L st h = fk_ev d qX12_comesTo 182 L (.int (nI 5) :: st) h) ∧
  (∀ (d : Nat) (L : List Value) (x y : Int32) (st : List Value) (h : fk_H), fk_ev d qX12_comesTo 182 L (.int y :: .int x :: st) h = if x = y then fk_ev d qX12_comesTo 192 L st h else fk_ev d qX12_comesTo 185 L st h) ∧
  (∀ (d : Nat) (a0 a1 a2 a3 a4 a5 a7 : Value) (x : Int32) (st : List Value) (h : fk_H), fk_ev d qX12_comesTo 185 [a0, a1, a2, a3, a4, a5, .int x, a7] st h = fk_ev d qX12_comesTo 187 [a0, a1, a2, a3, a4, a5, .int x, a7] (.int x :: st) h) ∧
  (∀ (d : Nat) (L st : List Value) (h : fk_H), fk_ev d qX12_comesTo 187 L st h = fk_ev d qX12_comesTo 189 L (.int (nI 6) :: st) h) ∧
  (∀ (d : Nat) (L : List Value) (x y : Int32) (st : List Value) (h : fk_H), fk_ev d qX12_comesTo 189 L (.int y :: .int x :: st) h = if ¬ x = y then fk_ev d qX12_comesTo 203 L st h else fk_ev d qX12_comesTo 192 L st h) ∧
  (∀ (d : Nat) (a1 a2 a3 a4 a5 a6 a7 : Value) (x : Nat) (st : List Value) (h : fk_H), fk_ev d qX12_comesTo 192 [.ref x, a1, a2, a3, a4, a5, a6, a7] st h = fk_ev d qX12_comesTo 193 [.ref x, a1, a2, a3, a4, a5, a6, a7] (.ref x :: st) h) ∧
  (∀ (d : Nat) (L st : List Value) (N : Nat) (y : Nat → Nat → Int32) (l : Nat → Nat → Int64), fk_ev d qX12_comesTo 193 L (.ref 246 :: st) (fk_E N y l) = fk_ev d qX12_comesTo 196 L (.ref 267 :: st) (fk_E N y l)) ∧
  (∀ (d : Nat) (a0 a1 a2 a4 a5 a6 a7 : Value) (x : Int32) (st : List Value) (h : fk_H), fk_ev d qX12_comesTo 196 [a0, a1, a2, .int x, a4, a5, a6, a7] st h = fk_ev d qX12_comesTo 197 [a0, a1, a2, .int x, a4, a5, a6, a7] (.int x :: st) h) ∧
  (∀ (d : Nat) (L st : List Value) (N : Nat) (y : Nat → Nat → Int32) (l : Nat → Nat → Int64) (i : Nat), i < 260 → fk_ev d qX12_comesTo 197 L (.int (nI i) :: .ref 267 :: st) (fk_E N y l) = fk_ev d qX12_comesTo 198 L (.int (y 267 i) :: st) (fk_E N y l)) ∧
  (∀ (d : Nat) (L : List Value) (x : Int32) (st : List Value) (h : fk_H), fk_ev d qX12_comesTo 198 L (.int x :: st) h = if ¬ x = nI 0 then fk_ev d qX12_comesTo 203 L st h else fk_ev d qX12_comesTo 201 L st h) ∧
  (∀ (d : Nat) (L st : List Value) (h : fk_H), fk_ev d qX12_comesTo 201 L st h = fk_ev d qX12_comesTo 202 L (.int (nI 0) :: st) h) ∧
  (∀ (d : Nat) (L : List Value) (x : Int32) (h : fk_H), fk_ev d qX12_comesTo 202 L [.int x] h = some (some (.int x), h)) ∧
  (∀ (d : Nat) (a1 a2 a3 a4 a5 a6 a7 : Value) (x : Nat) (st : List Value) (h : fk_H), fk_ev d qX12_comesTo 203 [.ref x, a1, a2, a3, a4, a5, a6, a7] st h = fk_ev d qX12_comesTo 204 [.ref x, a1, a2, a3, a4, a5, a6, a7] (.ref x :: st) h) ∧
  (∀ (d : Nat) (L st : List Value) (N : Nat) (y : Nat → Nat → Int32) (l : Nat → Nat → Int64), fk_ev d qX12_comesTo 204 L (.ref 246 :: st) (fk_E N y l) = fk_ev d qX12_comesTo 207 L (.ref 267 :: st) (fk_E N y l)) ∧
  (∀ (d : Nat) (a0 a1 a2 a4 a5 a6 a7 : Value) (x : Int32) (st : List Value) (h : fk_H), fk_ev d qX12_comesTo 207 [a0, a1, a2, .int x, a4, a5, a6, a7] st h = fk_ev d qX12_comesTo 208 [a0, a1, a2, .int x, a4, a5, a6, a7] (.int x :: st) h) ∧
  (∀ (d : Nat) (L st : List Value) (h : fk_H), fk_ev d qX12_comesTo 208 L st h = fk_ev d qX12_comesTo 209 L (.int (nI 1) :: st) h) ∧
  (∀ (d : Nat) (L : List Value) (x y : Int32) (st : List Value) (h : fk_H), fk_ev d qX12_comesTo 209 L (.int y :: .int x :: st) h = fk_ev d qX12_comesTo 210 L (.int (x - y) :: st) h) ∧
  (∀ (d : Nat) (a0 a1 a2 a3 a4 a5 a7 : Value) (x : Int32) (st : List Value) (h : fk_H), fk_ev d qX12_comesTo 210 [a0, a1, a2, a3, a4, a5, .int x, a7] st h = fk_ev d qX12_comesTo 212 [a0, a1, a2, a3, a4, a5, .int x, a7] (.int x :: st) h) ∧
  (∀ (d : Nat) (a1 a2 a3 a4 a5 a6 a7 : Value) (x : Nat) (st : List Value) (h : fk_H), fk_ev d qX12_comesTo 212 [.ref x, a1, a2, a3, a4, a5, a6, a7] st h = fk_ev d qX12_comesTo 213 [.ref x, a1, a2, a3, a4, a5, a6, a7] (.ref x :: st) h) ∧
  (∀ (d : Nat) (L st : List Value) (N : Nat) (y : Nat → Nat → Int32) (l : Nat → Nat → Int64), fk_ev d qX12_comesTo 213 L (.ref 246 :: st) (fk_E N y l) = fk_ev d qX12_comesTo 216 L (.ref 267 :: st) (fk_E N y l)) ∧
  (∀ (d : Nat) (a0 a1 a2 a4 a5 a6 a7 : Value) (x : Int32) (st : List Value) (h : fk_H), fk_ev d qX12_comesTo 216 [a0, a1, a2, .int x, a4, a5, a6, a7] st h = fk_ev d qX12_comesTo 217 [a0, a1, a2, .int x, a4, a5, a6, a7] (.int x :: st) h) ∧
  (∀ (d : Nat) (L st : List Value) (h : fk_H), fk_ev d qX12_comesTo 217 L st h = fk_ev d qX12_comesTo 218 L (.int (nI 1) :: st) h) ∧
  (∀ (d : Nat) (L : List Value) (x y : Int32) (st : List Value) (h : fk_H), fk_ev d qX12_comesTo 218 L (.int y :: .int x :: st) h = fk_ev d qX12_comesTo 219 L (.int (x - y) :: st) h) ∧
  (∀ (d : Nat) (L st : List Value) (N : Nat) (y : Nat → Nat → Int32) (l : Nat → Nat → Int64) (i : Nat), i < 260 → fk_ev d qX12_comesTo 219 L (.int (nI i) :: .ref 267 :: st) (fk_E N y l) = fk_ev d qX12_comesTo 220 L (.int (y 267 i) :: st) (fk_E N y l)) ∧
  (∀ (d : Nat) (a1 a2 a3 a4 a5 a6 a7 : Value) (x : Nat) (st : List Value) (h : fk_H), fk_ev d qX12_comesTo 220 [.ref x, a1, a2, a3, a4, a5, a6, a7] st h = fk_ev d qX12_comesTo 221 [.ref x, a1, a2, a3, a4, a5, a6, a7] (.ref x :: st) h) ∧
  (∀ (d : Nat) (L st : List Value) (N : Nat) (y : Nat → Nat → Int32) (l : Nat → Nat → Int64), fk_ev d qX12_comesTo 221 L (.ref 246 :: st) (fk_E N y l) = fk_ev d qX12_comesTo 224 L (.ref 267 :: st) (fk_E N y l)) ∧
  (∀ (d : Nat) (a0 a1 a2 a4 a5 a6 a7 : Value) (x : Int32) (st : List Value) (h : fk_H), fk_ev d qX12_comesTo 224 [a0, a1, a2, .int x, a4, a5, a6, a7] st h = fk_ev d qX12_comesTo 225 [a0, a1, a2, .int x, a4, a5, a6, a7] (.int x :: st) h) ∧
  (∀ (d : Nat) (L st : List Value) (N : Nat) (y : Nat → Nat → Int32) (l : Nat → Nat → Int64) (i : Nat), i < 260 → fk_ev d qX12_comesTo 225 L (.int (nI i) :: .ref 267 :: st) (fk_E N y l) = fk_ev d qX12_comesTo 226 L (.int (y 267 i) :: st) (fk_E N y l)) ∧
  (∀ (d : Nat) (L : List Value) (x0 : Int32) (x1 : Int32) (x2 : Int32) (w0 w1 : Value) (h : fk_H), fk_ev (d + 1) qX12_comesTo 226 L (.int x2 :: .int x1 :: .int x0 :: [w0, w1]) h = (fk_ev d qX12_reckon 0 [.int x0, .int x1, .int x2] [] h).bind fun o => fk_ev (d + 1) qX12_comesTo 229 L (o.1.toList ++ [w0, w1]) o.2) ∧
  (∀ (d : Nat) (L st : List Value) (N : Nat) (y : Nat → Nat → Int32) (l : Nat → Nat → Int64) (i : Nat) (v : Int32), i < 260 → fk_ev d qX12_comesTo 229 L (.int v :: .int (nI i) :: .ref 267 :: st) (fk_E N y l) = fk_ev d qX12_comesTo 230 L st (fk_E N (fk_u y 267 i v) l)) ∧
  (∀ (d : Nat) (L st : List Value) (h : fk_H), fk_ev d qX12_comesTo 230 L st h = fk_ev d qX12_comesTo 16 L st h) ∧
  (∀ (d : Nat) (a1 a2 a3 a4 a5 a6 a7 : Value) (x : Nat) (st : List Value) (h : fk_H), fk_ev d qX12_comesTo 233 [.ref x, a1, a2, a3, a4, a5, a6, a7] st h = fk_ev d qX12_comesTo 234 [.ref x, a1, a2, a3, a4, a5, a6, a7] (.ref x :: st) h) ∧
  (∀ (d : Nat) (L st : List Value) (N : Nat) (y : Nat → Nat → Int32) (l : Nat → Nat → Int64), fk_ev d qX12_comesTo 234 L (.ref 246 :: st) (fk_E N y l) = fk_ev d qX12_comesTo 237 L (.ref 267 :: st) (fk_E N y l)) ∧
  (∀ (d : Nat) (L st : List Value) (h : fk_H), fk_ev d qX12_comesTo 237 L st h = fk_ev d qX12_comesTo 238 L (.int (nI 0) :: st) h) ∧
  (∀ (d : Nat) (L st : List Value) (N : Nat) (y : Nat → Nat → Int32) (l : Nat → Nat → Int64) (i : Nat), i < 260 → fk_ev d qX12_comesTo 238 L (.int (nI i) :: .ref 267 :: st) (fk_E N y l) = fk_ev d qX12_comesTo 239 L (.int (y 267 i) :: st) (fk_E N y l)) ∧
  (∀ (d : Nat) (L : List Value) (x : Int32) (h : fk_H), fk_ev d qX12_comesTo 239 L [.int x] h = some (some (.int x), h)) := ⟨fun d L st h => fk_w_iconst dX12_comesTo_0 (by decide),
  fun d a0 a1 a2 a3 a4 a5 a6 a7 x st h => fk_w_istoren 3 8 [] [a0, a1, a2, a3, a4, a5, a6, a7] [a0, a1, a2, .int x, a4, a5, a6, a7] dX12_comesTo_1 rfl rfl (by decide) rfl,
  fun d L st h => fk_w_sipush dX12_comesTo_2 (by decide),
  fun d a0 a2 a3 a4 a5 a6 a7 x st h => fk_w_iloadn 1 [a0, .int x, a2, a3, a4, a5, a6, a7] dX12_comesTo_5 rfl,
  fun d L st h => fk_w_sipush dX12_comesTo_6 (by decide),
  fun d L x y st h => fk_r_idiv dX12_comesTo_9,
  fun d L x y st h => fk_r_imul dX12_comesTo_10,
  fun d a0 a1 a2 a3 a4 a5 a6 a7 x st h => fk_w_istore 4 8 [] [a0, a1, a2, a3, a4, a5, a6, a7] [a0, a1, a2, a3, .int x, a5, a6, a7] dX12_comesTo_11 rfl rfl (by decide) rfl,
  fun d a0 a2 a3 a4 a5 a6 a7 x st h => fk_w_iloadn 1 [a0, .int x, a2, a3, a4, a5, a6, a7] dX12_comesTo_13 rfl,
  fun d a0 a1 a2 a3 a4 a5 a6 a7 x st h => fk_w_istore 5 8 [] [a0, a1, a2, a3, a4, a5, a6, a7] [a0, a1, a2, a3, a4, .int x, a6, a7] dX12_comesTo_14 rfl rfl (by decide) rfl,
  fun d a0 a1 a3 a4 a5 a6 a7 x st h => fk_w_iloadn 2 [a0, a1, .int x, a3, a4, a5, a6, a7] dX12_comesTo_18 rfl,
  fun d L x y st h => fk_r_icmp_ge dX12_comesTo_19 (by decide),
  fun d a1 a2 a3 a4 a5 a6 a7 x st h => fk_w_aloadn 0 [.ref x, a1, a2, a3, a4, a5, a6, a7] dX12_comesTo_22 rfl,
  fun d L st N y l => fk_g_getC rfl lf_12_57 (by decide) rfl dX12_comesTo_23 fk_at_246,
  fun d a0 a1 a2 a3 a4 a6 a7 x st h => fk_w_iload 5 [a0, a1, a2, a3, a4, .int x, a6, a7] dX12_comesTo_26 rfl,
  fun d L st N y l i hi => fk_g_iald fk_at_262 fk_ln_262 (by decide) dX12_comesTo_28 hi,
  fun d L st h => fk_g_ldc rfl lc_12_181 (by decide) dX12_comesTo_29,
  fun d L x y st h => fk_r_idiv dX12_comesTo_31,
  fun d a0 a1 a2 a3 a4 a5 a6 a7 x st h => fk_w_istore 6 8 [] [a0, a1, a2, a3, a4, a5, a6, a7] [a0, a1, a2, a3, a4, a5, .int x, a7] dX12_comesTo_32 rfl rfl (by decide) rfl,
  fun d a1 a2 a3 a4 a5 a6 a7 x st h => fk_w_aloadn 0 [.ref x, a1, a2, a3, a4, a5, a6, a7] dX12_comesTo_34 rfl,
  fun d L st N y l => fk_g_getC rfl lf_12_57 (by decide) rfl dX12_comesTo_35 fk_at_246,
  fun d a0 a1 a2 a3 a4 a6 a7 x st h => fk_w_iload 5 [a0, a1, a2, a3, a4, .int x, a6, a7] dX12_comesTo_38 rfl,
  fun d L st N y l i hi => fk_g_iald fk_at_262 fk_ln_262 (by decide) dX12_comesTo_40 hi,
  fun d L st h => fk_g_ldc rfl lc_12_181 (by decide) dX12_comesTo_41,
  fun d L x y st h => fk_r_irem dX12_comesTo_43,
  fun d a0 a1 a2 a3 a4 a5 a6 a7 x st h => fk_w_istore 7 8 [] [a0, a1, a2, a3, a4, a5, a6, a7] [a0, a1, a2, a3, a4, a5, a6, .int x] dX12_comesTo_44 rfl rfl (by decide) rfl,
  fun d a0 a1 a2 a3 a4 a6 a7 x st h => fk_w_iload 5 [a0, a1, a2, a3, a4, .int x, a6, a7] dX12_comesTo_46 rfl,
  fun d L st h => fk_w_iconst dX12_comesTo_48 (by decide),
  fun d L x y st h => fk_r_iadd dX12_comesTo_49,
  fun d a0 a1 a2 a3 a4 a5 a6 a7 x st h => fk_w_istore 5 8 [] [a0, a1, a2, a3, a4, a5, a6, a7] [a0, a1, a2, a3, a4, .int x, a6, a7] dX12_comesTo_50 rfl rfl (by decide) rfl,
  fun d a0 a1 a2 a3 a4 a5 a7 x st h => fk_w_iload 6 [a0, a1, a2, a3, a4, a5, .int x, a7] dX12_comesTo_52 rfl,
  fun d L x st h => fk_r_if_eq dX12_comesTo_54 (by decide),
  fun d a0 a1 a2 a3 a4 a5 a7 x st h => fk_w_iload 6 [a0, a1, a2, a3, a4, a5, .int x, a7] dX12_comesTo_57 rfl,
  fun d L st h => fk_w_iconst dX12_comesTo_59 (by decide),
  fun d L x y st h => fk_r_icmp_ne dX12_comesTo_60 (by decide),
  fun d a1 a2 a3 a4 a5 a6 a7 x st h => fk_w_aloadn 0 [.ref x, a1, a2, a3, a4, a5, a6, a7] dX12_comesTo_63 rfl,
  fun d L st N y l => fk_g_getC rfl lf_12_72 (by decide) rfl dX12_comesTo_64 fk_at_246,
  fun d a0 a1 a2 a4 a5 a6 a7 x st h => fk_w_iloadn 3 [a0, a1, a2, .int x, a4, a5, a6, a7] dX12_comesTo_67 rfl,
  fun d a0 a1 a2 a3 a4 a5 a7 x st h => fk_w_iload 6 [a0, a1, a2, a3, a4, a5, .int x, a7] dX12_comesTo_68 rfl,
  fun d L x st h => fk_r_if_ne dX12_comesTo_70 (by decide),
  fun d a0 a1 a2 a3 a4 a5 a6 x st h => fk_w_iload 7 [a0, a1, a2, a3, a4, a5, a6, .int x] dX12_comesTo_73 rfl,
  fun d L st h => fk_r_goto dX12_comesTo_75 (by decide),
  fun d a1 a2 a3 a4 a5 a6 a7 x st h => fk_w_aloadn 0 [.ref x, a1, a2, a3, a4, a5, a6, a7] dX12_comesTo_78 rfl,
  fun d L st N y l => fk_g_getC rfl lf_12_75 (by decide) rfl dX12_comesTo_79 fk_at_246,
  fun d a0 a1 a2 a3 a4 a5 a6 x st h => fk_w_iload 7 [a0, a1, a2, a3, a4, a5, a6, .int x] dX12_comesTo_82 rfl,
  fun d L st N y l i hi => fk_g_iald fk_at_268 fk_ln_268 (by decide) dX12_comesTo_84 hi,
  fun d L st N y l i v hi => fk_g_iast fk_at_267 fk_ln_267 (by decide) dX12_comesTo_85 hi,
  fun d a0 a1 a2 a4 a5 a6 a7 x st h => fk_w_iloadn 3 [a0, a1, a2, .int x, a4, a5, a6, a7] dX12_comesTo_86 rfl,
  fun d L st h => fk_w_iconst dX12_comesTo_87 (by decide),
  fun d L x y st h => fk_r_iadd dX12_comesTo_88,
  fun d a0 a1 a2 a3 a4 a5 a6 a7 x st h => fk_w_istoren 3 8 [] [a0, a1, a2, a3, a4, a5, a6, a7] [a0, a1, a2, .int x, a4, a5, a6, a7] dX12_comesTo_89 rfl rfl (by decide) rfl,
  fun d L st h => fk_r_goto dX12_comesTo_90 (by decide),
  fun d a0 a1 a2 a3 a4 a5 a7 x st h => fk_w_iload 6 [a0, a1, a2, a3, a4, a5, .int x, a7] dX12_comesTo_93 rfl,
  fun d L st h => fk_w_bipush dX12_comesTo_95 (by decide),
  fun d L x y st h => fk_r_icmp_ne dX12_comesTo_97 (by decide),
  fun d a1 a2 a3 a4 a5 a6 a7 x st h => fk_w_aloadn 0 [.ref x, a1, a2, a3, a4, a5, a6, a7] dX12_comesTo_100 rfl,
  fun d L st N y l => fk_g_getC rfl lf_12_72 (by decide) rfl dX12_comesTo_101 fk_at_246,
  fun d a0 a1 a2 a4 a5 a6 a7 x st h => fk_w_iloadn 3 [a0, a1, a2, .int x, a4, a5, a6, a7] dX12_comesTo_104 rfl,
  fun d L st h => fk_w_iconst dX12_comesTo_105 (by decide),
  fun d L x y st h => fk_r_isub dX12_comesTo_106,
  fun d L st h => fk_w_iconst dX12_comesTo_107 (by decide),
  fun d a1 a2 a3 a4 a5 a6 a7 x st h => fk_w_aloadn 0 [.ref x, a1, a2, a3, a4, a5, a6, a7] dX12_comesTo_108 rfl,
  fun d L st N y l => fk_g_getC rfl lf_12_72 (by decide) rfl dX12_comesTo_109 fk_at_246,
  fun d a0 a1 a2 a4 a5 a6 a7 x st h => fk_w_iloadn 3 [a0, a1, a2, .int x, a4, a5, a6, a7] dX12_comesTo_112 rfl,
  fun d L st h => fk_w_iconst dX12_comesTo_113 (by decide),
  fun d L x y st h => fk_r_isub dX12_comesTo_114,
  fun d L st N y l i hi => fk_g_iald fk_at_267 fk_ln_267 (by decide) dX12_comesTo_115 hi,
  fun d L x y st h => fk_r_isub dX12_comesTo_116,
  fun d L st N y l i v hi => fk_g_iast fk_at_267 fk_ln_267 (by decide) dX12_comesTo_117 hi,
  fun d L st h => fk_r_goto dX12_comesTo_118 (by decide),
  fun d a0 a1 a2 a3 a4 a5 a7 x st h => fk_w_iload 6 [a0, a1, a2, a3, a4, a5, .int x, a7] dX12_comesTo_121 rfl,
  fun d L st h => fk_w_bipush dX12_comesTo_123 (by decide),
  fun d L x y st h => fk_r_icmp_eq dX12_comesTo_125 (by decide),
  fun d a0 a1 a2 a3 a4 a5 a7 x st h => fk_w_iload 6 [a0, a1, a2, a3, a4, a5, .int x, a7] dX12_comesTo_128 rfl,
  fun d L st h => fk_w_bipush dX12_comesTo_130 (by decide),
  fun d L x y st h => fk_r_icmp_ne dX12_comesTo_132 (by decide),
  fun d a1 a2 a3 a4 a5 a6 a7 x st h => fk_w_aloadn 0 [.ref x, a1, a2, a3, a4, a5, a6, a7] dX12_comesTo_135 rfl,
  fun d L st N y l => fk_g_getC rfl lf_12_72 (by decide) rfl dX12_comesTo_136 fk_at_246,
  fun d a0 a1 a2 a4 a5 a6 a7 x st h => fk_w_iloadn 3 [a0, a1, a2, .int x, a4, a5, a6, a7] dX12_comesTo_139 rfl,
  fun d L st h => fk_w_iconst dX12_comesTo_140 (by decide),
  fun d L x y st h => fk_r_isub dX12_comesTo_141,
  fun d L st N y l i hi => fk_g_iald fk_at_267 fk_ln_267 (by decide) dX12_comesTo_142 hi,
  fun d a0 a1 a2 a3 a4 a5 a7 x st h => fk_w_iload 6 [a0, a1, a2, a3, a4, a5, .int x, a7] dX12_comesTo_143 rfl,
  fun d L st h => fk_w_bipush dX12_comesTo_145 (by decide),
  fun d L x y st h => fk_r_icmp_ne dX12_comesTo_147 (by decide),
  fun d L st h => fk_w_iconst dX12_comesTo_150 (by decide),
  fun d L st h => fk_r_goto dX12_comesTo_151 (by decide),
  fun d L st h => fk_w_iconst dX12_comesTo_154 (by decide),
  fun d L x y st h => fk_r_icmp_ne dX12_comesTo_155 (by decide),
  fun d a0 a1 a2 a3 a5 a6 a7 x st h => fk_w_iload 4 [a0, a1, a2, a3, .int x, a5, a6, a7] dX12_comesTo_158 rfl,
  fun d a0 a1 a2 a3 a4 a5 a6 x st h => fk_w_iload 7 [a0, a1, a2, a3, a4, a5, a6, .int x] dX12_comesTo_160 rfl,
  fun d L x y st h => fk_r_iadd dX12_comesTo_162,
  fun d a0 a1 a2 a3 a4 a5 a6 a7 x st h => fk_w_istore 5 8 [] [a0, a1, a2, a3, a4, a5, a6, a7] [a0, a1, a2, a3, a4, .int x, a6, a7] dX12_comesTo_163 rfl rfl (by decide) rfl,
  fun d L st h => fk_r_goto dX12_comesTo_165 (by decide),
  fun d a0 a1 a2 a4 a5 a6 a7 x st h => fk_w_iloadn 3 [a0, a1, a2, .int x, a4, a5, a6, a7] dX12_comesTo_168 rfl,
  fun d L st h => fk_w_iconst dX12_comesTo_169 (by decide),
  fun d L x y st h => fk_r_isub dX12_comesTo_170,
  fun d a0 a1 a2 a3 a4 a5 a6 a7 x st h => fk_w_istoren 3 8 [] [a0, a1, a2, a3, a4, a5, a6, a7] [a0, a1, a2, .int x, a4, a5, a6, a7] dX12_comesTo_171 rfl rfl (by decide) rfl,
  fun d L st h => fk_r_goto dX12_comesTo_172 (by decide),
  fun d a0 a1 a2 a4 a5 a6 a7 x st h => fk_w_iloadn 3 [a0, a1, a2, .int x, a4, a5, a6, a7] dX12_comesTo_175 rfl,
  fun d L st h => fk_w_iconst dX12_comesTo_176 (by decide),
  fun d L x y st h => fk_r_isub dX12_comesTo_177,
  fun d a0 a1 a2 a3 a4 a5 a6 a7 x st h => fk_w_istoren 3 8 [] [a0, a1, a2, a3, a4, a5, a6, a7] [a0, a1, a2, .int x, a4, a5, a6, a7] dX12_comesTo_178 rfl rfl (by decide) rfl,
  fun d a0 a1 a2 a3 a4 a5 a7 x st h => fk_w_iload 6 [a0, a1, a2, a3, a4, a5, .int x, a7] dX12_comesTo_179 rfl,
  fun d L st h => fk_w_iconst dX12_comesTo_181 (by decide),
  fun d L x y st h => fk_r_icmp_eq dX12_comesTo_182 (by decide),
  fun d a0 a1 a2 a3 a4 a5 a7 x st h => fk_w_iload 6 [a0, a1, a2, a3, a4, a5, .int x, a7] dX12_comesTo_185 rfl,
  fun d L st h => fk_w_bipush dX12_comesTo_187 (by decide),
  fun d L x y st h => fk_r_icmp_ne dX12_comesTo_189 (by decide),
  fun d a1 a2 a3 a4 a5 a6 a7 x st h => fk_w_aloadn 0 [.ref x, a1, a2, a3, a4, a5, a6, a7] dX12_comesTo_192 rfl,
  fun d L st N y l => fk_g_getC rfl lf_12_72 (by decide) rfl dX12_comesTo_193 fk_at_246,
  fun d a0 a1 a2 a4 a5 a6 a7 x st h => fk_w_iloadn 3 [a0, a1, a2, .int x, a4, a5, a6, a7] dX12_comesTo_196 rfl,
  fun d L st N y l i hi => fk_g_iald fk_at_267 fk_ln_267 (by decide) dX12_comesTo_197 hi,
  fun d L x st h => fk_r_if_ne dX12_comesTo_198 (by decide),
  fun d L st h => fk_w_iconst dX12_comesTo_201 (by decide),
  fun d L x h => fk_r_ret dX12_comesTo_202 (Or.inl rfl),
  fun d a1 a2 a3 a4 a5 a6 a7 x st h => fk_w_aloadn 0 [.ref x, a1, a2, a3, a4, a5, a6, a7] dX12_comesTo_203 rfl,
  fun d L st N y l => fk_g_getC rfl lf_12_72 (by decide) rfl dX12_comesTo_204 fk_at_246,
  fun d a0 a1 a2 a4 a5 a6 a7 x st h => fk_w_iloadn 3 [a0, a1, a2, .int x, a4, a5, a6, a7] dX12_comesTo_207 rfl,
  fun d L st h => fk_w_iconst dX12_comesTo_208 (by decide),
  fun d L x y st h => fk_r_isub dX12_comesTo_209,
  fun d a0 a1 a2 a3 a4 a5 a7 x st h => fk_w_iload 6 [a0, a1, a2, a3, a4, a5, .int x, a7] dX12_comesTo_210 rfl,
  fun d a1 a2 a3 a4 a5 a6 a7 x st h => fk_w_aloadn 0 [.ref x, a1, a2, a3, a4, a5, a6, a7] dX12_comesTo_212 rfl,
  fun d L st N y l => fk_g_getC rfl lf_12_72 (by decide) rfl dX12_comesTo_213 fk_at_246,
  fun d a0 a1 a2 a4 a5 a6 a7 x st h => fk_w_iloadn 3 [a0, a1, a2, .int x, a4, a5, a6, a7] dX12_comesTo_216 rfl,
  fun d L st h => fk_w_iconst dX12_comesTo_217 (by decide),
  fun d L x y st h => fk_r_isub dX12_comesTo_218,
  fun d L st N y l i hi => fk_g_iald fk_at_267 fk_ln_267 (by decide) dX12_comesTo_219 hi,
  fun d a1 a2 a3 a4 a5 a6 a7 x st h => fk_w_aloadn 0 [.ref x, a1, a2, a3, a4, a5, a6, a7] dX12_comesTo_220 rfl,
  fun d L st N y l => fk_g_getC rfl lf_12_72 (by decide) rfl dX12_comesTo_221 fk_at_246,
  fun d a0 a1 a2 a4 a5 a6 a7 x st h => fk_w_iloadn 3 [a0, a1, a2, .int x, a4, a5, a6, a7] dX12_comesTo_224 rfl,
  fun d L st N y l i hi => fk_g_iald fk_at_267 fk_ln_267 (by decide) dX12_comesTo_225 hi,
  fun d L x0 x1 x2 w0 w1 h => fk_g_calls [.int x0, .int x1, .int x2] [w0, w1] rfl lm_12_250 dX12_comesTo_226 rfl ⟨rfl, by decide⟩ (by simp),
  fun d L st N y l i v hi => fk_g_iast fk_at_267 fk_ln_267 (by decide) dX12_comesTo_229 hi,
  fun d L st h => fk_r_goto dX12_comesTo_230 (by decide),
  fun d a1 a2 a3 a4 a5 a6 a7 x st h => fk_w_aloadn 0 [.ref x, a1, a2, a3, a4, a5, a6, a7] dX12_comesTo_233 rfl,
  fun d L st N y l => fk_g_getC rfl lf_12_72 (by decide) rfl dX12_comesTo_234 fk_at_246,
  fun d L st h => fk_w_iconst dX12_comesTo_237 (by decide),
  fun d L st N y l i hi => fk_g_iald fk_at_267 fk_ln_267 (by decide) dX12_comesTo_238 hi,
  fun d L x h => fk_r_ret dX12_comesTo_239 (Or.inl rfl)⟩
theorem hX12_comesTo_16 : ∀ (d : Nat) (a0 a1 a2 a3 a4 a6 a7 : Value) (x : Int32) (st : List Value) (h : fk_H), fk_ev d qX12_comesTo 16 [a0, a1, a2, a3, a4, .int x, a6, a7] st h = fk_ev d qX12_comesTo 18 [a0, a1, a2, a3, a4, .int x, a6, a7] (.int x :: st) h := fun d a0 a1 a2 a3 a4 a6 a7 x st h => fk_w_iload 5 [a0, a1, a2, a3, a4, .int x, a6, a7] dX12_comesTo_16 rfl
theorem dX12_byLaw_0 : decode cX12_byLaw 0 = .ok (.iconst 0, 1) := by decide +kernel
theorem dX12_byLaw_1 : decode cX12_byLaw 1 = .ok (.istore_n 3, 1) := by decide +kernel
theorem dX12_byLaw_2 : decode cX12_byLaw 2 = .ok (.iload_n 3, 1) := by decide +kernel
theorem dX12_byLaw_3 : decode cX12_byLaw 3 = .ok (.aload_n 0, 1) := by decide +kernel
theorem dX12_byLaw_4 : decode cX12_byLaw 4 = .ok (.getfield 247, 3) := by decide +kernel
theorem dX12_byLaw_7 : decode cX12_byLaw 7 = .ok (.if_icmp .ge 82, 3) := by decide +kernel
theorem dX12_byLaw_10 : decode cX12_byLaw 10 = .ok (.aload_n 0, 1) := by decide +kernel
theorem dX12_byLaw_11 : decode cX12_byLaw 11 = .ok (.getfield 60, 3) := by decide +kernel
theorem dX12_byLaw_14 : decode cX12_byLaw 14 = .ok (.iload_n 3, 1) := by decide +kernel
theorem dX12_byLaw_15 : decode cX12_byLaw 15 = .ok (.iaload, 1) := by decide +kernel
theorem dX12_byLaw_16 : decode cX12_byLaw 16 = .ok (.iload_n 1, 1) := by decide +kernel
theorem dX12_byLaw_17 : decode cX12_byLaw 17 = .ok (.if_icmp .ne 66, 3) := by decide +kernel
theorem dX12_byLaw_20 : decode cX12_byLaw 20 = .ok (.aload_n 0, 1) := by decide +kernel
theorem dX12_byLaw_21 : decode cX12_byLaw 21 = .ok (.aload_n 0, 1) := by decide +kernel
theorem dX12_byLaw_22 : decode cX12_byLaw 22 = .ok (.getfield 66, 3) := by decide +kernel
theorem dX12_byLaw_25 : decode cX12_byLaw 25 = .ok (.iload_n 3, 1) := by decide +kernel
theorem dX12_byLaw_26 : decode cX12_byLaw 26 = .ok (.iaload, 1) := by decide +kernel
theorem dX12_byLaw_27 : decode cX12_byLaw 27 = .ok (.aload_n 0, 1) := by decide +kernel
theorem dX12_byLaw_28 : decode cX12_byLaw 28 = .ok (.getfield 69, 3) := by decide +kernel
theorem dX12_byLaw_31 : decode cX12_byLaw 31 = .ok (.iload_n 3, 1) := by decide +kernel
theorem dX12_byLaw_32 : decode cX12_byLaw 32 = .ok (.iaload, 1) := by decide +kernel
theorem dX12_byLaw_33 : decode cX12_byLaw 33 = .ok (.invokevirtual 253, 3) := by decide +kernel
theorem dX12_byLaw_36 : decode cX12_byLaw 36 = .ok (.iconst 1, 1) := by decide +kernel
theorem dX12_byLaw_37 : decode cX12_byLaw 37 = .ok (.if_icmp .eq 6, 3) := by decide +kernel
theorem dX12_byLaw_40 : decode cX12_byLaw 40 = .ok (.goto 43, 3) := by decide +kernel
theorem dX12_byLaw_43 : decode cX12_byLaw 43 = .ok (.aload_n 0, 1) := by decide +kernel
theorem dX12_byLaw_44 : decode cX12_byLaw 44 = .ok (.aload_n 0, 1) := by decide +kernel
theorem dX12_byLaw_45 : decode cX12_byLaw 45 = .ok (.getfield 63, 3) := by decide +kernel
theorem dX12_byLaw_48 : decode cX12_byLaw 48 = .ok (.iload_n 3, 1) := by decide +kernel
theorem dX12_byLaw_49 : decode cX12_byLaw 49 = .ok (.iaload, 1) := by decide +kernel
theorem dX12_byLaw_50 : decode cX12_byLaw 50 = .ok (.aload_n 0, 1) := by decide +kernel
theorem dX12_byLaw_51 : decode cX12_byLaw 51 = .ok (.getfield 66, 3) := by decide +kernel
theorem dX12_byLaw_54 : decode cX12_byLaw 54 = .ok (.iload_n 3, 1) := by decide +kernel
theorem dX12_byLaw_55 : decode cX12_byLaw 55 = .ok (.iaload, 1) := by decide +kernel
theorem dX12_byLaw_56 : decode cX12_byLaw 56 = .ok (.invokevirtual 253, 3) := by decide +kernel
theorem dX12_byLaw_59 : decode cX12_byLaw 59 = .ok (.istore 4, 2) := by decide +kernel
theorem dX12_byLaw_61 : decode cX12_byLaw 61 = .ok (.iload 4, 2) := by decide +kernel
theorem dX12_byLaw_63 : decode cX12_byLaw 63 = .ok (.ifCond .ge 7, 3) := by decide +kernel
theorem dX12_byLaw_66 : decode cX12_byLaw 66 = .ok (.iconst 0, 1) := by decide +kernel
theorem dX12_byLaw_67 : decode cX12_byLaw 67 = .ok (.goto 15, 3) := by decide +kernel
theorem dX12_byLaw_70 : decode cX12_byLaw 70 = .ok (.iload 4, 2) := by decide +kernel
theorem dX12_byLaw_72 : decode cX12_byLaw 72 = .ok (.iload_n 2, 1) := by decide +kernel
theorem dX12_byLaw_73 : decode cX12_byLaw 73 = .ok (.if_icmp .le 7, 3) := by decide +kernel
theorem dX12_byLaw_76 : decode cX12_byLaw 76 = .ok (.iload_n 2, 1) := by decide +kernel
theorem dX12_byLaw_77 : decode cX12_byLaw 77 = .ok (.goto 5, 3) := by decide +kernel
theorem dX12_byLaw_80 : decode cX12_byLaw 80 = .ok (.iload 4, 2) := by decide +kernel
theorem dX12_byLaw_82 : decode cX12_byLaw 82 = .ok (.ireturn, 1) := by decide +kernel
theorem dX12_byLaw_83 : decode cX12_byLaw 83 = .ok (.iinc 3 1, 3) := by decide +kernel
theorem dX12_byLaw_86 : decode cX12_byLaw 86 = .ok (.goto (-84), 3) := by decide +kernel
theorem dX12_byLaw_89 : decode cX12_byLaw 89 = .ok (.iconst 0, 1) := by decide +kernel
theorem dX12_byLaw_90 : decode cX12_byLaw 90 = .ok (.ireturn, 1) := by decide +kernel
theorem rX12_byLaw : (∀ (d : Nat) (L st : List Value) (h : fk_H), fk_ev d qX12_byLaw 0 L st h = fk_ev d qX12_byLaw 1 L (.int (nI 0) :: st) h) ∧
  (∀ (d : Nat) (a0 a1 a2 a3 a4 : Value) (x : Int32) (st : List Value) (h : fk_H), fk_ev d qX12_byLaw 1 [a0, a1, a2, a3, a4] (.int x :: st) h = fk_ev d qX12_byLaw 2 [a0, a1, a2, .int x, a4] st h) ∧
  (∀ (d : Nat) (a1 a2 a3 a4 : Value) (x : Nat) (st : List Value) (h : fk_H), fk_ev d qX12_byLaw 3 [.ref x, a1, a2, a3, a4] st h = fk_ev d qX12_byLaw 4 [.ref x, a1, a2, a3, a4] (.ref x :: st) h) ∧
  (∀ (d : Nat) (L st : List Value) (N : Nat) (y : Nat → Nat → Int32) (l : Nat → Nat → Int64), fk_ev d qX12_byLaw 4 L (.ref 246 :: st) (fk_E N y l) = fk_ev d qX12_byLaw 7 L (.int (y 246 19) :: st) (fk_E N y l)) ∧
  (∀ (d : Nat) (L : List Value) (x y : Int32) (st : List Value) (h : fk_H), fk_ev d qX12_byLaw 7 L (.int y :: .int x :: st) h = if y ≤ x then fk_ev d qX12_byLaw 89 L st h else fk_ev d qX12_byLaw 10 L st h) ∧
  (∀ (d : Nat) (a1 a2 a3 a4 : Value) (x : Nat) (st : List Value) (h : fk_H), fk_ev d qX12_byLaw 10 [.ref x, a1, a2, a3, a4] st h = fk_ev d qX12_byLaw 11 [.ref x, a1, a2, a3, a4] (.ref x :: st) h) ∧
  (∀ (d : Nat) (L st : List Value) (N : Nat) (y : Nat → Nat → Int32) (l : Nat → Nat → Int64), fk_ev d qX12_byLaw 11 L (.ref 246 :: st) (fk_E N y l) = fk_ev d qX12_byLaw 14 L (.ref 263 :: st) (fk_E N y l)) ∧
  (∀ (d : Nat) (a0 a1 a2 a4 : Value) (x : Int32) (st : List Value) (h : fk_H), fk_ev d qX12_byLaw 14 [a0, a1, a2, .int x, a4] st h = fk_ev d qX12_byLaw 15 [a0, a1, a2, .int x, a4] (.int x :: st) h) ∧
  (∀ (d : Nat) (L st : List Value) (N : Nat) (y : Nat → Nat → Int32) (l : Nat → Nat → Int64) (i : Nat), i < 16 → fk_ev d qX12_byLaw 15 L (.int (nI i) :: .ref 263 :: st) (fk_E N y l) = fk_ev d qX12_byLaw 16 L (.int (y 263 i) :: st) (fk_E N y l)) ∧
  (∀ (d : Nat) (a0 a2 a3 a4 : Value) (x : Int32) (st : List Value) (h : fk_H), fk_ev d qX12_byLaw 16 [a0, .int x, a2, a3, a4] st h = fk_ev d qX12_byLaw 17 [a0, .int x, a2, a3, a4] (.int x :: st) h) ∧
  (∀ (d : Nat) (L : List Value) (x y : Int32) (st : List Value) (h : fk_H), fk_ev d qX12_byLaw 17 L (.int y :: .int x :: st) h = if ¬ x = y then fk_ev d qX12_byLaw 83 L st h else fk_ev d qX12_byLaw 20 L st h) ∧
  (∀ (d : Nat) (a1 a2 a3 a4 : Value) (x : Nat) (st : List Value) (h : fk_H), fk_ev d qX12_byLaw 20 [.ref x, a1, a2, a3, a4] st h = fk_ev d qX12_byLaw 21 [.ref x, a1, a2, a3, a4] (.ref x :: st) h) ∧
  (∀ (d : Nat) (a1 a2 a3 a4 : Value) (x : Nat) (st : List Value) (h : fk_H), fk_ev d qX12_byLaw 21 [.ref x, a1, a2, a3, a4] st h = fk_ev d qX12_byLaw 22 [.ref x, a1, a2, a3, a4] (.ref x :: st) h) ∧
  (∀ (d : Nat) (L st : List Value) (N : Nat) (y : Nat → Nat → Int32) (l : Nat → Nat → Int64), fk_ev d qX12_byLaw 22 L (.ref 246 :: st) (fk_E N y l) = fk_ev d qX12_byLaw 25 L (.ref 265 :: st) (fk_E N y l)) ∧
  (∀ (d : Nat) (a0 a1 a2 a4 : Value) (x : Int32) (st : List Value) (h : fk_H), fk_ev d qX12_byLaw 25 [a0, a1, a2, .int x, a4] st h = fk_ev d qX12_byLaw 26 [a0, a1, a2, .int x, a4] (.int x :: st) h) ∧
  (∀ (d : Nat) (L st : List Value) (N : Nat) (y : Nat → Nat → Int32) (l : Nat → Nat → Int64) (i : Nat), i < 16 → fk_ev d qX12_byLaw 26 L (.int (nI i) :: .ref 265 :: st) (fk_E N y l) = fk_ev d qX12_byLaw 27 L (.int (y 265 i) :: st) (fk_E N y l)) ∧
  (∀ (d : Nat) (a1 a2 a3 a4 : Value) (x : Nat) (st : List Value) (h : fk_H), fk_ev d qX12_byLaw 27 [.ref x, a1, a2, a3, a4] st h = fk_ev d qX12_byLaw 28 [.ref x, a1, a2, a3, a4] (.ref x :: st) h) ∧
  (∀ (d : Nat) (L st : List Value) (N : Nat) (y : Nat → Nat → Int32) (l : Nat → Nat → Int64), fk_ev d qX12_byLaw 28 L (.ref 246 :: st) (fk_E N y l) = fk_ev d qX12_byLaw 31 L (.ref 266 :: st) (fk_E N y l)) ∧
  (∀ (d : Nat) (a0 a1 a2 a4 : Value) (x : Int32) (st : List Value) (h : fk_H), fk_ev d qX12_byLaw 31 [a0, a1, a2, .int x, a4] st h = fk_ev d qX12_byLaw 32 [a0, a1, a2, .int x, a4] (.int x :: st) h) ∧
  (∀ (d : Nat) (L st : List Value) (N : Nat) (y : Nat → Nat → Int32) (l : Nat → Nat → Int64) (i : Nat), i < 16 → fk_ev d qX12_byLaw 32 L (.int (nI i) :: .ref 266 :: st) (fk_E N y l) = fk_ev d qX12_byLaw 33 L (.int (y 266 i) :: st) (fk_E N y l)) ∧
  (∀ (d : Nat) (L : List Value) (x0 : Int32) (x1 : Int32)  (N : Nat) (y : Nat → Nat → Int32) (l : Nat → Nat → Int64), fk_ev (d + 1) qX12_byLaw 33 L (.int x1 :: .int x0 :: .ref 246 :: []) (fk_E N y l) = (fk_ev d qX12_comesTo 0 [.ref 246, .int x0, .int x1, .null, .null, .null, .null, .null] [] (fk_E N y l)).bind fun o => fk_ev (d + 1) qX12_byLaw 36 L (o.1.toList ++ []) o.2) ∧
  (∀ (d : Nat) (L st : List Value) (h : fk_H), fk_ev d qX12_byLaw 36 L st h = fk_ev d qX12_byLaw 37 L (.int (nI 1) :: st) h) ∧
  (∀ (d : Nat) (L : List Value) (x y : Int32) (st : List Value) (h : fk_H), fk_ev d qX12_byLaw 37 L (.int y :: .int x :: st) h = if x = y then fk_ev d qX12_byLaw 43 L st h else fk_ev d qX12_byLaw 40 L st h) ∧
  (∀ (d : Nat) (L st : List Value) (h : fk_H), fk_ev d qX12_byLaw 40 L st h = fk_ev d qX12_byLaw 83 L st h) ∧
  (∀ (d : Nat) (a1 a2 a3 a4 : Value) (x : Nat) (st : List Value) (h : fk_H), fk_ev d qX12_byLaw 43 [.ref x, a1, a2, a3, a4] st h = fk_ev d qX12_byLaw 44 [.ref x, a1, a2, a3, a4] (.ref x :: st) h) ∧
  (∀ (d : Nat) (a1 a2 a3 a4 : Value) (x : Nat) (st : List Value) (h : fk_H), fk_ev d qX12_byLaw 44 [.ref x, a1, a2, a3, a4] st h = fk_ev d qX12_byLaw 45 [.ref x, a1, a2, a3, a4] (.ref x :: st) h) ∧
  (∀ (d : Nat) (L st : List Value) (N : Nat) (y : Nat → Nat → Int32) (l : Nat → Nat → Int64), fk_ev d qX12_byLaw 45 L (.ref 246 :: st) (fk_E N y l) = fk_ev d qX12_byLaw 48 L (.ref 264 :: st) (fk_E N y l)) ∧
  (∀ (d : Nat) (a0 a1 a2 a4 : Value) (x : Int32) (st : List Value) (h : fk_H), fk_ev d qX12_byLaw 48 [a0, a1, a2, .int x, a4] st h = fk_ev d qX12_byLaw 49 [a0, a1, a2, .int x, a4] (.int x :: st) h) ∧
  (∀ (d : Nat) (L st : List Value) (N : Nat) (y : Nat → Nat → Int32) (l : Nat → Nat → Int64) (i : Nat), i < 16 → fk_ev d qX12_byLaw 49 L (.int (nI i) :: .ref 264 :: st) (fk_E N y l) = fk_ev d qX12_byLaw 50 L (.int (y 264 i) :: st) (fk_E N y l)) ∧
  (∀ (d : Nat) (a1 a2 a3 a4 : Value) (x : Nat) (st : List Value) (h : fk_H), fk_ev d qX12_byLaw 50 [.ref x, a1, a2, a3, a4] st h = fk_ev d qX12_byLaw 51 [.ref x, a1, a2, a3, a4] (.ref x :: st) h) ∧
  (∀ (d : Nat) (L st : List Value) (N : Nat) (y : Nat → Nat → Int32) (l : Nat → Nat → Int64), fk_ev d qX12_byLaw 51 L (.ref 246 :: st) (fk_E N y l) = fk_ev d qX12_byLaw 54 L (.ref 265 :: st) (fk_E N y l)) ∧
  (∀ (d : Nat) (a0 a1 a2 a4 : Value) (x : Int32) (st : List Value) (h : fk_H), fk_ev d qX12_byLaw 54 [a0, a1, a2, .int x, a4] st h = fk_ev d qX12_byLaw 55 [a0, a1, a2, .int x, a4] (.int x :: st) h) ∧
  (∀ (d : Nat) (L st : List Value) (N : Nat) (y : Nat → Nat → Int32) (l : Nat → Nat → Int64) (i : Nat), i < 16 → fk_ev d qX12_byLaw 55 L (.int (nI i) :: .ref 265 :: st) (fk_E N y l) = fk_ev d qX12_byLaw 56 L (.int (y 265 i) :: st) (fk_E N y l)) ∧
  (∀ (d : Nat) (L : List Value) (x0 : Int32) (x1 : Int32)  (N : Nat) (y : Nat → Nat → Int32) (l : Nat → Nat → Int64), fk_ev (d + 1) qX12_byLaw 56 L (.int x1 :: .int x0 :: .ref 246 :: []) (fk_E N y l) = (fk_ev d qX12_comesTo 0 [.ref 246, .int x0, .int x1, .null, .null, .null, .null, .null] [] (fk_E N y l)).bind fun o => fk_ev (d + 1) qX12_byLaw 59 L (o.1.toList ++ []) o.2) ∧
  (∀ (d : Nat) (a0 a1 a2 a3 a4 : Value) (x : Int32) (st : List Value) (h : fk_H), fk_ev d qX12_byLaw 59 [a0, a1, a2, a3, a4] (.int x :: st) h = fk_ev d qX12_byLaw 61 [a0, a1, a2, a3, .int x] st h) ∧
  (∀ (d : Nat) (a0 a1 a2 a3 : Value) (x : Int32) (st : List Value) (h : fk_H), fk_ev d qX12_byLaw 61 [a0, a1, a2, a3, .int x] st h = fk_ev d qX12_byLaw 63 [a0, a1, a2, a3, .int x] (.int x :: st) h) ∧
  (∀ (d : Nat) (L : List Value) (x : Int32) (st : List Value) (h : fk_H), fk_ev d qX12_byLaw 63 L (.int x :: st) h = if nI 0 ≤ x then fk_ev d qX12_byLaw 70 L st h else fk_ev d qX12_byLaw 66 L st h) ∧
  (∀ (d : Nat) (L st : List Value) (h : fk_H), fk_ev d qX12_byLaw 66 L st h = fk_ev d qX12_byLaw 67 L (.int (nI 0) :: st) h) ∧
  (∀ (d : Nat) (L st : List Value) (h : fk_H), fk_ev d qX12_byLaw 67 L st h = fk_ev d qX12_byLaw 82 L st h) ∧
  (∀ (d : Nat) (a0 a1 a2 a3 : Value) (x : Int32) (st : List Value) (h : fk_H), fk_ev d qX12_byLaw 70 [a0, a1, a2, a3, .int x] st h = fk_ev d qX12_byLaw 72 [a0, a1, a2, a3, .int x] (.int x :: st) h) ∧
  (∀ (d : Nat) (a0 a1 a3 a4 : Value) (x : Int32) (st : List Value) (h : fk_H), fk_ev d qX12_byLaw 72 [a0, a1, .int x, a3, a4] st h = fk_ev d qX12_byLaw 73 [a0, a1, .int x, a3, a4] (.int x :: st) h) ∧
  (∀ (d : Nat) (L : List Value) (x y : Int32) (st : List Value) (h : fk_H), fk_ev d qX12_byLaw 73 L (.int y :: .int x :: st) h = if x ≤ y then fk_ev d qX12_byLaw 80 L st h else fk_ev d qX12_byLaw 76 L st h) ∧
  (∀ (d : Nat) (a0 a1 a3 a4 : Value) (x : Int32) (st : List Value) (h : fk_H), fk_ev d qX12_byLaw 76 [a0, a1, .int x, a3, a4] st h = fk_ev d qX12_byLaw 77 [a0, a1, .int x, a3, a4] (.int x :: st) h) ∧
  (∀ (d : Nat) (L st : List Value) (h : fk_H), fk_ev d qX12_byLaw 77 L st h = fk_ev d qX12_byLaw 82 L st h) ∧
  (∀ (d : Nat) (a0 a1 a2 a3 : Value) (x : Int32) (st : List Value) (h : fk_H), fk_ev d qX12_byLaw 80 [a0, a1, a2, a3, .int x] st h = fk_ev d qX12_byLaw 82 [a0, a1, a2, a3, .int x] (.int x :: st) h) ∧
  (∀ (d : Nat) (L : List Value) (x : Int32) (h : fk_H), fk_ev d qX12_byLaw 82 L [.int x] h = some (some (.int x), h)) ∧
  (∀ (d : Nat) (a0 a1 a2 a4 : Value) (x : Int32) (st : List Value) (h : fk_H), fk_ev d qX12_byLaw 83 [a0, a1, a2, .int x, a4] st h = fk_ev d qX12_byLaw 86 [a0, a1, a2, .int (x + nI 1), a4] st h) ∧
  (∀ (d : Nat) (L st : List Value) (h : fk_H), fk_ev d qX12_byLaw 86 L st h = fk_ev d qX12_byLaw 2 L st h) ∧
  (∀ (d : Nat) (L st : List Value) (h : fk_H), fk_ev d qX12_byLaw 89 L st h = fk_ev d qX12_byLaw 90 L (.int (nI 0) :: st) h) ∧
  (∀ (d : Nat) (L : List Value) (x : Int32) (h : fk_H), fk_ev d qX12_byLaw 90 L [.int x] h = some (some (.int x), h)) := ⟨fun d L st h => fk_w_iconst dX12_byLaw_0 (by decide),
  fun d a0 a1 a2 a3 a4 x st h => fk_w_istoren 3 5 [] [a0, a1, a2, a3, a4] [a0, a1, a2, .int x, a4] dX12_byLaw_1 rfl rfl (by decide) rfl,
  fun d a1 a2 a3 a4 x st h => fk_w_aloadn 0 [.ref x, a1, a2, a3, a4] dX12_byLaw_3 rfl,
  fun d L st N y l => fk_g_getI rfl lf_12_247 (by decide) dX12_byLaw_4 fk_at_246,
  fun d L x y st h => fk_r_icmp_ge dX12_byLaw_7 (by decide),
  fun d a1 a2 a3 a4 x st h => fk_w_aloadn 0 [.ref x, a1, a2, a3, a4] dX12_byLaw_10 rfl,
  fun d L st N y l => fk_g_getC rfl lf_12_60 (by decide) rfl dX12_byLaw_11 fk_at_246,
  fun d a0 a1 a2 a4 x st h => fk_w_iloadn 3 [a0, a1, a2, .int x, a4] dX12_byLaw_14 rfl,
  fun d L st N y l i hi => fk_g_iald fk_at_263 fk_ln_263 (by decide) dX12_byLaw_15 hi,
  fun d a0 a2 a3 a4 x st h => fk_w_iloadn 1 [a0, .int x, a2, a3, a4] dX12_byLaw_16 rfl,
  fun d L x y st h => fk_r_icmp_ne dX12_byLaw_17 (by decide),
  fun d a1 a2 a3 a4 x st h => fk_w_aloadn 0 [.ref x, a1, a2, a3, a4] dX12_byLaw_20 rfl,
  fun d a1 a2 a3 a4 x st h => fk_w_aloadn 0 [.ref x, a1, a2, a3, a4] dX12_byLaw_21 rfl,
  fun d L st N y l => fk_g_getC rfl lf_12_66 (by decide) rfl dX12_byLaw_22 fk_at_246,
  fun d a0 a1 a2 a4 x st h => fk_w_iloadn 3 [a0, a1, a2, .int x, a4] dX12_byLaw_25 rfl,
  fun d L st N y l i hi => fk_g_iald fk_at_265 fk_ln_265 (by decide) dX12_byLaw_26 hi,
  fun d a1 a2 a3 a4 x st h => fk_w_aloadn 0 [.ref x, a1, a2, a3, a4] dX12_byLaw_27 rfl,
  fun d L st N y l => fk_g_getC rfl lf_12_69 (by decide) rfl dX12_byLaw_28 fk_at_246,
  fun d a0 a1 a2 a4 x st h => fk_w_iloadn 3 [a0, a1, a2, .int x, a4] dX12_byLaw_31 rfl,
  fun d L st N y l i hi => fk_g_iald fk_at_266 fk_ln_266 (by decide) dX12_byLaw_32 hi,
  fun d L x0 x1 N y l  => fk_g_call [.int x0, .int x1] [] rfl lm_12_253 dX12_byLaw_33 rfl ⟨rfl, by decide⟩ (by simp) fk_at_246,
  fun d L st h => fk_w_iconst dX12_byLaw_36 (by decide),
  fun d L x y st h => fk_r_icmp_eq dX12_byLaw_37 (by decide),
  fun d L st h => fk_r_goto dX12_byLaw_40 (by decide),
  fun d a1 a2 a3 a4 x st h => fk_w_aloadn 0 [.ref x, a1, a2, a3, a4] dX12_byLaw_43 rfl,
  fun d a1 a2 a3 a4 x st h => fk_w_aloadn 0 [.ref x, a1, a2, a3, a4] dX12_byLaw_44 rfl,
  fun d L st N y l => fk_g_getC rfl lf_12_63 (by decide) rfl dX12_byLaw_45 fk_at_246,
  fun d a0 a1 a2 a4 x st h => fk_w_iloadn 3 [a0, a1, a2, .int x, a4] dX12_byLaw_48 rfl,
  fun d L st N y l i hi => fk_g_iald fk_at_264 fk_ln_264 (by decide) dX12_byLaw_49 hi,
  fun d a1 a2 a3 a4 x st h => fk_w_aloadn 0 [.ref x, a1, a2, a3, a4] dX12_byLaw_50 rfl,
  fun d L st N y l => fk_g_getC rfl lf_12_66 (by decide) rfl dX12_byLaw_51 fk_at_246,
  fun d a0 a1 a2 a4 x st h => fk_w_iloadn 3 [a0, a1, a2, .int x, a4] dX12_byLaw_54 rfl,
  fun d L st N y l i hi => fk_g_iald fk_at_265 fk_ln_265 (by decide) dX12_byLaw_55 hi,
  fun d L x0 x1 N y l  => fk_g_call [.int x0, .int x1] [] rfl lm_12_253 dX12_byLaw_56 rfl ⟨rfl, by decide⟩ (by simp) fk_at_246,
  fun d a0 a1 a2 a3 a4 x st h => fk_w_istore 4 5 [] [a0, a1, a2, a3, a4] [a0, a1, a2, a3, .int x] dX12_byLaw_59 rfl rfl (by decide) rfl,
  fun d a0 a1 a2 a3 x st h => fk_w_iload 4 [a0, a1, a2, a3, .int x] dX12_byLaw_61 rfl,
  fun d L x st h => fk_r_if_ge dX12_byLaw_63 (by decide),
  fun d L st h => fk_w_iconst dX12_byLaw_66 (by decide),
  fun d L st h => fk_r_goto dX12_byLaw_67 (by decide),
  fun d a0 a1 a2 a3 x st h => fk_w_iload 4 [a0, a1, a2, a3, .int x] dX12_byLaw_70 rfl,
  fun d a0 a1 a3 a4 x st h => fk_w_iloadn 2 [a0, a1, .int x, a3, a4] dX12_byLaw_72 rfl,
  fun d L x y st h => fk_r_icmp_le dX12_byLaw_73 (by decide),
  fun d a0 a1 a3 a4 x st h => fk_w_iloadn 2 [a0, a1, .int x, a3, a4] dX12_byLaw_76 rfl,
  fun d L st h => fk_r_goto dX12_byLaw_77 (by decide),
  fun d a0 a1 a2 a3 x st h => fk_w_iload 4 [a0, a1, a2, a3, .int x] dX12_byLaw_80 rfl,
  fun d L x h => fk_r_ret dX12_byLaw_82 (Or.inl rfl),
  fun d a0 a1 a2 a4 x st h => fk_w_iinc 3 5 (1) [] [a0, a1, a2, .int x, a4] [a0, a1, a2, .int (x + nI 1), a4] dX12_byLaw_83 rfl rfl rfl (by decide) rfl,
  fun d L st h => fk_r_goto dX12_byLaw_86 (by decide),
  fun d L st h => fk_w_iconst dX12_byLaw_89 (by decide),
  fun d L x h => fk_r_ret dX12_byLaw_90 (Or.inl rfl)⟩
theorem hX12_byLaw_2 : ∀ (d : Nat) (a0 a1 a2 a4 : Value) (x : Int32) (st : List Value) (h : fk_H), fk_ev d qX12_byLaw 2 [a0, a1, a2, .int x, a4] st h = fk_ev d qX12_byLaw 3 [a0, a1, a2, .int x, a4] (.int x :: st) h := fun d a0 a1 a2 a4 x st h => fk_w_iloadn 3 [a0, a1, a2, .int x, a4] dX12_byLaw_2 rfl
theorem dX12_isElder_0 : decode cX12_isElder 0 = .ok (.iconst 0, 1) := by decide +kernel
theorem dX12_isElder_1 : decode cX12_isElder 1 = .ok (.istore_n 1, 1) := by decide +kernel
theorem dX12_isElder_2 : decode cX12_isElder 2 = .ok (.iload_n 1, 1) := by decide +kernel
theorem dX12_isElder_3 : decode cX12_isElder 3 = .ok (.aload_n 0, 1) := by decide +kernel
theorem dX12_isElder_4 : decode cX12_isElder 4 = .ok (.getfield 247, 3) := by decide +kernel
theorem dX12_isElder_7 : decode cX12_isElder 7 = .ok (.if_icmp .ge 42, 3) := by decide +kernel
theorem dX12_isElder_10 : decode cX12_isElder 10 = .ok (.aload_n 0, 1) := by decide +kernel
theorem dX12_isElder_11 : decode cX12_isElder 11 = .ok (.getfield 60, 3) := by decide +kernel
theorem dX12_isElder_14 : decode cX12_isElder 14 = .ok (.iload_n 1, 1) := by decide +kernel
theorem dX12_isElder_15 : decode cX12_isElder 15 = .ok (.iaload, 1) := by decide +kernel
theorem dX12_isElder_16 : decode cX12_isElder 16 = .ok (.bipush 101, 2) := by decide +kernel
theorem dX12_isElder_18 : decode cX12_isElder 18 = .ok (.if_icmp .ne 25, 3) := by decide +kernel
theorem dX12_isElder_21 : decode cX12_isElder 21 = .ok (.aload_n 0, 1) := by decide +kernel
theorem dX12_isElder_22 : decode cX12_isElder 22 = .ok (.aload_n 0, 1) := by decide +kernel
theorem dX12_isElder_23 : decode cX12_isElder 23 = .ok (.getfield 66, 3) := by decide +kernel
theorem dX12_isElder_26 : decode cX12_isElder 26 = .ok (.iload_n 1, 1) := by decide +kernel
theorem dX12_isElder_27 : decode cX12_isElder 27 = .ok (.iaload, 1) := by decide +kernel
theorem dX12_isElder_28 : decode cX12_isElder 28 = .ok (.aload_n 0, 1) := by decide +kernel
theorem dX12_isElder_29 : decode cX12_isElder 29 = .ok (.getfield 69, 3) := by decide +kernel
theorem dX12_isElder_32 : decode cX12_isElder 32 = .ok (.iload_n 1, 1) := by decide +kernel
theorem dX12_isElder_33 : decode cX12_isElder 33 = .ok (.iaload, 1) := by decide +kernel
theorem dX12_isElder_34 : decode cX12_isElder 34 = .ok (.invokevirtual 253, 3) := by decide +kernel
theorem dX12_isElder_37 : decode cX12_isElder 37 = .ok (.iconst 1, 1) := by decide +kernel
theorem dX12_isElder_38 : decode cX12_isElder 38 = .ok (.if_icmp .ne 5, 3) := by decide +kernel
theorem dX12_isElder_41 : decode cX12_isElder 41 = .ok (.iconst 1, 1) := by decide +kernel
theorem dX12_isElder_42 : decode cX12_isElder 42 = .ok (.ireturn, 1) := by decide +kernel
theorem dX12_isElder_43 : decode cX12_isElder 43 = .ok (.iinc 1 1, 3) := by decide +kernel
theorem dX12_isElder_46 : decode cX12_isElder 46 = .ok (.goto (-44), 3) := by decide +kernel
theorem dX12_isElder_49 : decode cX12_isElder 49 = .ok (.iconst 0, 1) := by decide +kernel
theorem dX12_isElder_50 : decode cX12_isElder 50 = .ok (.ireturn, 1) := by decide +kernel
theorem rX12_isElder : (∀ (d : Nat) (L st : List Value) (h : fk_H), fk_ev d qX12_isElder 0 L st h = fk_ev d qX12_isElder 1 L (.int (nI 0) :: st) h) ∧
  (∀ (d : Nat) (a0 a1 : Value) (x : Int32) (st : List Value) (h : fk_H), fk_ev d qX12_isElder 1 [a0, a1] (.int x :: st) h = fk_ev d qX12_isElder 2 [a0, .int x] st h) ∧
  (∀ (d : Nat) (a1 : Value) (x : Nat) (st : List Value) (h : fk_H), fk_ev d qX12_isElder 3 [.ref x, a1] st h = fk_ev d qX12_isElder 4 [.ref x, a1] (.ref x :: st) h) ∧
  (∀ (d : Nat) (L st : List Value) (N : Nat) (y : Nat → Nat → Int32) (l : Nat → Nat → Int64), fk_ev d qX12_isElder 4 L (.ref 246 :: st) (fk_E N y l) = fk_ev d qX12_isElder 7 L (.int (y 246 19) :: st) (fk_E N y l)) ∧
  (∀ (d : Nat) (L : List Value) (x y : Int32) (st : List Value) (h : fk_H), fk_ev d qX12_isElder 7 L (.int y :: .int x :: st) h = if y ≤ x then fk_ev d qX12_isElder 49 L st h else fk_ev d qX12_isElder 10 L st h) ∧
  (∀ (d : Nat) (a1 : Value) (x : Nat) (st : List Value) (h : fk_H), fk_ev d qX12_isElder 10 [.ref x, a1] st h = fk_ev d qX12_isElder 11 [.ref x, a1] (.ref x :: st) h) ∧
  (∀ (d : Nat) (L st : List Value) (N : Nat) (y : Nat → Nat → Int32) (l : Nat → Nat → Int64), fk_ev d qX12_isElder 11 L (.ref 246 :: st) (fk_E N y l) = fk_ev d qX12_isElder 14 L (.ref 263 :: st) (fk_E N y l)) ∧
  (∀ (d : Nat) (a0 : Value) (x : Int32) (st : List Value) (h : fk_H), fk_ev d qX12_isElder 14 [a0, .int x] st h = fk_ev d qX12_isElder 15 [a0, .int x] (.int x :: st) h) ∧
  (∀ (d : Nat) (L st : List Value) (N : Nat) (y : Nat → Nat → Int32) (l : Nat → Nat → Int64) (i : Nat), i < 16 → fk_ev d qX12_isElder 15 L (.int (nI i) :: .ref 263 :: st) (fk_E N y l) = fk_ev d qX12_isElder 16 L (.int (y 263 i) :: st) (fk_E N y l)) ∧
  (∀ (d : Nat) (L st : List Value) (h : fk_H), fk_ev d qX12_isElder 16 L st h = fk_ev d qX12_isElder 18 L (.int (nI 101) :: st) h) ∧
  (∀ (d : Nat) (L : List Value) (x y : Int32) (st : List Value) (h : fk_H), fk_ev d qX12_isElder 18 L (.int y :: .int x :: st) h = if ¬ x = y then fk_ev d qX12_isElder 43 L st h else fk_ev d qX12_isElder 21 L st h) ∧
  (∀ (d : Nat) (a1 : Value) (x : Nat) (st : List Value) (h : fk_H), fk_ev d qX12_isElder 21 [.ref x, a1] st h = fk_ev d qX12_isElder 22 [.ref x, a1] (.ref x :: st) h) ∧
  (∀ (d : Nat) (a1 : Value) (x : Nat) (st : List Value) (h : fk_H), fk_ev d qX12_isElder 22 [.ref x, a1] st h = fk_ev d qX12_isElder 23 [.ref x, a1] (.ref x :: st) h) ∧
  (∀ (d : Nat) (L st : List Value) (N : Nat) (y : Nat → Nat → Int32) (l : Nat → Nat → Int64), fk_ev d qX12_isElder 23 L (.ref 246 :: st) (fk_E N y l) = fk_ev d qX12_isElder 26 L (.ref 265 :: st) (fk_E N y l)) ∧
  (∀ (d : Nat) (a0 : Value) (x : Int32) (st : List Value) (h : fk_H), fk_ev d qX12_isElder 26 [a0, .int x] st h = fk_ev d qX12_isElder 27 [a0, .int x] (.int x :: st) h) ∧
  (∀ (d : Nat) (L st : List Value) (N : Nat) (y : Nat → Nat → Int32) (l : Nat → Nat → Int64) (i : Nat), i < 16 → fk_ev d qX12_isElder 27 L (.int (nI i) :: .ref 265 :: st) (fk_E N y l) = fk_ev d qX12_isElder 28 L (.int (y 265 i) :: st) (fk_E N y l)) ∧
  (∀ (d : Nat) (a1 : Value) (x : Nat) (st : List Value) (h : fk_H), fk_ev d qX12_isElder 28 [.ref x, a1] st h = fk_ev d qX12_isElder 29 [.ref x, a1] (.ref x :: st) h) ∧
  (∀ (d : Nat) (L st : List Value) (N : Nat) (y : Nat → Nat → Int32) (l : Nat → Nat → Int64), fk_ev d qX12_isElder 29 L (.ref 246 :: st) (fk_E N y l) = fk_ev d qX12_isElder 32 L (.ref 266 :: st) (fk_E N y l)) ∧
  (∀ (d : Nat) (a0 : Value) (x : Int32) (st : List Value) (h : fk_H), fk_ev d qX12_isElder 32 [a0, .int x] st h = fk_ev d qX12_isElder 33 [a0, .int x] (.int x :: st) h) ∧
  (∀ (d : Nat) (L st : List Value) (N : Nat) (y : Nat → Nat → Int32) (l : Nat → Nat → Int64) (i : Nat), i < 16 → fk_ev d qX12_isElder 33 L (.int (nI i) :: .ref 266 :: st) (fk_E N y l) = fk_ev d qX12_isElder 34 L (.int (y 266 i) :: st) (fk_E N y l)) ∧
  (∀ (d : Nat) (L : List Value) (x0 : Int32) (x1 : Int32)  (N : Nat) (y : Nat → Nat → Int32) (l : Nat → Nat → Int64), fk_ev (d + 1) qX12_isElder 34 L (.int x1 :: .int x0 :: .ref 246 :: []) (fk_E N y l) = (fk_ev d qX12_comesTo 0 [.ref 246, .int x0, .int x1, .null, .null, .null, .null, .null] [] (fk_E N y l)).bind fun o => fk_ev (d + 1) qX12_isElder 37 L (o.1.toList ++ []) o.2) ∧
  (∀ (d : Nat) (L st : List Value) (h : fk_H), fk_ev d qX12_isElder 37 L st h = fk_ev d qX12_isElder 38 L (.int (nI 1) :: st) h) ∧
  (∀ (d : Nat) (L : List Value) (x y : Int32) (st : List Value) (h : fk_H), fk_ev d qX12_isElder 38 L (.int y :: .int x :: st) h = if ¬ x = y then fk_ev d qX12_isElder 43 L st h else fk_ev d qX12_isElder 41 L st h) ∧
  (∀ (d : Nat) (L st : List Value) (h : fk_H), fk_ev d qX12_isElder 41 L st h = fk_ev d qX12_isElder 42 L (.int (nI 1) :: st) h) ∧
  (∀ (d : Nat) (L : List Value) (h : fk_H), fk_ev d qX12_isElder 42 L [.int (nI 0)] h = some (some (.int (nI 0)), h)) ∧
  (∀ (d : Nat) (L : List Value) (h : fk_H), fk_ev d qX12_isElder 42 L [.int (nI 1)] h = some (some (.int (nI 1)), h)) ∧
  (∀ (d : Nat) (L : List Value) (p : Prop) [Decidable p] (h : fk_H), fk_ev d qX12_isElder 42 L [.int (fk_b p)] h = some (some (.int (fk_b p)), h)) ∧
  (∀ (d : Nat) (L : List Value) (x : Int32) (h : fk_H), (x = nI 0 ∨ x = nI 1) → fk_ev d qX12_isElder 42 L [.int x] h = some (some (.int x), h)) ∧
  (∀ (d : Nat) (a0 : Value) (x : Int32) (st : List Value) (h : fk_H), fk_ev d qX12_isElder 43 [a0, .int x] st h = fk_ev d qX12_isElder 46 [a0, .int (x + nI 1)] st h) ∧
  (∀ (d : Nat) (L st : List Value) (h : fk_H), fk_ev d qX12_isElder 46 L st h = fk_ev d qX12_isElder 2 L st h) ∧
  (∀ (d : Nat) (L st : List Value) (h : fk_H), fk_ev d qX12_isElder 49 L st h = fk_ev d qX12_isElder 50 L (.int (nI 0) :: st) h) ∧
  (∀ (d : Nat) (L : List Value) (h : fk_H), fk_ev d qX12_isElder 50 L [.int (nI 0)] h = some (some (.int (nI 0)), h)) ∧
  (∀ (d : Nat) (L : List Value) (h : fk_H), fk_ev d qX12_isElder 50 L [.int (nI 1)] h = some (some (.int (nI 1)), h)) ∧
  (∀ (d : Nat) (L : List Value) (p : Prop) [Decidable p] (h : fk_H), fk_ev d qX12_isElder 50 L [.int (fk_b p)] h = some (some (.int (fk_b p)), h)) ∧
  (∀ (d : Nat) (L : List Value) (x : Int32) (h : fk_H), (x = nI 0 ∨ x = nI 1) → fk_ev d qX12_isElder 50 L [.int x] h = some (some (.int x), h)) := ⟨fun d L st h => fk_w_iconst dX12_isElder_0 (by decide),
  fun d a0 a1 x st h => fk_w_istoren 1 2 [] [a0, a1] [a0, .int x] dX12_isElder_1 rfl rfl (by decide) rfl,
  fun d a1 x st h => fk_w_aloadn 0 [.ref x, a1] dX12_isElder_3 rfl,
  fun d L st N y l => fk_g_getI rfl lf_12_247 (by decide) dX12_isElder_4 fk_at_246,
  fun d L x y st h => fk_r_icmp_ge dX12_isElder_7 (by decide),
  fun d a1 x st h => fk_w_aloadn 0 [.ref x, a1] dX12_isElder_10 rfl,
  fun d L st N y l => fk_g_getC rfl lf_12_60 (by decide) rfl dX12_isElder_11 fk_at_246,
  fun d a0 x st h => fk_w_iloadn 1 [a0, .int x] dX12_isElder_14 rfl,
  fun d L st N y l i hi => fk_g_iald fk_at_263 fk_ln_263 (by decide) dX12_isElder_15 hi,
  fun d L st h => fk_w_bipush dX12_isElder_16 (by decide),
  fun d L x y st h => fk_r_icmp_ne dX12_isElder_18 (by decide),
  fun d a1 x st h => fk_w_aloadn 0 [.ref x, a1] dX12_isElder_21 rfl,
  fun d a1 x st h => fk_w_aloadn 0 [.ref x, a1] dX12_isElder_22 rfl,
  fun d L st N y l => fk_g_getC rfl lf_12_66 (by decide) rfl dX12_isElder_23 fk_at_246,
  fun d a0 x st h => fk_w_iloadn 1 [a0, .int x] dX12_isElder_26 rfl,
  fun d L st N y l i hi => fk_g_iald fk_at_265 fk_ln_265 (by decide) dX12_isElder_27 hi,
  fun d a1 x st h => fk_w_aloadn 0 [.ref x, a1] dX12_isElder_28 rfl,
  fun d L st N y l => fk_g_getC rfl lf_12_69 (by decide) rfl dX12_isElder_29 fk_at_246,
  fun d a0 x st h => fk_w_iloadn 1 [a0, .int x] dX12_isElder_32 rfl,
  fun d L st N y l i hi => fk_g_iald fk_at_266 fk_ln_266 (by decide) dX12_isElder_33 hi,
  fun d L x0 x1 N y l  => fk_g_call [.int x0, .int x1] [] rfl lm_12_253 dX12_isElder_34 rfl ⟨rfl, by decide⟩ (by simp) fk_at_246,
  fun d L st h => fk_w_iconst dX12_isElder_37 (by decide),
  fun d L x y st h => fk_r_icmp_ne dX12_isElder_38 (by decide),
  fun d L st h => fk_w_iconst dX12_isElder_41 (by decide),
  fun d L h => fk_r_ret dX12_isElder_42 (Or.inr (Or.inl ⟨rfl, by decide⟩)),
  fun d L h => fk_r_ret dX12_isElder_42 (Or.inr (Or.inl ⟨rfl, by decide⟩)),
  fun d L p _ h => fk_r_ret dX12_isElder_42 (Or.inr (Or.inl ⟨rfl, fk_b_01⟩)),
  fun d L x h hx => fk_r_ret dX12_isElder_42 (Or.inr (Or.inl ⟨rfl, hx⟩)),
  fun d a0 x st h => fk_w_iinc 1 2 (1) [] [a0, .int x] [a0, .int (x + nI 1)] dX12_isElder_43 rfl rfl rfl (by decide) rfl,
  fun d L st h => fk_r_goto dX12_isElder_46 (by decide),
  fun d L st h => fk_w_iconst dX12_isElder_49 (by decide),
  fun d L h => fk_r_ret dX12_isElder_50 (Or.inr (Or.inl ⟨rfl, by decide⟩)),
  fun d L h => fk_r_ret dX12_isElder_50 (Or.inr (Or.inl ⟨rfl, by decide⟩)),
  fun d L p _ h => fk_r_ret dX12_isElder_50 (Or.inr (Or.inl ⟨rfl, fk_b_01⟩)),
  fun d L x h hx => fk_r_ret dX12_isElder_50 (Or.inr (Or.inl ⟨rfl, hx⟩))⟩
theorem hX12_isElder_2 : ∀ (d : Nat) (a0 : Value) (x : Int32) (st : List Value) (h : fk_H), fk_ev d qX12_isElder 2 [a0, .int x] st h = fk_ev d qX12_isElder 3 [a0, .int x] (.int x :: st) h := fun d a0 x st h => fk_w_iloadn 1 [a0, .int x] dX12_isElder_2 rfl
theorem dX12_feels_0 : decode cX12_feels 0 = .ok (.iconst 0, 1) := by decide +kernel
theorem dX12_feels_1 : decode cX12_feels 1 = .ok (.istore_n 2, 1) := by decide +kernel
theorem dX12_feels_2 : decode cX12_feels 2 = .ok (.iload_n 2, 1) := by decide +kernel
theorem dX12_feels_3 : decode cX12_feels 3 = .ok (.bipush 14, 2) := by decide +kernel
theorem dX12_feels_5 : decode cX12_feels 5 = .ok (.if_icmp .ge 16, 3) := by decide +kernel
theorem dX12_feels_8 : decode cX12_feels 8 = .ok (.aload_n 0, 1) := by decide +kernel
theorem dX12_feels_9 : decode cX12_feels 9 = .ok (.getfield 75, 3) := by decide +kernel
theorem dX12_feels_12 : decode cX12_feels 12 = .ok (.iload_n 2, 1) := by decide +kernel
theorem dX12_feels_13 : decode cX12_feels 13 = .ok (.iconst 0, 1) := by decide +kernel
theorem dX12_feels_14 : decode cX12_feels 14 = .ok (.iastore, 1) := by decide +kernel
theorem dX12_feels_15 : decode cX12_feels 15 = .ok (.iinc 2 1, 3) := by decide +kernel
theorem dX12_feels_18 : decode cX12_feels 18 = .ok (.goto (-16), 3) := by decide +kernel
theorem dX12_feels_21 : decode cX12_feels 21 = .ok (.aload_n 0, 1) := by decide +kernel
theorem dX12_feels_22 : decode cX12_feels 22 = .ok (.getfield 75, 3) := by decide +kernel
theorem dX12_feels_25 : decode cX12_feels 25 = .ok (.iconst 0, 1) := by decide +kernel
theorem dX12_feels_26 : decode cX12_feels 26 = .ok (.aload_n 0, 1) := by decide +kernel
theorem dX12_feels_27 : decode cX12_feels 27 = .ok (.getfield 7, 3) := by decide +kernel
theorem dX12_feels_30 : decode cX12_feels 30 = .ok (.sipush 832, 3) := by decide +kernel
theorem dX12_feels_33 : decode cX12_feels 33 = .ok (.iaload, 1) := by decide +kernel
theorem dX12_feels_34 : decode cX12_feels 34 = .ok (.iastore, 1) := by decide +kernel
theorem dX12_feels_35 : decode cX12_feels 35 = .ok (.aload_n 0, 1) := by decide +kernel
theorem dX12_feels_36 : decode cX12_feels 36 = .ok (.getfield 75, 3) := by decide +kernel
theorem dX12_feels_39 : decode cX12_feels 39 = .ok (.iconst 1, 1) := by decide +kernel
theorem dX12_feels_40 : decode cX12_feels 40 = .ok (.aload_n 0, 1) := by decide +kernel
theorem dX12_feels_41 : decode cX12_feels 41 = .ok (.getfield 7, 3) := by decide +kernel
theorem dX12_feels_44 : decode cX12_feels 44 = .ok (.iconst 0, 1) := by decide +kernel
theorem dX12_feels_45 : decode cX12_feels 45 = .ok (.iload_n 1, 1) := by decide +kernel
theorem dX12_feels_46 : decode cX12_feels 46 = .ok (.iadd, 1) := by decide +kernel
theorem dX12_feels_47 : decode cX12_feels 47 = .ok (.iaload, 1) := by decide +kernel
theorem dX12_feels_48 : decode cX12_feels 48 = .ok (.iastore, 1) := by decide +kernel
theorem dX12_feels_49 : decode cX12_feels 49 = .ok (.aload_n 0, 1) := by decide +kernel
theorem dX12_feels_50 : decode cX12_feels 50 = .ok (.getfield 75, 3) := by decide +kernel
theorem dX12_feels_53 : decode cX12_feels 53 = .ok (.iconst 2, 1) := by decide +kernel
theorem dX12_feels_54 : decode cX12_feels 54 = .ok (.iload_n 1, 1) := by decide +kernel
theorem dX12_feels_55 : decode cX12_feels 55 = .ok (.iastore, 1) := by decide +kernel
theorem dX12_feels_56 : decode cX12_feels 56 = .ok (.aload_n 0, 1) := by decide +kernel
theorem dX12_feels_57 : decode cX12_feels 57 = .ok (.getfield 75, 3) := by decide +kernel
theorem dX12_feels_60 : decode cX12_feels 60 = .ok (.iconst 3, 1) := by decide +kernel
theorem dX12_feels_61 : decode cX12_feels 61 = .ok (.aload_n 0, 1) := by decide +kernel
theorem dX12_feels_62 : decode cX12_feels 62 = .ok (.getfield 7, 3) := by decide +kernel
theorem dX12_feels_65 : decode cX12_feels 65 = .ok (.sipush 256, 3) := by decide +kernel
theorem dX12_feels_68 : decode cX12_feels 68 = .ok (.iload_n 1, 1) := by decide +kernel
theorem dX12_feels_69 : decode cX12_feels 69 = .ok (.iadd, 1) := by decide +kernel
theorem dX12_feels_70 : decode cX12_feels 70 = .ok (.iaload, 1) := by decide +kernel
theorem dX12_feels_71 : decode cX12_feels 71 = .ok (.iastore, 1) := by decide +kernel
theorem dX12_feels_72 : decode cX12_feels 72 = .ok (.aload_n 0, 1) := by decide +kernel
theorem dX12_feels_73 : decode cX12_feels 73 = .ok (.getfield 75, 3) := by decide +kernel
theorem dX12_feels_76 : decode cX12_feels 76 = .ok (.iconst 4, 1) := by decide +kernel
theorem dX12_feels_77 : decode cX12_feels 77 = .ok (.iconst 0, 1) := by decide +kernel
theorem dX12_feels_78 : decode cX12_feels 78 = .ok (.aload_n 0, 1) := by decide +kernel
theorem dX12_feels_79 : decode cX12_feels 79 = .ok (.getfield 7, 3) := by decide +kernel
theorem dX12_feels_82 : decode cX12_feels 82 = .ok (.sipush 320, 3) := by decide +kernel
theorem dX12_feels_85 : decode cX12_feels 85 = .ok (.iload_n 1, 1) := by decide +kernel
theorem dX12_feels_86 : decode cX12_feels 86 = .ok (.iadd, 1) := by decide +kernel
theorem dX12_feels_87 : decode cX12_feels 87 = .ok (.iaload, 1) := by decide +kernel
theorem dX12_feels_88 : decode cX12_feels 88 = .ok (.invokestatic 257, 3) := by decide +kernel
theorem dX12_feels_91 : decode cX12_feels 91 = .ok (.iastore, 1) := by decide +kernel
theorem dX12_feels_92 : decode cX12_feels 92 = .ok (.aload_n 0, 1) := by decide +kernel
theorem dX12_feels_93 : decode cX12_feels 93 = .ok (.getfield 75, 3) := by decide +kernel
theorem dX12_feels_96 : decode cX12_feels 96 = .ok (.iconst 5, 1) := by decide +kernel
theorem dX12_feels_97 : decode cX12_feels 97 = .ok (.aload_n 0, 1) := by decide +kernel
theorem dX12_feels_98 : decode cX12_feels 98 = .ok (.aload_n 0, 1) := by decide +kernel
theorem dX12_feels_99 : decode cX12_feels 99 = .ok (.getfield 7, 3) := by decide +kernel
theorem dX12_feels_102 : decode cX12_feels 102 = .ok (.iconst 0, 1) := by decide +kernel
theorem dX12_feels_103 : decode cX12_feels 103 = .ok (.iload_n 1, 1) := by decide +kernel
theorem dX12_feels_104 : decode cX12_feels 104 = .ok (.iadd, 1) := by decide +kernel
theorem dX12_feels_105 : decode cX12_feels 105 = .ok (.iaload, 1) := by decide +kernel
theorem dX12_feels_106 : decode cX12_feels 106 = .ok (.invokevirtual 135, 3) := by decide +kernel
theorem dX12_feels_109 : decode cX12_feels 109 = .ok (.iastore, 1) := by decide +kernel
theorem dX12_feels_110 : decode cX12_feels 110 = .ok (.aload_n 0, 1) := by decide +kernel
theorem dX12_feels_111 : decode cX12_feels 111 = .ok (.getfield 75, 3) := by decide +kernel
theorem dX12_feels_114 : decode cX12_feels 114 = .ok (.bipush 6, 2) := by decide +kernel
theorem dX12_feels_116 : decode cX12_feels 116 = .ok (.aload_n 0, 1) := by decide +kernel
theorem dX12_feels_117 : decode cX12_feels 117 = .ok (.getfield 7, 3) := by decide +kernel
theorem dX12_feels_120 : decode cX12_feels 120 = .ok (.sipush 704, 3) := by decide +kernel
theorem dX12_feels_123 : decode cX12_feels 123 = .ok (.iload_n 1, 1) := by decide +kernel
theorem dX12_feels_124 : decode cX12_feels 124 = .ok (.iadd, 1) := by decide +kernel
theorem dX12_feels_125 : decode cX12_feels 125 = .ok (.iaload, 1) := by decide +kernel
theorem dX12_feels_126 : decode cX12_feels 126 = .ok (.invokestatic 260, 3) := by decide +kernel
theorem dX12_feels_129 : decode cX12_feels 129 = .ok (.iastore, 1) := by decide +kernel
theorem dX12_feels_130 : decode cX12_feels 130 = .ok (.aload_n 0, 1) := by decide +kernel
theorem dX12_feels_131 : decode cX12_feels 131 = .ok (.getfield 75, 3) := by decide +kernel
theorem dX12_feels_134 : decode cX12_feels 134 = .ok (.bipush 7, 2) := by decide +kernel
theorem dX12_feels_136 : decode cX12_feels 136 = .ok (.aload_n 0, 1) := by decide +kernel
theorem dX12_feels_137 : decode cX12_feels 137 = .ok (.getfield 7, 3) := by decide +kernel
theorem dX12_feels_140 : decode cX12_feels 140 = .ok (.sipush 576, 3) := by decide +kernel
theorem dX12_feels_143 : decode cX12_feels 143 = .ok (.iload_n 1, 1) := by decide +kernel
theorem dX12_feels_144 : decode cX12_feels 144 = .ok (.iadd, 1) := by decide +kernel
theorem dX12_feels_145 : decode cX12_feels 145 = .ok (.iaload, 1) := by decide +kernel
theorem dX12_feels_146 : decode cX12_feels 146 = .ok (.iastore, 1) := by decide +kernel
theorem dX12_feels_147 : decode cX12_feels 147 = .ok (.aload_n 0, 1) := by decide +kernel
theorem dX12_feels_148 : decode cX12_feels 148 = .ok (.getfield 75, 3) := by decide +kernel
theorem dX12_feels_151 : decode cX12_feels 151 = .ok (.bipush 8, 2) := by decide +kernel
theorem dX12_feels_153 : decode cX12_feels 153 = .ok (.aload_n 0, 1) := by decide +kernel
theorem dX12_feels_154 : decode cX12_feels 154 = .ok (.getfield 7, 3) := by decide +kernel
theorem dX12_feels_157 : decode cX12_feels 157 = .ok (.sipush 832, 3) := by decide +kernel
theorem dX12_feels_160 : decode cX12_feels 160 = .ok (.iaload, 1) := by decide +kernel
theorem dX12_feels_161 : decode cX12_feels 161 = .ok (.aload_n 0, 1) := by decide +kernel
theorem dX12_feels_162 : decode cX12_feels 162 = .ok (.getfield 7, 3) := by decide +kernel
theorem dX12_feels_165 : decode cX12_feels 165 = .ok (.sipush 128, 3) := by decide +kernel
theorem dX12_feels_168 : decode cX12_feels 168 = .ok (.iload_n 1, 1) := by decide +kernel
theorem dX12_feels_169 : decode cX12_feels 169 = .ok (.iadd, 1) := by decide +kernel
theorem dX12_feels_170 : decode cX12_feels 170 = .ok (.iaload, 1) := by decide +kernel
theorem dX12_feels_171 : decode cX12_feels 171 = .ok (.isub, 1) := by decide +kernel
theorem dX12_feels_172 : decode cX12_feels 172 = .ok (.iastore, 1) := by decide +kernel
theorem dX12_feels_173 : decode cX12_feels 173 = .ok (.return_, 1) := by decide +kernel
theorem rX12_feels : (∀ (d : Nat) (L st : List Value) (h : fk_H), fk_ev d qX12_feels 0 L st h = fk_ev d qX12_feels 1 L (.int (nI 0) :: st) h) ∧
  (∀ (d : Nat) (a0 a1 a2 : Value) (x : Int32) (st : List Value) (h : fk_H), fk_ev d qX12_feels 1 [a0, a1, a2] (.int x :: st) h = fk_ev d qX12_feels 2 [a0, a1, .int x] st h) ∧
  (∀ (d : Nat) (L st : List Value) (h : fk_H), fk_ev d qX12_feels 3 L st h = fk_ev d qX12_feels 5 L (.int (nI 14) :: st) h) ∧
  (∀ (d : Nat) (L : List Value) (x y : Int32) (st : List Value) (h : fk_H), fk_ev d qX12_feels 5 L (.int y :: .int x :: st) h = if y ≤ x then fk_ev d qX12_feels 21 L st h else fk_ev d qX12_feels 8 L st h) ∧
  (∀ (d : Nat) (a1 a2 : Value) (x : Nat) (st : List Value) (h : fk_H), fk_ev d qX12_feels 8 [.ref x, a1, a2] st h = fk_ev d qX12_feels 9 [.ref x, a1, a2] (.ref x :: st) h) ∧
  (∀ (d : Nat) (L st : List Value) (N : Nat) (y : Nat → Nat → Int32) (l : Nat → Nat → Int64), fk_ev d qX12_feels 9 L (.ref 246 :: st) (fk_E N y l) = fk_ev d qX12_feels 12 L (.ref 268 :: st) (fk_E N y l)) ∧
  (∀ (d : Nat) (a0 a1 : Value) (x : Int32) (st : List Value) (h : fk_H), fk_ev d qX12_feels 12 [a0, a1, .int x] st h = fk_ev d qX12_feels 13 [a0, a1, .int x] (.int x :: st) h) ∧
  (∀ (d : Nat) (L st : List Value) (h : fk_H), fk_ev d qX12_feels 13 L st h = fk_ev d qX12_feels 14 L (.int (nI 0) :: st) h) ∧
  (∀ (d : Nat) (L st : List Value) (N : Nat) (y : Nat → Nat → Int32) (l : Nat → Nat → Int64) (i : Nat) (v : Int32), i < 14 → fk_ev d qX12_feels 14 L (.int v :: .int (nI i) :: .ref 268 :: st) (fk_E N y l) = fk_ev d qX12_feels 15 L st (fk_E N (fk_u y 268 i v) l)) ∧
  (∀ (d : Nat) (a0 a1 : Value) (x : Int32) (st : List Value) (h : fk_H), fk_ev d qX12_feels 15 [a0, a1, .int x] st h = fk_ev d qX12_feels 18 [a0, a1, .int (x + nI 1)] st h) ∧
  (∀ (d : Nat) (L st : List Value) (h : fk_H), fk_ev d qX12_feels 18 L st h = fk_ev d qX12_feels 2 L st h) ∧
  (∀ (d : Nat) (a1 a2 : Value) (x : Nat) (st : List Value) (h : fk_H), fk_ev d qX12_feels 21 [.ref x, a1, a2] st h = fk_ev d qX12_feels 22 [.ref x, a1, a2] (.ref x :: st) h) ∧
  (∀ (d : Nat) (L st : List Value) (N : Nat) (y : Nat → Nat → Int32) (l : Nat → Nat → Int64), fk_ev d qX12_feels 22 L (.ref 246 :: st) (fk_E N y l) = fk_ev d qX12_feels 25 L (.ref 268 :: st) (fk_E N y l)) ∧
  (∀ (d : Nat) (L st : List Value) (h : fk_H), fk_ev d qX12_feels 25 L st h = fk_ev d qX12_feels 26 L (.int (nI 0) :: st) h) ∧
  (∀ (d : Nat) (a1 a2 : Value) (x : Nat) (st : List Value) (h : fk_H), fk_ev d qX12_feels 26 [.ref x, a1, a2] st h = fk_ev d qX12_feels 27 [.ref x, a1, a2] (.ref x :: st) h) ∧
  (∀ (d : Nat) (L st : List Value) (N : Nat) (y : Nat → Nat → Int32) (l : Nat → Nat → Int64), fk_ev d qX12_feels 27 L (.ref 246 :: st) (fk_E N y l) = fk_ev d qX12_feels 30 L (.ref 247 :: st) (fk_E N y l)) ∧
  (∀ (d : Nat) (L st : List Value) (h : fk_H), fk_ev d qX12_feels 30 L st h = fk_ev d qX12_feels 33 L (.int (nI 832) :: st) h) ∧
  (∀ (d : Nat) (L st : List Value) (N : Nat) (y : Nat → Nat → Int32) (l : Nat → Nat → Int64) (i : Nat), i < 3912 → fk_ev d qX12_feels 33 L (.int (nI i) :: .ref 247 :: st) (fk_E N y l) = fk_ev d qX12_feels 34 L (.int (y 247 i) :: st) (fk_E N y l)) ∧
  (∀ (d : Nat) (L st : List Value) (N : Nat) (y : Nat → Nat → Int32) (l : Nat → Nat → Int64) (i : Nat) (v : Int32), i < 14 → fk_ev d qX12_feels 34 L (.int v :: .int (nI i) :: .ref 268 :: st) (fk_E N y l) = fk_ev d qX12_feels 35 L st (fk_E N (fk_u y 268 i v) l)) ∧
  (∀ (d : Nat) (a1 a2 : Value) (x : Nat) (st : List Value) (h : fk_H), fk_ev d qX12_feels 35 [.ref x, a1, a2] st h = fk_ev d qX12_feels 36 [.ref x, a1, a2] (.ref x :: st) h) ∧
  (∀ (d : Nat) (L st : List Value) (N : Nat) (y : Nat → Nat → Int32) (l : Nat → Nat → Int64), fk_ev d qX12_feels 36 L (.ref 246 :: st) (fk_E N y l) = fk_ev d qX12_feels 39 L (.ref 268 :: st) (fk_E N y l)) ∧
  (∀ (d : Nat) (L st : List Value) (h : fk_H), fk_ev d qX12_feels 39 L st h = fk_ev d qX12_feels 40 L (.int (nI 1) :: st) h) ∧
  (∀ (d : Nat) (a1 a2 : Value) (x : Nat) (st : List Value) (h : fk_H), fk_ev d qX12_feels 40 [.ref x, a1, a2] st h = fk_ev d qX12_feels 41 [.ref x, a1, a2] (.ref x :: st) h) ∧
  (∀ (d : Nat) (L st : List Value) (N : Nat) (y : Nat → Nat → Int32) (l : Nat → Nat → Int64), fk_ev d qX12_feels 41 L (.ref 246 :: st) (fk_E N y l) = fk_ev d qX12_feels 44 L (.ref 247 :: st) (fk_E N y l)) ∧
  (∀ (d : Nat) (L st : List Value) (h : fk_H), fk_ev d qX12_feels 44 L st h = fk_ev d qX12_feels 45 L (.int (nI 0) :: st) h) ∧
  (∀ (d : Nat) (a0 a2 : Value) (x : Int32) (st : List Value) (h : fk_H), fk_ev d qX12_feels 45 [a0, .int x, a2] st h = fk_ev d qX12_feels 46 [a0, .int x, a2] (.int x :: st) h) ∧
  (∀ (d : Nat) (L : List Value) (x y : Int32) (st : List Value) (h : fk_H), fk_ev d qX12_feels 46 L (.int y :: .int x :: st) h = fk_ev d qX12_feels 47 L (.int (x + y) :: st) h) ∧
  (∀ (d : Nat) (L st : List Value) (N : Nat) (y : Nat → Nat → Int32) (l : Nat → Nat → Int64) (i : Nat), i < 3912 → fk_ev d qX12_feels 47 L (.int (nI i) :: .ref 247 :: st) (fk_E N y l) = fk_ev d qX12_feels 48 L (.int (y 247 i) :: st) (fk_E N y l)) ∧
  (∀ (d : Nat) (L st : List Value) (N : Nat) (y : Nat → Nat → Int32) (l : Nat → Nat → Int64) (i : Nat) (v : Int32), i < 14 → fk_ev d qX12_feels 48 L (.int v :: .int (nI i) :: .ref 268 :: st) (fk_E N y l) = fk_ev d qX12_feels 49 L st (fk_E N (fk_u y 268 i v) l)) ∧
  (∀ (d : Nat) (a1 a2 : Value) (x : Nat) (st : List Value) (h : fk_H), fk_ev d qX12_feels 49 [.ref x, a1, a2] st h = fk_ev d qX12_feels 50 [.ref x, a1, a2] (.ref x :: st) h) ∧
  (∀ (d : Nat) (L st : List Value) (N : Nat) (y : Nat → Nat → Int32) (l : Nat → Nat → Int64), fk_ev d qX12_feels 50 L (.ref 246 :: st) (fk_E N y l) = fk_ev d qX12_feels 53 L (.ref 268 :: st) (fk_E N y l)) ∧
  (∀ (d : Nat) (L st : List Value) (h : fk_H), fk_ev d qX12_feels 53 L st h = fk_ev d qX12_feels 54 L (.int (nI 2) :: st) h) ∧
  (∀ (d : Nat) (a0 a2 : Value) (x : Int32) (st : List Value) (h : fk_H), fk_ev d qX12_feels 54 [a0, .int x, a2] st h = fk_ev d qX12_feels 55 [a0, .int x, a2] (.int x :: st) h) ∧
  (∀ (d : Nat) (L st : List Value) (N : Nat) (y : Nat → Nat → Int32) (l : Nat → Nat → Int64) (i : Nat) (v : Int32), i < 14 → fk_ev d qX12_feels 55 L (.int v :: .int (nI i) :: .ref 268 :: st) (fk_E N y l) = fk_ev d qX12_feels 56 L st (fk_E N (fk_u y 268 i v) l)) ∧
  (∀ (d : Nat) (a1 a2 : Value) (x : Nat) (st : List Value) (h : fk_H), fk_ev d qX12_feels 56 [.ref x, a1, a2] st h = fk_ev d qX12_feels 57 [.ref x, a1, a2] (.ref x :: st) h) ∧
  (∀ (d : Nat) (L st : List Value) (N : Nat) (y : Nat → Nat → Int32) (l : Nat → Nat → Int64), fk_ev d qX12_feels 57 L (.ref 246 :: st) (fk_E N y l) = fk_ev d qX12_feels 60 L (.ref 268 :: st) (fk_E N y l)) ∧
  (∀ (d : Nat) (L st : List Value) (h : fk_H), fk_ev d qX12_feels 60 L st h = fk_ev d qX12_feels 61 L (.int (nI 3) :: st) h) ∧
  (∀ (d : Nat) (a1 a2 : Value) (x : Nat) (st : List Value) (h : fk_H), fk_ev d qX12_feels 61 [.ref x, a1, a2] st h = fk_ev d qX12_feels 62 [.ref x, a1, a2] (.ref x :: st) h) ∧
  (∀ (d : Nat) (L st : List Value) (N : Nat) (y : Nat → Nat → Int32) (l : Nat → Nat → Int64), fk_ev d qX12_feels 62 L (.ref 246 :: st) (fk_E N y l) = fk_ev d qX12_feels 65 L (.ref 247 :: st) (fk_E N y l)) ∧
  (∀ (d : Nat) (L st : List Value) (h : fk_H), fk_ev d qX12_feels 65 L st h = fk_ev d qX12_feels 68 L (.int (nI 256) :: st) h) ∧
  (∀ (d : Nat) (a0 a2 : Value) (x : Int32) (st : List Value) (h : fk_H), fk_ev d qX12_feels 68 [a0, .int x, a2] st h = fk_ev d qX12_feels 69 [a0, .int x, a2] (.int x :: st) h) ∧
  (∀ (d : Nat) (L : List Value) (x y : Int32) (st : List Value) (h : fk_H), fk_ev d qX12_feels 69 L (.int y :: .int x :: st) h = fk_ev d qX12_feels 70 L (.int (x + y) :: st) h) ∧
  (∀ (d : Nat) (L st : List Value) (N : Nat) (y : Nat → Nat → Int32) (l : Nat → Nat → Int64) (i : Nat), i < 3912 → fk_ev d qX12_feels 70 L (.int (nI i) :: .ref 247 :: st) (fk_E N y l) = fk_ev d qX12_feels 71 L (.int (y 247 i) :: st) (fk_E N y l)) ∧
  (∀ (d : Nat) (L st : List Value) (N : Nat) (y : Nat → Nat → Int32) (l : Nat → Nat → Int64) (i : Nat) (v : Int32), i < 14 → fk_ev d qX12_feels 71 L (.int v :: .int (nI i) :: .ref 268 :: st) (fk_E N y l) = fk_ev d qX12_feels 72 L st (fk_E N (fk_u y 268 i v) l)) ∧
  (∀ (d : Nat) (a1 a2 : Value) (x : Nat) (st : List Value) (h : fk_H), fk_ev d qX12_feels 72 [.ref x, a1, a2] st h = fk_ev d qX12_feels 73 [.ref x, a1, a2] (.ref x :: st) h) ∧
  (∀ (d : Nat) (L st : List Value) (N : Nat) (y : Nat → Nat → Int32) (l : Nat → Nat → Int64), fk_ev d qX12_feels 73 L (.ref 246 :: st) (fk_E N y l) = fk_ev d qX12_feels 76 L (.ref 268 :: st) (fk_E N y l)) ∧
  (∀ (d : Nat) (L st : List Value) (h : fk_H), fk_ev d qX12_feels 76 L st h = fk_ev d qX12_feels 77 L (.int (nI 4) :: st) h) ∧
  (∀ (d : Nat) (L st : List Value) (h : fk_H), fk_ev d qX12_feels 77 L st h = fk_ev d qX12_feels 78 L (.int (nI 0) :: st) h) ∧
  (∀ (d : Nat) (a1 a2 : Value) (x : Nat) (st : List Value) (h : fk_H), fk_ev d qX12_feels 78 [.ref x, a1, a2] st h = fk_ev d qX12_feels 79 [.ref x, a1, a2] (.ref x :: st) h) ∧
  (∀ (d : Nat) (L st : List Value) (N : Nat) (y : Nat → Nat → Int32) (l : Nat → Nat → Int64), fk_ev d qX12_feels 79 L (.ref 246 :: st) (fk_E N y l) = fk_ev d qX12_feels 82 L (.ref 247 :: st) (fk_E N y l)) ∧
  (∀ (d : Nat) (L st : List Value) (h : fk_H), fk_ev d qX12_feels 82 L st h = fk_ev d qX12_feels 85 L (.int (nI 320) :: st) h) ∧
  (∀ (d : Nat) (a0 a2 : Value) (x : Int32) (st : List Value) (h : fk_H), fk_ev d qX12_feels 85 [a0, .int x, a2] st h = fk_ev d qX12_feels 86 [a0, .int x, a2] (.int x :: st) h) ∧
  (∀ (d : Nat) (L : List Value) (x y : Int32) (st : List Value) (h : fk_H), fk_ev d qX12_feels 86 L (.int y :: .int x :: st) h = fk_ev d qX12_feels 87 L (.int (x + y) :: st) h) ∧
  (∀ (d : Nat) (L st : List Value) (N : Nat) (y : Nat → Nat → Int32) (l : Nat → Nat → Int64) (i : Nat), i < 3912 → fk_ev d qX12_feels 87 L (.int (nI i) :: .ref 247 :: st) (fk_E N y l) = fk_ev d qX12_feels 88 L (.int (y 247 i) :: st) (fk_E N y l)) ∧
  (∀ (d : Nat) (L : List Value) (x0 : Int32) (x1 : Int32) (w0 w1 : Value) (h : fk_H), fk_ev (d + 1) qX12_feels 88 L (.int x1 :: .int x0 :: [w0, w1]) h = (fk_ev d qX12_max 0 [.int x0, .int x1] [] h).bind fun o => fk_ev (d + 1) qX12_feels 91 L (o.1.toList ++ [w0, w1]) o.2) ∧
  (∀ (d : Nat) (L st : List Value) (N : Nat) (y : Nat → Nat → Int32) (l : Nat → Nat → Int64) (i : Nat) (v : Int32), i < 14 → fk_ev d qX12_feels 91 L (.int v :: .int (nI i) :: .ref 268 :: st) (fk_E N y l) = fk_ev d qX12_feels 92 L st (fk_E N (fk_u y 268 i v) l)) ∧
  (∀ (d : Nat) (a1 a2 : Value) (x : Nat) (st : List Value) (h : fk_H), fk_ev d qX12_feels 92 [.ref x, a1, a2] st h = fk_ev d qX12_feels 93 [.ref x, a1, a2] (.ref x :: st) h) ∧
  (∀ (d : Nat) (L st : List Value) (N : Nat) (y : Nat → Nat → Int32) (l : Nat → Nat → Int64), fk_ev d qX12_feels 93 L (.ref 246 :: st) (fk_E N y l) = fk_ev d qX12_feels 96 L (.ref 268 :: st) (fk_E N y l)) ∧
  (∀ (d : Nat) (L st : List Value) (h : fk_H), fk_ev d qX12_feels 96 L st h = fk_ev d qX12_feels 97 L (.int (nI 5) :: st) h) ∧
  (∀ (d : Nat) (a1 a2 : Value) (x : Nat) (st : List Value) (h : fk_H), fk_ev d qX12_feels 97 [.ref x, a1, a2] st h = fk_ev d qX12_feels 98 [.ref x, a1, a2] (.ref x :: st) h) ∧
  (∀ (d : Nat) (a1 a2 : Value) (x : Nat) (st : List Value) (h : fk_H), fk_ev d qX12_feels 98 [.ref x, a1, a2] st h = fk_ev d qX12_feels 99 [.ref x, a1, a2] (.ref x :: st) h) ∧
  (∀ (d : Nat) (L st : List Value) (N : Nat) (y : Nat → Nat → Int32) (l : Nat → Nat → Int64), fk_ev d qX12_feels 99 L (.ref 246 :: st) (fk_E N y l) = fk_ev d qX12_feels 102 L (.ref 247 :: st) (fk_E N y l)) ∧
  (∀ (d : Nat) (L st : List Value) (h : fk_H), fk_ev d qX12_feels 102 L st h = fk_ev d qX12_feels 103 L (.int (nI 0) :: st) h) ∧
  (∀ (d : Nat) (a0 a2 : Value) (x : Int32) (st : List Value) (h : fk_H), fk_ev d qX12_feels 103 [a0, .int x, a2] st h = fk_ev d qX12_feels 104 [a0, .int x, a2] (.int x :: st) h) ∧
  (∀ (d : Nat) (L : List Value) (x y : Int32) (st : List Value) (h : fk_H), fk_ev d qX12_feels 104 L (.int y :: .int x :: st) h = fk_ev d qX12_feels 105 L (.int (x + y) :: st) h) ∧
  (∀ (d : Nat) (L st : List Value) (N : Nat) (y : Nat → Nat → Int32) (l : Nat → Nat → Int64) (i : Nat), i < 3912 → fk_ev d qX12_feels 105 L (.int (nI i) :: .ref 247 :: st) (fk_E N y l) = fk_ev d qX12_feels 106 L (.int (y 247 i) :: st) (fk_E N y l)) ∧
  (∀ (d : Nat) (L : List Value) (x0 : Int32) (w0 w1 : Value) (N : Nat) (y : Nat → Nat → Int32) (l : Nat → Nat → Int64), fk_ev (d + 1) qX12_feels 106 L (.int x0 :: .ref 246 :: [w0, w1]) (fk_E N y l) = (fk_ev d qX12_livingOf 0 [.ref 246, .int x0, .null, .null] [] (fk_E N y l)).bind fun o => fk_ev (d + 1) qX12_feels 109 L (o.1.toList ++ [w0, w1]) o.2) ∧
  (∀ (d : Nat) (L st : List Value) (N : Nat) (y : Nat → Nat → Int32) (l : Nat → Nat → Int64) (i : Nat) (v : Int32), i < 14 → fk_ev d qX12_feels 109 L (.int v :: .int (nI i) :: .ref 268 :: st) (fk_E N y l) = fk_ev d qX12_feels 110 L st (fk_E N (fk_u y 268 i v) l)) ∧
  (∀ (d : Nat) (a1 a2 : Value) (x : Nat) (st : List Value) (h : fk_H), fk_ev d qX12_feels 110 [.ref x, a1, a2] st h = fk_ev d qX12_feels 111 [.ref x, a1, a2] (.ref x :: st) h) ∧
  (∀ (d : Nat) (L st : List Value) (N : Nat) (y : Nat → Nat → Int32) (l : Nat → Nat → Int64), fk_ev d qX12_feels 111 L (.ref 246 :: st) (fk_E N y l) = fk_ev d qX12_feels 114 L (.ref 268 :: st) (fk_E N y l)) ∧
  (∀ (d : Nat) (L st : List Value) (h : fk_H), fk_ev d qX12_feels 114 L st h = fk_ev d qX12_feels 116 L (.int (nI 6) :: st) h) ∧
  (∀ (d : Nat) (a1 a2 : Value) (x : Nat) (st : List Value) (h : fk_H), fk_ev d qX12_feels 116 [.ref x, a1, a2] st h = fk_ev d qX12_feels 117 [.ref x, a1, a2] (.ref x :: st) h) ∧
  (∀ (d : Nat) (L st : List Value) (N : Nat) (y : Nat → Nat → Int32) (l : Nat → Nat → Int64), fk_ev d qX12_feels 117 L (.ref 246 :: st) (fk_E N y l) = fk_ev d qX12_feels 120 L (.ref 247 :: st) (fk_E N y l)) ∧
  (∀ (d : Nat) (L st : List Value) (h : fk_H), fk_ev d qX12_feels 120 L st h = fk_ev d qX12_feels 123 L (.int (nI 704) :: st) h) ∧
  (∀ (d : Nat) (a0 a2 : Value) (x : Int32) (st : List Value) (h : fk_H), fk_ev d qX12_feels 123 [a0, .int x, a2] st h = fk_ev d qX12_feels 124 [a0, .int x, a2] (.int x :: st) h) ∧
  (∀ (d : Nat) (L : List Value) (x y : Int32) (st : List Value) (h : fk_H), fk_ev d qX12_feels 124 L (.int y :: .int x :: st) h = fk_ev d qX12_feels 125 L (.int (x + y) :: st) h) ∧
  (∀ (d : Nat) (L st : List Value) (N : Nat) (y : Nat → Nat → Int32) (l : Nat → Nat → Int64) (i : Nat), i < 3912 → fk_ev d qX12_feels 125 L (.int (nI i) :: .ref 247 :: st) (fk_E N y l) = fk_ev d qX12_feels 126 L (.int (y 247 i) :: st) (fk_E N y l)) ∧
  (∀ (d : Nat) (L : List Value) (x0 : Int32) (w0 w1 : Value) (h : fk_H), fk_ev (d + 1) qX12_feels 126 L (.int x0 :: [w0, w1]) h = (fk_ev d qX12_bits 0 [.int x0, .null, .null] [] h).bind fun o => fk_ev (d + 1) qX12_feels 129 L (o.1.toList ++ [w0, w1]) o.2) ∧
  (∀ (d : Nat) (L st : List Value) (N : Nat) (y : Nat → Nat → Int32) (l : Nat → Nat → Int64) (i : Nat) (v : Int32), i < 14 → fk_ev d qX12_feels 129 L (.int v :: .int (nI i) :: .ref 268 :: st) (fk_E N y l) = fk_ev d qX12_feels 130 L st (fk_E N (fk_u y 268 i v) l)) ∧
  (∀ (d : Nat) (a1 a2 : Value) (x : Nat) (st : List Value) (h : fk_H), fk_ev d qX12_feels 130 [.ref x, a1, a2] st h = fk_ev d qX12_feels 131 [.ref x, a1, a2] (.ref x :: st) h) ∧
  (∀ (d : Nat) (L st : List Value) (N : Nat) (y : Nat → Nat → Int32) (l : Nat → Nat → Int64), fk_ev d qX12_feels 131 L (.ref 246 :: st) (fk_E N y l) = fk_ev d qX12_feels 134 L (.ref 268 :: st) (fk_E N y l)) ∧
  (∀ (d : Nat) (L st : List Value) (h : fk_H), fk_ev d qX12_feels 134 L st h = fk_ev d qX12_feels 136 L (.int (nI 7) :: st) h) ∧
  (∀ (d : Nat) (a1 a2 : Value) (x : Nat) (st : List Value) (h : fk_H), fk_ev d qX12_feels 136 [.ref x, a1, a2] st h = fk_ev d qX12_feels 137 [.ref x, a1, a2] (.ref x :: st) h) ∧
  (∀ (d : Nat) (L st : List Value) (N : Nat) (y : Nat → Nat → Int32) (l : Nat → Nat → Int64), fk_ev d qX12_feels 137 L (.ref 246 :: st) (fk_E N y l) = fk_ev d qX12_feels 140 L (.ref 247 :: st) (fk_E N y l)) ∧
  (∀ (d : Nat) (L st : List Value) (h : fk_H), fk_ev d qX12_feels 140 L st h = fk_ev d qX12_feels 143 L (.int (nI 576) :: st) h) ∧
  (∀ (d : Nat) (a0 a2 : Value) (x : Int32) (st : List Value) (h : fk_H), fk_ev d qX12_feels 143 [a0, .int x, a2] st h = fk_ev d qX12_feels 144 [a0, .int x, a2] (.int x :: st) h) ∧
  (∀ (d : Nat) (L : List Value) (x y : Int32) (st : List Value) (h : fk_H), fk_ev d qX12_feels 144 L (.int y :: .int x :: st) h = fk_ev d qX12_feels 145 L (.int (x + y) :: st) h) ∧
  (∀ (d : Nat) (L st : List Value) (N : Nat) (y : Nat → Nat → Int32) (l : Nat → Nat → Int64) (i : Nat), i < 3912 → fk_ev d qX12_feels 145 L (.int (nI i) :: .ref 247 :: st) (fk_E N y l) = fk_ev d qX12_feels 146 L (.int (y 247 i) :: st) (fk_E N y l)) ∧
  (∀ (d : Nat) (L st : List Value) (N : Nat) (y : Nat → Nat → Int32) (l : Nat → Nat → Int64) (i : Nat) (v : Int32), i < 14 → fk_ev d qX12_feels 146 L (.int v :: .int (nI i) :: .ref 268 :: st) (fk_E N y l) = fk_ev d qX12_feels 147 L st (fk_E N (fk_u y 268 i v) l)) ∧
  (∀ (d : Nat) (a1 a2 : Value) (x : Nat) (st : List Value) (h : fk_H), fk_ev d qX12_feels 147 [.ref x, a1, a2] st h = fk_ev d qX12_feels 148 [.ref x, a1, a2] (.ref x :: st) h) ∧
  (∀ (d : Nat) (L st : List Value) (N : Nat) (y : Nat → Nat → Int32) (l : Nat → Nat → Int64), fk_ev d qX12_feels 148 L (.ref 246 :: st) (fk_E N y l) = fk_ev d qX12_feels 151 L (.ref 268 :: st) (fk_E N y l)) ∧
  (∀ (d : Nat) (L st : List Value) (h : fk_H), fk_ev d qX12_feels 151 L st h = fk_ev d qX12_feels 153 L (.int (nI 8) :: st) h) ∧
  (∀ (d : Nat) (a1 a2 : Value) (x : Nat) (st : List Value) (h : fk_H), fk_ev d qX12_feels 153 [.ref x, a1, a2] st h = fk_ev d qX12_feels 154 [.ref x, a1, a2] (.ref x :: st) h) ∧
  (∀ (d : Nat) (L st : List Value) (N : Nat) (y : Nat → Nat → Int32) (l : Nat → Nat → Int64), fk_ev d qX12_feels 154 L (.ref 246 :: st) (fk_E N y l) = fk_ev d qX12_feels 157 L (.ref 247 :: st) (fk_E N y l)) ∧
  (∀ (d : Nat) (L st : List Value) (h : fk_H), fk_ev d qX12_feels 157 L st h = fk_ev d qX12_feels 160 L (.int (nI 832) :: st) h) ∧
  (∀ (d : Nat) (L st : List Value) (N : Nat) (y : Nat → Nat → Int32) (l : Nat → Nat → Int64) (i : Nat), i < 3912 → fk_ev d qX12_feels 160 L (.int (nI i) :: .ref 247 :: st) (fk_E N y l) = fk_ev d qX12_feels 161 L (.int (y 247 i) :: st) (fk_E N y l)) ∧
  (∀ (d : Nat) (a1 a2 : Value) (x : Nat) (st : List Value) (h : fk_H), fk_ev d qX12_feels 161 [.ref x, a1, a2] st h = fk_ev d qX12_feels 162 [.ref x, a1, a2] (.ref x :: st) h) ∧
  (∀ (d : Nat) (L st : List Value) (N : Nat) (y : Nat → Nat → Int32) (l : Nat → Nat → Int64), fk_ev d qX12_feels 162 L (.ref 246 :: st) (fk_E N y l) = fk_ev d qX12_feels 165 L (.ref 247 :: st) (fk_E N y l)) ∧
  (∀ (d : Nat) (L st : List Value) (h : fk_H), fk_ev d qX12_feels 165 L st h = fk_ev d qX12_feels 168 L (.int (nI 128) :: st) h) ∧
  (∀ (d : Nat) (a0 a2 : Value) (x : Int32) (st : List Value) (h : fk_H), fk_ev d qX12_feels 168 [a0, .int x, a2] st h = fk_ev d qX12_feels 169 [a0, .int x, a2] (.int x :: st) h) ∧
  (∀ (d : Nat) (L : List Value) (x y : Int32) (st : List Value) (h : fk_H), fk_ev d qX12_feels 169 L (.int y :: .int x :: st) h = fk_ev d qX12_feels 170 L (.int (x + y) :: st) h) ∧
  (∀ (d : Nat) (L st : List Value) (N : Nat) (y : Nat → Nat → Int32) (l : Nat → Nat → Int64) (i : Nat), i < 3912 → fk_ev d qX12_feels 170 L (.int (nI i) :: .ref 247 :: st) (fk_E N y l) = fk_ev d qX12_feels 171 L (.int (y 247 i) :: st) (fk_E N y l)) ∧
  (∀ (d : Nat) (L : List Value) (x y : Int32) (st : List Value) (h : fk_H), fk_ev d qX12_feels 171 L (.int y :: .int x :: st) h = fk_ev d qX12_feels 172 L (.int (x - y) :: st) h) ∧
  (∀ (d : Nat) (L st : List Value) (N : Nat) (y : Nat → Nat → Int32) (l : Nat → Nat → Int64) (i : Nat) (v : Int32), i < 14 → fk_ev d qX12_feels 172 L (.int v :: .int (nI i) :: .ref 268 :: st) (fk_E N y l) = fk_ev d qX12_feels 173 L st (fk_E N (fk_u y 268 i v) l)) ∧
  (∀ (d : Nat) (L : List Value) (h : fk_H), fk_ev d qX12_feels 173 L [] h = some (none, h)) := ⟨fun d L st h => fk_w_iconst dX12_feels_0 (by decide),
  fun d a0 a1 a2 x st h => fk_w_istoren 2 3 [] [a0, a1, a2] [a0, a1, .int x] dX12_feels_1 rfl rfl (by decide) rfl,
  fun d L st h => fk_w_bipush dX12_feels_3 (by decide),
  fun d L x y st h => fk_r_icmp_ge dX12_feels_5 (by decide),
  fun d a1 a2 x st h => fk_w_aloadn 0 [.ref x, a1, a2] dX12_feels_8 rfl,
  fun d L st N y l => fk_g_getC rfl lf_12_75 (by decide) rfl dX12_feels_9 fk_at_246,
  fun d a0 a1 x st h => fk_w_iloadn 2 [a0, a1, .int x] dX12_feels_12 rfl,
  fun d L st h => fk_w_iconst dX12_feels_13 (by decide),
  fun d L st N y l i v hi => fk_g_iast fk_at_268 fk_ln_268 (by decide) dX12_feels_14 hi,
  fun d a0 a1 x st h => fk_w_iinc 2 3 (1) [] [a0, a1, .int x] [a0, a1, .int (x + nI 1)] dX12_feels_15 rfl rfl rfl (by decide) rfl,
  fun d L st h => fk_r_goto dX12_feels_18 (by decide),
  fun d a1 a2 x st h => fk_w_aloadn 0 [.ref x, a1, a2] dX12_feels_21 rfl,
  fun d L st N y l => fk_g_getC rfl lf_12_75 (by decide) rfl dX12_feels_22 fk_at_246,
  fun d L st h => fk_w_iconst dX12_feels_25 (by decide),
  fun d a1 a2 x st h => fk_w_aloadn 0 [.ref x, a1, a2] dX12_feels_26 rfl,
  fun d L st N y l => fk_g_getC rfl lf_12_7 (by decide) rfl dX12_feels_27 fk_at_246,
  fun d L st h => fk_w_sipush dX12_feels_30 (by decide),
  fun d L st N y l i hi => fk_g_iald fk_at_247 fk_ln_247 (by decide) dX12_feels_33 hi,
  fun d L st N y l i v hi => fk_g_iast fk_at_268 fk_ln_268 (by decide) dX12_feels_34 hi,
  fun d a1 a2 x st h => fk_w_aloadn 0 [.ref x, a1, a2] dX12_feels_35 rfl,
  fun d L st N y l => fk_g_getC rfl lf_12_75 (by decide) rfl dX12_feels_36 fk_at_246,
  fun d L st h => fk_w_iconst dX12_feels_39 (by decide),
  fun d a1 a2 x st h => fk_w_aloadn 0 [.ref x, a1, a2] dX12_feels_40 rfl,
  fun d L st N y l => fk_g_getC rfl lf_12_7 (by decide) rfl dX12_feels_41 fk_at_246,
  fun d L st h => fk_w_iconst dX12_feels_44 (by decide),
  fun d a0 a2 x st h => fk_w_iloadn 1 [a0, .int x, a2] dX12_feels_45 rfl,
  fun d L x y st h => fk_r_iadd dX12_feels_46,
  fun d L st N y l i hi => fk_g_iald fk_at_247 fk_ln_247 (by decide) dX12_feels_47 hi,
  fun d L st N y l i v hi => fk_g_iast fk_at_268 fk_ln_268 (by decide) dX12_feels_48 hi,
  fun d a1 a2 x st h => fk_w_aloadn 0 [.ref x, a1, a2] dX12_feels_49 rfl,
  fun d L st N y l => fk_g_getC rfl lf_12_75 (by decide) rfl dX12_feels_50 fk_at_246,
  fun d L st h => fk_w_iconst dX12_feels_53 (by decide),
  fun d a0 a2 x st h => fk_w_iloadn 1 [a0, .int x, a2] dX12_feels_54 rfl,
  fun d L st N y l i v hi => fk_g_iast fk_at_268 fk_ln_268 (by decide) dX12_feels_55 hi,
  fun d a1 a2 x st h => fk_w_aloadn 0 [.ref x, a1, a2] dX12_feels_56 rfl,
  fun d L st N y l => fk_g_getC rfl lf_12_75 (by decide) rfl dX12_feels_57 fk_at_246,
  fun d L st h => fk_w_iconst dX12_feels_60 (by decide),
  fun d a1 a2 x st h => fk_w_aloadn 0 [.ref x, a1, a2] dX12_feels_61 rfl,
  fun d L st N y l => fk_g_getC rfl lf_12_7 (by decide) rfl dX12_feels_62 fk_at_246,
  fun d L st h => fk_w_sipush dX12_feels_65 (by decide),
  fun d a0 a2 x st h => fk_w_iloadn 1 [a0, .int x, a2] dX12_feels_68 rfl,
  fun d L x y st h => fk_r_iadd dX12_feels_69,
  fun d L st N y l i hi => fk_g_iald fk_at_247 fk_ln_247 (by decide) dX12_feels_70 hi,
  fun d L st N y l i v hi => fk_g_iast fk_at_268 fk_ln_268 (by decide) dX12_feels_71 hi,
  fun d a1 a2 x st h => fk_w_aloadn 0 [.ref x, a1, a2] dX12_feels_72 rfl,
  fun d L st N y l => fk_g_getC rfl lf_12_75 (by decide) rfl dX12_feels_73 fk_at_246,
  fun d L st h => fk_w_iconst dX12_feels_76 (by decide),
  fun d L st h => fk_w_iconst dX12_feels_77 (by decide),
  fun d a1 a2 x st h => fk_w_aloadn 0 [.ref x, a1, a2] dX12_feels_78 rfl,
  fun d L st N y l => fk_g_getC rfl lf_12_7 (by decide) rfl dX12_feels_79 fk_at_246,
  fun d L st h => fk_w_sipush dX12_feels_82 (by decide),
  fun d a0 a2 x st h => fk_w_iloadn 1 [a0, .int x, a2] dX12_feels_85 rfl,
  fun d L x y st h => fk_r_iadd dX12_feels_86,
  fun d L st N y l i hi => fk_g_iald fk_at_247 fk_ln_247 (by decide) dX12_feels_87 hi,
  fun d L x0 x1 w0 w1 h => fk_g_calls [.int x0, .int x1] [w0, w1] rfl lm_12_257 dX12_feels_88 rfl ⟨rfl, by decide⟩ (by simp),
  fun d L st N y l i v hi => fk_g_iast fk_at_268 fk_ln_268 (by decide) dX12_feels_91 hi,
  fun d a1 a2 x st h => fk_w_aloadn 0 [.ref x, a1, a2] dX12_feels_92 rfl,
  fun d L st N y l => fk_g_getC rfl lf_12_75 (by decide) rfl dX12_feels_93 fk_at_246,
  fun d L st h => fk_w_iconst dX12_feels_96 (by decide),
  fun d a1 a2 x st h => fk_w_aloadn 0 [.ref x, a1, a2] dX12_feels_97 rfl,
  fun d a1 a2 x st h => fk_w_aloadn 0 [.ref x, a1, a2] dX12_feels_98 rfl,
  fun d L st N y l => fk_g_getC rfl lf_12_7 (by decide) rfl dX12_feels_99 fk_at_246,
  fun d L st h => fk_w_iconst dX12_feels_102 (by decide),
  fun d a0 a2 x st h => fk_w_iloadn 1 [a0, .int x, a2] dX12_feels_103 rfl,
  fun d L x y st h => fk_r_iadd dX12_feels_104,
  fun d L st N y l i hi => fk_g_iald fk_at_247 fk_ln_247 (by decide) dX12_feels_105 hi,
  fun d L x0 w0 w1 N y l  => fk_g_call [.int x0] [w0, w1] rfl lm_12_135 dX12_feels_106 rfl ⟨rfl, by decide⟩ (by simp) fk_at_246,
  fun d L st N y l i v hi => fk_g_iast fk_at_268 fk_ln_268 (by decide) dX12_feels_109 hi,
  fun d a1 a2 x st h => fk_w_aloadn 0 [.ref x, a1, a2] dX12_feels_110 rfl,
  fun d L st N y l => fk_g_getC rfl lf_12_75 (by decide) rfl dX12_feels_111 fk_at_246,
  fun d L st h => fk_w_bipush dX12_feels_114 (by decide),
  fun d a1 a2 x st h => fk_w_aloadn 0 [.ref x, a1, a2] dX12_feels_116 rfl,
  fun d L st N y l => fk_g_getC rfl lf_12_7 (by decide) rfl dX12_feels_117 fk_at_246,
  fun d L st h => fk_w_sipush dX12_feels_120 (by decide),
  fun d a0 a2 x st h => fk_w_iloadn 1 [a0, .int x, a2] dX12_feels_123 rfl,
  fun d L x y st h => fk_r_iadd dX12_feels_124,
  fun d L st N y l i hi => fk_g_iald fk_at_247 fk_ln_247 (by decide) dX12_feels_125 hi,
  fun d L x0 w0 w1 h => fk_g_calls [.int x0] [w0, w1] rfl lm_12_260 dX12_feels_126 rfl ⟨rfl, by decide⟩ (by simp),
  fun d L st N y l i v hi => fk_g_iast fk_at_268 fk_ln_268 (by decide) dX12_feels_129 hi,
  fun d a1 a2 x st h => fk_w_aloadn 0 [.ref x, a1, a2] dX12_feels_130 rfl,
  fun d L st N y l => fk_g_getC rfl lf_12_75 (by decide) rfl dX12_feels_131 fk_at_246,
  fun d L st h => fk_w_bipush dX12_feels_134 (by decide),
  fun d a1 a2 x st h => fk_w_aloadn 0 [.ref x, a1, a2] dX12_feels_136 rfl,
  fun d L st N y l => fk_g_getC rfl lf_12_7 (by decide) rfl dX12_feels_137 fk_at_246,
  fun d L st h => fk_w_sipush dX12_feels_140 (by decide),
  fun d a0 a2 x st h => fk_w_iloadn 1 [a0, .int x, a2] dX12_feels_143 rfl,
  fun d L x y st h => fk_r_iadd dX12_feels_144,
  fun d L st N y l i hi => fk_g_iald fk_at_247 fk_ln_247 (by decide) dX12_feels_145 hi,
  fun d L st N y l i v hi => fk_g_iast fk_at_268 fk_ln_268 (by decide) dX12_feels_146 hi,
  fun d a1 a2 x st h => fk_w_aloadn 0 [.ref x, a1, a2] dX12_feels_147 rfl,
  fun d L st N y l => fk_g_getC rfl lf_12_75 (by decide) rfl dX12_feels_148 fk_at_246,
  fun d L st h => fk_w_bipush dX12_feels_151 (by decide),
  fun d a1 a2 x st h => fk_w_aloadn 0 [.ref x, a1, a2] dX12_feels_153 rfl,
  fun d L st N y l => fk_g_getC rfl lf_12_7 (by decide) rfl dX12_feels_154 fk_at_246,
  fun d L st h => fk_w_sipush dX12_feels_157 (by decide),
  fun d L st N y l i hi => fk_g_iald fk_at_247 fk_ln_247 (by decide) dX12_feels_160 hi,
  fun d a1 a2 x st h => fk_w_aloadn 0 [.ref x, a1, a2] dX12_feels_161 rfl,
  fun d L st N y l => fk_g_getC rfl lf_12_7 (by decide) rfl dX12_feels_162 fk_at_246,
  fun d L st h => fk_w_sipush dX12_feels_165 (by decide),
  fun d a0 a2 x st h => fk_w_iloadn 1 [a0, .int x, a2] dX12_feels_168 rfl,
  fun d L x y st h => fk_r_iadd dX12_feels_169,
  fun d L st N y l i hi => fk_g_iald fk_at_247 fk_ln_247 (by decide) dX12_feels_170 hi,
  fun d L x y st h => fk_r_isub dX12_feels_171,
  fun d L st N y l i v hi => fk_g_iast fk_at_268 fk_ln_268 (by decide) dX12_feels_172 hi,
  fun d L h => fk_r_vret dX12_feels_173 rfl⟩
theorem hX12_feels_2 : ∀ (d : Nat) (a0 a1 : Value) (x : Int32) (st : List Value) (h : fk_H), fk_ev d qX12_feels 2 [a0, a1, .int x] st h = fk_ev d qX12_feels 3 [a0, a1, .int x] (.int x :: st) h := fun d a0 a1 x st h => fk_w_iloadn 2 [a0, a1, .int x] dX12_feels_2 rfl
theorem dX12_gladlyFor_0 : decode cX12_gladlyFor 0 = .ok (.aload_n 0, 1) := by decide +kernel
theorem dX12_gladlyFor_1 : decode cX12_gladlyFor 1 = .ok (.iload_n 1, 1) := by decide +kernel
theorem dX12_gladlyFor_2 : decode cX12_gladlyFor 2 = .ok (.invokevirtual 263, 3) := by decide +kernel
theorem dX12_gladlyFor_5 : decode cX12_gladlyFor 5 = .ok (.aload_n 0, 1) := by decide +kernel
theorem dX12_gladlyFor_6 : decode cX12_gladlyFor 6 = .ok (.getfield 75, 3) := by decide +kernel
theorem dX12_gladlyFor_9 : decode cX12_gladlyFor 9 = .ok (.bipush 9, 2) := by decide +kernel
theorem dX12_gladlyFor_11 : decode cX12_gladlyFor 11 = .ok (.iload_n 2, 1) := by decide +kernel
theorem dX12_gladlyFor_12 : decode cX12_gladlyFor 12 = .ok (.iastore, 1) := by decide +kernel
theorem dX12_gladlyFor_13 : decode cX12_gladlyFor 13 = .ok (.aload_n 0, 1) := by decide +kernel
theorem dX12_gladlyFor_14 : decode cX12_gladlyFor 14 = .ok (.getfield 75, 3) := by decide +kernel
theorem dX12_gladlyFor_17 : decode cX12_gladlyFor 17 = .ok (.bipush 10, 2) := by decide +kernel
theorem dX12_gladlyFor_19 : decode cX12_gladlyFor 19 = .ok (.aload_n 0, 1) := by decide +kernel
theorem dX12_gladlyFor_20 : decode cX12_gladlyFor 20 = .ok (.getfield 22, 3) := by decide +kernel
theorem dX12_gladlyFor_23 : decode cX12_gladlyFor 23 = .ok (.iload_n 2, 1) := by decide +kernel
theorem dX12_gladlyFor_24 : decode cX12_gladlyFor 24 = .ok (.iaload, 1) := by decide +kernel
theorem dX12_gladlyFor_25 : decode cX12_gladlyFor 25 = .ok (.iastore, 1) := by decide +kernel
theorem dX12_gladlyFor_26 : decode cX12_gladlyFor 26 = .ok (.aload_n 0, 1) := by decide +kernel
theorem dX12_gladlyFor_27 : decode cX12_gladlyFor 27 = .ok (.getfield 75, 3) := by decide +kernel
theorem dX12_gladlyFor_30 : decode cX12_gladlyFor 30 = .ok (.bipush 11, 2) := by decide +kernel
theorem dX12_gladlyFor_32 : decode cX12_gladlyFor 32 = .ok (.aload_n 0, 1) := by decide +kernel
theorem dX12_gladlyFor_33 : decode cX12_gladlyFor 33 = .ok (.getfield 25, 3) := by decide +kernel
theorem dX12_gladlyFor_36 : decode cX12_gladlyFor 36 = .ok (.iload_n 2, 1) := by decide +kernel
theorem dX12_gladlyFor_37 : decode cX12_gladlyFor 37 = .ok (.iaload, 1) := by decide +kernel
theorem dX12_gladlyFor_38 : decode cX12_gladlyFor 38 = .ok (.iastore, 1) := by decide +kernel
theorem dX12_gladlyFor_39 : decode cX12_gladlyFor 39 = .ok (.aload_n 0, 1) := by decide +kernel
theorem dX12_gladlyFor_40 : decode cX12_gladlyFor 40 = .ok (.bipush 99, 2) := by decide +kernel
theorem dX12_gladlyFor_42 : decode cX12_gladlyFor 42 = .ok (.bipush 99, 2) := by decide +kernel
theorem dX12_gladlyFor_44 : decode cX12_gladlyFor 44 = .ok (.invokevirtual 266, 3) := by decide +kernel
theorem dX12_gladlyFor_47 : decode cX12_gladlyFor 47 = .ok (.ireturn, 1) := by decide +kernel
theorem rX12_gladlyFor : (∀ (d : Nat) (a1 a2 : Value) (x : Nat) (st : List Value) (h : fk_H), fk_ev d qX12_gladlyFor 0 [.ref x, a1, a2] st h = fk_ev d qX12_gladlyFor 1 [.ref x, a1, a2] (.ref x :: st) h) ∧
  (∀ (d : Nat) (a0 a2 : Value) (x : Int32) (st : List Value) (h : fk_H), fk_ev d qX12_gladlyFor 1 [a0, .int x, a2] st h = fk_ev d qX12_gladlyFor 2 [a0, .int x, a2] (.int x :: st) h) ∧
  (∀ (d : Nat) (L : List Value) (x0 : Int32)  (N : Nat) (y : Nat → Nat → Int32) (l : Nat → Nat → Int64), fk_ev (d + 1) qX12_gladlyFor 2 L (.int x0 :: .ref 246 :: []) (fk_E N y l) = (fk_ev d qX12_feels 0 [.ref 246, .int x0, .null] [] (fk_E N y l)).bind fun o => fk_ev (d + 1) qX12_gladlyFor 5 L (o.1.toList ++ []) o.2) ∧
  (∀ (d : Nat) (a1 a2 : Value) (x : Nat) (st : List Value) (h : fk_H), fk_ev d qX12_gladlyFor 5 [.ref x, a1, a2] st h = fk_ev d qX12_gladlyFor 6 [.ref x, a1, a2] (.ref x :: st) h) ∧
  (∀ (d : Nat) (L st : List Value) (N : Nat) (y : Nat → Nat → Int32) (l : Nat → Nat → Int64), fk_ev d qX12_gladlyFor 6 L (.ref 246 :: st) (fk_E N y l) = fk_ev d qX12_gladlyFor 9 L (.ref 268 :: st) (fk_E N y l)) ∧
  (∀ (d : Nat) (L st : List Value) (h : fk_H), fk_ev d qX12_gladlyFor 9 L st h = fk_ev d qX12_gladlyFor 11 L (.int (nI 9) :: st) h) ∧
  (∀ (d : Nat) (a0 a1 : Value) (x : Int32) (st : List Value) (h : fk_H), fk_ev d qX12_gladlyFor 11 [a0, a1, .int x] st h = fk_ev d qX12_gladlyFor 12 [a0, a1, .int x] (.int x :: st) h) ∧
  (∀ (d : Nat) (L st : List Value) (N : Nat) (y : Nat → Nat → Int32) (l : Nat → Nat → Int64) (i : Nat) (v : Int32), i < 14 → fk_ev d qX12_gladlyFor 12 L (.int v :: .int (nI i) :: .ref 268 :: st) (fk_E N y l) = fk_ev d qX12_gladlyFor 13 L st (fk_E N (fk_u y 268 i v) l)) ∧
  (∀ (d : Nat) (a1 a2 : Value) (x : Nat) (st : List Value) (h : fk_H), fk_ev d qX12_gladlyFor 13 [.ref x, a1, a2] st h = fk_ev d qX12_gladlyFor 14 [.ref x, a1, a2] (.ref x :: st) h) ∧
  (∀ (d : Nat) (L st : List Value) (N : Nat) (y : Nat → Nat → Int32) (l : Nat → Nat → Int64), fk_ev d qX12_gladlyFor 14 L (.ref 246 :: st) (fk_E N y l) = fk_ev d qX12_gladlyFor 17 L (.ref 268 :: st) (fk_E N y l)) ∧
  (∀ (d : Nat) (L st : List Value) (h : fk_H), fk_ev d qX12_gladlyFor 17 L st h = fk_ev d qX12_gladlyFor 19 L (.int (nI 10) :: st) h) ∧
  (∀ (d : Nat) (a1 a2 : Value) (x : Nat) (st : List Value) (h : fk_H), fk_ev d qX12_gladlyFor 19 [.ref x, a1, a2] st h = fk_ev d qX12_gladlyFor 20 [.ref x, a1, a2] (.ref x :: st) h) ∧
  (∀ (d : Nat) (L st : List Value) (N : Nat) (y : Nat → Nat → Int32) (l : Nat → Nat → Int64), fk_ev d qX12_gladlyFor 20 L (.ref 246 :: st) (fk_E N y l) = fk_ev d qX12_gladlyFor 23 L (.ref 251 :: st) (fk_E N y l)) ∧
  (∀ (d : Nat) (a0 a1 : Value) (x : Int32) (st : List Value) (h : fk_H), fk_ev d qX12_gladlyFor 23 [a0, a1, .int x] st h = fk_ev d qX12_gladlyFor 24 [a0, a1, .int x] (.int x :: st) h) ∧
  (∀ (d : Nat) (L st : List Value) (N : Nat) (y : Nat → Nat → Int32) (l : Nat → Nat → Int64) (i : Nat), i < 32 → fk_ev d qX12_gladlyFor 24 L (.int (nI i) :: .ref 251 :: st) (fk_E N y l) = fk_ev d qX12_gladlyFor 25 L (.int (y 251 i) :: st) (fk_E N y l)) ∧
  (∀ (d : Nat) (L st : List Value) (N : Nat) (y : Nat → Nat → Int32) (l : Nat → Nat → Int64) (i : Nat) (v : Int32), i < 14 → fk_ev d qX12_gladlyFor 25 L (.int v :: .int (nI i) :: .ref 268 :: st) (fk_E N y l) = fk_ev d qX12_gladlyFor 26 L st (fk_E N (fk_u y 268 i v) l)) ∧
  (∀ (d : Nat) (a1 a2 : Value) (x : Nat) (st : List Value) (h : fk_H), fk_ev d qX12_gladlyFor 26 [.ref x, a1, a2] st h = fk_ev d qX12_gladlyFor 27 [.ref x, a1, a2] (.ref x :: st) h) ∧
  (∀ (d : Nat) (L st : List Value) (N : Nat) (y : Nat → Nat → Int32) (l : Nat → Nat → Int64), fk_ev d qX12_gladlyFor 27 L (.ref 246 :: st) (fk_E N y l) = fk_ev d qX12_gladlyFor 30 L (.ref 268 :: st) (fk_E N y l)) ∧
  (∀ (d : Nat) (L st : List Value) (h : fk_H), fk_ev d qX12_gladlyFor 30 L st h = fk_ev d qX12_gladlyFor 32 L (.int (nI 11) :: st) h) ∧
  (∀ (d : Nat) (a1 a2 : Value) (x : Nat) (st : List Value) (h : fk_H), fk_ev d qX12_gladlyFor 32 [.ref x, a1, a2] st h = fk_ev d qX12_gladlyFor 33 [.ref x, a1, a2] (.ref x :: st) h) ∧
  (∀ (d : Nat) (L st : List Value) (N : Nat) (y : Nat → Nat → Int32) (l : Nat → Nat → Int64), fk_ev d qX12_gladlyFor 33 L (.ref 246 :: st) (fk_E N y l) = fk_ev d qX12_gladlyFor 36 L (.ref 252 :: st) (fk_E N y l)) ∧
  (∀ (d : Nat) (a0 a1 : Value) (x : Int32) (st : List Value) (h : fk_H), fk_ev d qX12_gladlyFor 36 [a0, a1, .int x] st h = fk_ev d qX12_gladlyFor 37 [a0, a1, .int x] (.int x :: st) h) ∧
  (∀ (d : Nat) (L st : List Value) (N : Nat) (y : Nat → Nat → Int32) (l : Nat → Nat → Int64) (i : Nat), i < 32 → fk_ev d qX12_gladlyFor 37 L (.int (nI i) :: .ref 252 :: st) (fk_E N y l) = fk_ev d qX12_gladlyFor 38 L (.int (y 252 i) :: st) (fk_E N y l)) ∧
  (∀ (d : Nat) (L st : List Value) (N : Nat) (y : Nat → Nat → Int32) (l : Nat → Nat → Int64) (i : Nat) (v : Int32), i < 14 → fk_ev d qX12_gladlyFor 38 L (.int v :: .int (nI i) :: .ref 268 :: st) (fk_E N y l) = fk_ev d qX12_gladlyFor 39 L st (fk_E N (fk_u y 268 i v) l)) ∧
  (∀ (d : Nat) (a1 a2 : Value) (x : Nat) (st : List Value) (h : fk_H), fk_ev d qX12_gladlyFor 39 [.ref x, a1, a2] st h = fk_ev d qX12_gladlyFor 40 [.ref x, a1, a2] (.ref x :: st) h) ∧
  (∀ (d : Nat) (L st : List Value) (h : fk_H), fk_ev d qX12_gladlyFor 40 L st h = fk_ev d qX12_gladlyFor 42 L (.int (nI 99) :: st) h) ∧
  (∀ (d : Nat) (L st : List Value) (h : fk_H), fk_ev d qX12_gladlyFor 42 L st h = fk_ev d qX12_gladlyFor 44 L (.int (nI 99) :: st) h) ∧
  (∀ (d : Nat) (L : List Value) (x0 : Int32) (x1 : Int32)  (N : Nat) (y : Nat → Nat → Int32) (l : Nat → Nat → Int64), fk_ev (d + 1) qX12_gladlyFor 44 L (.int x1 :: .int x0 :: .ref 246 :: []) (fk_E N y l) = (fk_ev d qX12_byLaw 0 [.ref 246, .int x0, .int x1, .null, .null] [] (fk_E N y l)).bind fun o => fk_ev (d + 1) qX12_gladlyFor 47 L (o.1.toList ++ []) o.2) ∧
  (∀ (d : Nat) (L : List Value) (x : Int32) (h : fk_H), fk_ev d qX12_gladlyFor 47 L [.int x] h = some (some (.int x), h)) := ⟨fun d a1 a2 x st h => fk_w_aloadn 0 [.ref x, a1, a2] dX12_gladlyFor_0 rfl,
  fun d a0 a2 x st h => fk_w_iloadn 1 [a0, .int x, a2] dX12_gladlyFor_1 rfl,
  fun d L x0 N y l  => fk_g_call [.int x0] [] rfl lm_12_263 dX12_gladlyFor_2 rfl ⟨rfl, by decide⟩ (by simp) fk_at_246,
  fun d a1 a2 x st h => fk_w_aloadn 0 [.ref x, a1, a2] dX12_gladlyFor_5 rfl,
  fun d L st N y l => fk_g_getC rfl lf_12_75 (by decide) rfl dX12_gladlyFor_6 fk_at_246,
  fun d L st h => fk_w_bipush dX12_gladlyFor_9 (by decide),
  fun d a0 a1 x st h => fk_w_iloadn 2 [a0, a1, .int x] dX12_gladlyFor_11 rfl,
  fun d L st N y l i v hi => fk_g_iast fk_at_268 fk_ln_268 (by decide) dX12_gladlyFor_12 hi,
  fun d a1 a2 x st h => fk_w_aloadn 0 [.ref x, a1, a2] dX12_gladlyFor_13 rfl,
  fun d L st N y l => fk_g_getC rfl lf_12_75 (by decide) rfl dX12_gladlyFor_14 fk_at_246,
  fun d L st h => fk_w_bipush dX12_gladlyFor_17 (by decide),
  fun d a1 a2 x st h => fk_w_aloadn 0 [.ref x, a1, a2] dX12_gladlyFor_19 rfl,
  fun d L st N y l => fk_g_getC rfl lf_12_22 (by decide) rfl dX12_gladlyFor_20 fk_at_246,
  fun d a0 a1 x st h => fk_w_iloadn 2 [a0, a1, .int x] dX12_gladlyFor_23 rfl,
  fun d L st N y l i hi => fk_g_iald fk_at_251 fk_ln_251 (by decide) dX12_gladlyFor_24 hi,
  fun d L st N y l i v hi => fk_g_iast fk_at_268 fk_ln_268 (by decide) dX12_gladlyFor_25 hi,
  fun d a1 a2 x st h => fk_w_aloadn 0 [.ref x, a1, a2] dX12_gladlyFor_26 rfl,
  fun d L st N y l => fk_g_getC rfl lf_12_75 (by decide) rfl dX12_gladlyFor_27 fk_at_246,
  fun d L st h => fk_w_bipush dX12_gladlyFor_30 (by decide),
  fun d a1 a2 x st h => fk_w_aloadn 0 [.ref x, a1, a2] dX12_gladlyFor_32 rfl,
  fun d L st N y l => fk_g_getC rfl lf_12_25 (by decide) rfl dX12_gladlyFor_33 fk_at_246,
  fun d a0 a1 x st h => fk_w_iloadn 2 [a0, a1, .int x] dX12_gladlyFor_36 rfl,
  fun d L st N y l i hi => fk_g_iald fk_at_252 fk_ln_252 (by decide) dX12_gladlyFor_37 hi,
  fun d L st N y l i v hi => fk_g_iast fk_at_268 fk_ln_268 (by decide) dX12_gladlyFor_38 hi,
  fun d a1 a2 x st h => fk_w_aloadn 0 [.ref x, a1, a2] dX12_gladlyFor_39 rfl,
  fun d L st h => fk_w_bipush dX12_gladlyFor_40 (by decide),
  fun d L st h => fk_w_bipush dX12_gladlyFor_42 (by decide),
  fun d L x0 x1 N y l  => fk_g_call [.int x0, .int x1] [] rfl lm_12_266 dX12_gladlyFor_44 rfl ⟨rfl, by decide⟩ (by simp) fk_at_246,
  fun d L x h => fk_r_ret dX12_gladlyFor_47 (Or.inl rfl)⟩
theorem dX12_remembers_0 : decode cX12_remembers 0 = .ok (.sipush 840, 3) := by decide +kernel
theorem dX12_remembers_3 : decode cX12_remembers 3 = .ok (.bipush 64, 2) := by decide +kernel
theorem dX12_remembers_5 : decode cX12_remembers 5 = .ok (.aload_n 0, 1) := by decide +kernel
theorem dX12_remembers_6 : decode cX12_remembers 6 = .ok (.getfield 7, 3) := by decide +kernel
theorem dX12_remembers_9 : decode cX12_remembers 9 = .ok (.sipush 832, 3) := by decide +kernel
theorem dX12_remembers_12 : decode cX12_remembers 12 = .ok (.iaload, 1) := by decide +kernel
theorem dX12_remembers_13 : decode cX12_remembers 13 = .ok (.bipush 48, 2) := by decide +kernel
theorem dX12_remembers_15 : decode cX12_remembers 15 = .ok (.irem, 1) := by decide +kernel
theorem dX12_remembers_16 : decode cX12_remembers 16 = .ok (.imul, 1) := by decide +kernel
theorem dX12_remembers_17 : decode cX12_remembers 17 = .ok (.iadd, 1) := by decide +kernel
theorem dX12_remembers_18 : decode cX12_remembers 18 = .ok (.istore_n 1, 1) := by decide +kernel
theorem dX12_remembers_19 : decode cX12_remembers 19 = .ok (.iconst 0, 1) := by decide +kernel
theorem dX12_remembers_20 : decode cX12_remembers 20 = .ok (.istore_n 2, 1) := by decide +kernel
theorem dX12_remembers_21 : decode cX12_remembers 21 = .ok (.iload_n 2, 1) := by decide +kernel
theorem dX12_remembers_22 : decode cX12_remembers 22 = .ok (.bipush 64, 2) := by decide +kernel
theorem dX12_remembers_24 : decode cX12_remembers 24 = .ok (.if_icmp .ge 52, 3) := by decide +kernel
theorem dX12_remembers_27 : decode cX12_remembers 27 = .ok (.aload_n 0, 1) := by decide +kernel
theorem dX12_remembers_28 : decode cX12_remembers 28 = .ok (.getfield 7, 3) := by decide +kernel
theorem dX12_remembers_31 : decode cX12_remembers 31 = .ok (.iload_n 1, 1) := by decide +kernel
theorem dX12_remembers_32 : decode cX12_remembers 32 = .ok (.iload_n 2, 1) := by decide +kernel
theorem dX12_remembers_33 : decode cX12_remembers 33 = .ok (.iadd, 1) := by decide +kernel
theorem dX12_remembers_34 : decode cX12_remembers 34 = .ok (.iload_n 2, 1) := by decide +kernel
theorem dX12_remembers_35 : decode cX12_remembers 35 = .ok (.aload_n 0, 1) := by decide +kernel
theorem dX12_remembers_36 : decode cX12_remembers 36 = .ok (.getfield 7, 3) := by decide +kernel
theorem dX12_remembers_39 : decode cX12_remembers 39 = .ok (.sipush 833, 3) := by decide +kernel
theorem dX12_remembers_42 : decode cX12_remembers 42 = .ok (.iaload, 1) := by decide +kernel
theorem dX12_remembers_43 : decode cX12_remembers 43 = .ok (.if_icmp .ge 24, 3) := by decide +kernel
theorem dX12_remembers_46 : decode cX12_remembers 46 = .ok (.aload_n 0, 1) := by decide +kernel
theorem dX12_remembers_47 : decode cX12_remembers 47 = .ok (.iload_n 2, 1) := by decide +kernel
theorem dX12_remembers_48 : decode cX12_remembers 48 = .ok (.invokevirtual 269, 3) := by decide +kernel
theorem dX12_remembers_51 : decode cX12_remembers 51 = .ok (.ifCond .eq 16, 3) := by decide +kernel
theorem dX12_remembers_54 : decode cX12_remembers 54 = .ok (.aload_n 0, 1) := by decide +kernel
theorem dX12_remembers_55 : decode cX12_remembers 55 = .ok (.getfield 7, 3) := by decide +kernel
theorem dX12_remembers_58 : decode cX12_remembers 58 = .ok (.sipush 320, 3) := by decide +kernel
theorem dX12_remembers_61 : decode cX12_remembers 61 = .ok (.iload_n 2, 1) := by decide +kernel
theorem dX12_remembers_62 : decode cX12_remembers 62 = .ok (.iadd, 1) := by decide +kernel
theorem dX12_remembers_63 : decode cX12_remembers 63 = .ok (.iaload, 1) := by decide +kernel
theorem dX12_remembers_64 : decode cX12_remembers 64 = .ok (.goto 5, 3) := by decide +kernel
theorem dX12_remembers_67 : decode cX12_remembers 67 = .ok (.bipush (-2), 2) := by decide +kernel
theorem dX12_remembers_69 : decode cX12_remembers 69 = .ok (.iastore, 1) := by decide +kernel
theorem dX12_remembers_70 : decode cX12_remembers 70 = .ok (.iinc 2 1, 3) := by decide +kernel
theorem dX12_remembers_73 : decode cX12_remembers 73 = .ok (.goto (-52), 3) := by decide +kernel
theorem dX12_remembers_76 : decode cX12_remembers 76 = .ok (.return_, 1) := by decide +kernel
theorem rX12_remembers : (∀ (d : Nat) (L st : List Value) (h : fk_H), fk_ev d qX12_remembers 0 L st h = fk_ev d qX12_remembers 3 L (.int (nI 840) :: st) h) ∧
  (∀ (d : Nat) (L st : List Value) (h : fk_H), fk_ev d qX12_remembers 3 L st h = fk_ev d qX12_remembers 5 L (.int (nI 64) :: st) h) ∧
  (∀ (d : Nat) (a1 a2 : Value) (x : Nat) (st : List Value) (h : fk_H), fk_ev d qX12_remembers 5 [.ref x, a1, a2] st h = fk_ev d qX12_remembers 6 [.ref x, a1, a2] (.ref x :: st) h) ∧
  (∀ (d : Nat) (L st : List Value) (N : Nat) (y : Nat → Nat → Int32) (l : Nat → Nat → Int64), fk_ev d qX12_remembers 6 L (.ref 246 :: st) (fk_E N y l) = fk_ev d qX12_remembers 9 L (.ref 247 :: st) (fk_E N y l)) ∧
  (∀ (d : Nat) (L st : List Value) (h : fk_H), fk_ev d qX12_remembers 9 L st h = fk_ev d qX12_remembers 12 L (.int (nI 832) :: st) h) ∧
  (∀ (d : Nat) (L st : List Value) (N : Nat) (y : Nat → Nat → Int32) (l : Nat → Nat → Int64) (i : Nat), i < 3912 → fk_ev d qX12_remembers 12 L (.int (nI i) :: .ref 247 :: st) (fk_E N y l) = fk_ev d qX12_remembers 13 L (.int (y 247 i) :: st) (fk_E N y l)) ∧
  (∀ (d : Nat) (L st : List Value) (h : fk_H), fk_ev d qX12_remembers 13 L st h = fk_ev d qX12_remembers 15 L (.int (nI 48) :: st) h) ∧
  (∀ (d : Nat) (L : List Value) (x y : Int32) (st : List Value) (h : fk_H), fk_ev d qX12_remembers 15 L (.int y :: .int x :: st) h = if y = 0 then none else fk_ev d qX12_remembers 16 L (.int (x - x / y * y) :: st) h) ∧
  (∀ (d : Nat) (L : List Value) (x y : Int32) (st : List Value) (h : fk_H), fk_ev d qX12_remembers 16 L (.int y :: .int x :: st) h = fk_ev d qX12_remembers 17 L (.int (x * y) :: st) h) ∧
  (∀ (d : Nat) (L : List Value) (x y : Int32) (st : List Value) (h : fk_H), fk_ev d qX12_remembers 17 L (.int y :: .int x :: st) h = fk_ev d qX12_remembers 18 L (.int (x + y) :: st) h) ∧
  (∀ (d : Nat) (a0 a1 a2 : Value) (x : Int32) (st : List Value) (h : fk_H), fk_ev d qX12_remembers 18 [a0, a1, a2] (.int x :: st) h = fk_ev d qX12_remembers 19 [a0, .int x, a2] st h) ∧
  (∀ (d : Nat) (L st : List Value) (h : fk_H), fk_ev d qX12_remembers 19 L st h = fk_ev d qX12_remembers 20 L (.int (nI 0) :: st) h) ∧
  (∀ (d : Nat) (a0 a1 a2 : Value) (x : Int32) (st : List Value) (h : fk_H), fk_ev d qX12_remembers 20 [a0, a1, a2] (.int x :: st) h = fk_ev d qX12_remembers 21 [a0, a1, .int x] st h) ∧
  (∀ (d : Nat) (L st : List Value) (h : fk_H), fk_ev d qX12_remembers 22 L st h = fk_ev d qX12_remembers 24 L (.int (nI 64) :: st) h) ∧
  (∀ (d : Nat) (L : List Value) (x y : Int32) (st : List Value) (h : fk_H), fk_ev d qX12_remembers 24 L (.int y :: .int x :: st) h = if y ≤ x then fk_ev d qX12_remembers 76 L st h else fk_ev d qX12_remembers 27 L st h) ∧
  (∀ (d : Nat) (a1 a2 : Value) (x : Nat) (st : List Value) (h : fk_H), fk_ev d qX12_remembers 27 [.ref x, a1, a2] st h = fk_ev d qX12_remembers 28 [.ref x, a1, a2] (.ref x :: st) h) ∧
  (∀ (d : Nat) (L st : List Value) (N : Nat) (y : Nat → Nat → Int32) (l : Nat → Nat → Int64), fk_ev d qX12_remembers 28 L (.ref 246 :: st) (fk_E N y l) = fk_ev d qX12_remembers 31 L (.ref 247 :: st) (fk_E N y l)) ∧
  (∀ (d : Nat) (a0 a2 : Value) (x : Int32) (st : List Value) (h : fk_H), fk_ev d qX12_remembers 31 [a0, .int x, a2] st h = fk_ev d qX12_remembers 32 [a0, .int x, a2] (.int x :: st) h) ∧
  (∀ (d : Nat) (a0 a1 : Value) (x : Int32) (st : List Value) (h : fk_H), fk_ev d qX12_remembers 32 [a0, a1, .int x] st h = fk_ev d qX12_remembers 33 [a0, a1, .int x] (.int x :: st) h) ∧
  (∀ (d : Nat) (L : List Value) (x y : Int32) (st : List Value) (h : fk_H), fk_ev d qX12_remembers 33 L (.int y :: .int x :: st) h = fk_ev d qX12_remembers 34 L (.int (x + y) :: st) h) ∧
  (∀ (d : Nat) (a0 a1 : Value) (x : Int32) (st : List Value) (h : fk_H), fk_ev d qX12_remembers 34 [a0, a1, .int x] st h = fk_ev d qX12_remembers 35 [a0, a1, .int x] (.int x :: st) h) ∧
  (∀ (d : Nat) (a1 a2 : Value) (x : Nat) (st : List Value) (h : fk_H), fk_ev d qX12_remembers 35 [.ref x, a1, a2] st h = fk_ev d qX12_remembers 36 [.ref x, a1, a2] (.ref x :: st) h) ∧
  (∀ (d : Nat) (L st : List Value) (N : Nat) (y : Nat → Nat → Int32) (l : Nat → Nat → Int64), fk_ev d qX12_remembers 36 L (.ref 246 :: st) (fk_E N y l) = fk_ev d qX12_remembers 39 L (.ref 247 :: st) (fk_E N y l)) ∧
  (∀ (d : Nat) (L st : List Value) (h : fk_H), fk_ev d qX12_remembers 39 L st h = fk_ev d qX12_remembers 42 L (.int (nI 833) :: st) h) ∧
  (∀ (d : Nat) (L st : List Value) (N : Nat) (y : Nat → Nat → Int32) (l : Nat → Nat → Int64) (i : Nat), i < 3912 → fk_ev d qX12_remembers 42 L (.int (nI i) :: .ref 247 :: st) (fk_E N y l) = fk_ev d qX12_remembers 43 L (.int (y 247 i) :: st) (fk_E N y l)) ∧
  (∀ (d : Nat) (L : List Value) (x y : Int32) (st : List Value) (h : fk_H), fk_ev d qX12_remembers 43 L (.int y :: .int x :: st) h = if y ≤ x then fk_ev d qX12_remembers 67 L st h else fk_ev d qX12_remembers 46 L st h) ∧
  (∀ (d : Nat) (a1 a2 : Value) (x : Nat) (st : List Value) (h : fk_H), fk_ev d qX12_remembers 46 [.ref x, a1, a2] st h = fk_ev d qX12_remembers 47 [.ref x, a1, a2] (.ref x :: st) h) ∧
  (∀ (d : Nat) (a0 a1 : Value) (x : Int32) (st : List Value) (h : fk_H), fk_ev d qX12_remembers 47 [a0, a1, .int x] st h = fk_ev d qX12_remembers 48 [a0, a1, .int x] (.int x :: st) h) ∧
  (∀ (d : Nat) (L : List Value) (x0 : Int32) (w0 w1 : Value) (N : Nat) (y : Nat → Nat → Int32) (l : Nat → Nat → Int64), fk_ev (d + 1) qX12_remembers 48 L (.int x0 :: .ref 246 :: [w0, w1]) (fk_E N y l) = (fk_ev d qX12_isAt 0 [.ref 246, .int x0] [] (fk_E N y l)).bind fun o => fk_ev (d + 1) qX12_remembers 51 L (o.1.toList ++ [w0, w1]) o.2) ∧
  (∀ (d : Nat) (L : List Value) (x : Int32) (st : List Value) (h : fk_H), fk_ev d qX12_remembers 51 L (.int x :: st) h = if x = nI 0 then fk_ev d qX12_remembers 67 L st h else fk_ev d qX12_remembers 54 L st h) ∧
  (∀ (d : Nat) (a1 a2 : Value) (x : Nat) (st : List Value) (h : fk_H), fk_ev d qX12_remembers 54 [.ref x, a1, a2] st h = fk_ev d qX12_remembers 55 [.ref x, a1, a2] (.ref x :: st) h) ∧
  (∀ (d : Nat) (L st : List Value) (N : Nat) (y : Nat → Nat → Int32) (l : Nat → Nat → Int64), fk_ev d qX12_remembers 55 L (.ref 246 :: st) (fk_E N y l) = fk_ev d qX12_remembers 58 L (.ref 247 :: st) (fk_E N y l)) ∧
  (∀ (d : Nat) (L st : List Value) (h : fk_H), fk_ev d qX12_remembers 58 L st h = fk_ev d qX12_remembers 61 L (.int (nI 320) :: st) h) ∧
  (∀ (d : Nat) (a0 a1 : Value) (x : Int32) (st : List Value) (h : fk_H), fk_ev d qX12_remembers 61 [a0, a1, .int x] st h = fk_ev d qX12_remembers 62 [a0, a1, .int x] (.int x :: st) h) ∧
  (∀ (d : Nat) (L : List Value) (x y : Int32) (st : List Value) (h : fk_H), fk_ev d qX12_remembers 62 L (.int y :: .int x :: st) h = fk_ev d qX12_remembers 63 L (.int (x + y) :: st) h) ∧
  (∀ (d : Nat) (L st : List Value) (N : Nat) (y : Nat → Nat → Int32) (l : Nat → Nat → Int64) (i : Nat), i < 3912 → fk_ev d qX12_remembers 63 L (.int (nI i) :: .ref 247 :: st) (fk_E N y l) = fk_ev d qX12_remembers 64 L (.int (y 247 i) :: st) (fk_E N y l)) ∧
  (∀ (d : Nat) (L st : List Value) (h : fk_H), fk_ev d qX12_remembers 64 L st h = fk_ev d qX12_remembers 69 L st h) ∧
  (∀ (d : Nat) (L st : List Value) (h : fk_H), fk_ev d qX12_remembers 67 L st h = fk_ev d qX12_remembers 69 L (.int ((-2 : Int32)) :: st) h) ∧
  (∀ (d : Nat) (L st : List Value) (N : Nat) (y : Nat → Nat → Int32) (l : Nat → Nat → Int64) (i : Nat) (v : Int32), i < 3912 → fk_ev d qX12_remembers 69 L (.int v :: .int (nI i) :: .ref 247 :: st) (fk_E N y l) = fk_ev d qX12_remembers 70 L st (fk_E N (fk_u y 247 i v) l)) ∧
  (∀ (d : Nat) (a0 a1 : Value) (x : Int32) (st : List Value) (h : fk_H), fk_ev d qX12_remembers 70 [a0, a1, .int x] st h = fk_ev d qX12_remembers 73 [a0, a1, .int (x + nI 1)] st h) ∧
  (∀ (d : Nat) (L st : List Value) (h : fk_H), fk_ev d qX12_remembers 73 L st h = fk_ev d qX12_remembers 21 L st h) ∧
  (∀ (d : Nat) (L : List Value) (h : fk_H), fk_ev d qX12_remembers 76 L [] h = some (none, h)) := ⟨fun d L st h => fk_w_sipush dX12_remembers_0 (by decide),
  fun d L st h => fk_w_bipush dX12_remembers_3 (by decide),
  fun d a1 a2 x st h => fk_w_aloadn 0 [.ref x, a1, a2] dX12_remembers_5 rfl,
  fun d L st N y l => fk_g_getC rfl lf_12_7 (by decide) rfl dX12_remembers_6 fk_at_246,
  fun d L st h => fk_w_sipush dX12_remembers_9 (by decide),
  fun d L st N y l i hi => fk_g_iald fk_at_247 fk_ln_247 (by decide) dX12_remembers_12 hi,
  fun d L st h => fk_w_bipush dX12_remembers_13 (by decide),
  fun d L x y st h => fk_r_irem dX12_remembers_15,
  fun d L x y st h => fk_r_imul dX12_remembers_16,
  fun d L x y st h => fk_r_iadd dX12_remembers_17,
  fun d a0 a1 a2 x st h => fk_w_istoren 1 3 [] [a0, a1, a2] [a0, .int x, a2] dX12_remembers_18 rfl rfl (by decide) rfl,
  fun d L st h => fk_w_iconst dX12_remembers_19 (by decide),
  fun d a0 a1 a2 x st h => fk_w_istoren 2 3 [] [a0, a1, a2] [a0, a1, .int x] dX12_remembers_20 rfl rfl (by decide) rfl,
  fun d L st h => fk_w_bipush dX12_remembers_22 (by decide),
  fun d L x y st h => fk_r_icmp_ge dX12_remembers_24 (by decide),
  fun d a1 a2 x st h => fk_w_aloadn 0 [.ref x, a1, a2] dX12_remembers_27 rfl,
  fun d L st N y l => fk_g_getC rfl lf_12_7 (by decide) rfl dX12_remembers_28 fk_at_246,
  fun d a0 a2 x st h => fk_w_iloadn 1 [a0, .int x, a2] dX12_remembers_31 rfl,
  fun d a0 a1 x st h => fk_w_iloadn 2 [a0, a1, .int x] dX12_remembers_32 rfl,
  fun d L x y st h => fk_r_iadd dX12_remembers_33,
  fun d a0 a1 x st h => fk_w_iloadn 2 [a0, a1, .int x] dX12_remembers_34 rfl,
  fun d a1 a2 x st h => fk_w_aloadn 0 [.ref x, a1, a2] dX12_remembers_35 rfl,
  fun d L st N y l => fk_g_getC rfl lf_12_7 (by decide) rfl dX12_remembers_36 fk_at_246,
  fun d L st h => fk_w_sipush dX12_remembers_39 (by decide),
  fun d L st N y l i hi => fk_g_iald fk_at_247 fk_ln_247 (by decide) dX12_remembers_42 hi,
  fun d L x y st h => fk_r_icmp_ge dX12_remembers_43 (by decide),
  fun d a1 a2 x st h => fk_w_aloadn 0 [.ref x, a1, a2] dX12_remembers_46 rfl,
  fun d a0 a1 x st h => fk_w_iloadn 2 [a0, a1, .int x] dX12_remembers_47 rfl,
  fun d L x0 w0 w1 N y l  => fk_g_call [.int x0] [w0, w1] rfl lm_12_269 dX12_remembers_48 rfl ⟨rfl, by decide⟩ (by simp) fk_at_246,
  fun d L x st h => fk_r_if_eq dX12_remembers_51 (by decide),
  fun d a1 a2 x st h => fk_w_aloadn 0 [.ref x, a1, a2] dX12_remembers_54 rfl,
  fun d L st N y l => fk_g_getC rfl lf_12_7 (by decide) rfl dX12_remembers_55 fk_at_246,
  fun d L st h => fk_w_sipush dX12_remembers_58 (by decide),
  fun d a0 a1 x st h => fk_w_iloadn 2 [a0, a1, .int x] dX12_remembers_61 rfl,
  fun d L x y st h => fk_r_iadd dX12_remembers_62,
  fun d L st N y l i hi => fk_g_iald fk_at_247 fk_ln_247 (by decide) dX12_remembers_63 hi,
  fun d L st h => fk_r_goto dX12_remembers_64 (by decide),
  fun d L st h => fk_w_bipush dX12_remembers_67 (by decide),
  fun d L st N y l i v hi => fk_g_iast fk_at_247 fk_ln_247 (by decide) dX12_remembers_69 hi,
  fun d a0 a1 x st h => fk_w_iinc 2 3 (1) [] [a0, a1, .int x] [a0, a1, .int (x + nI 1)] dX12_remembers_70 rfl rfl rfl (by decide) rfl,
  fun d L st h => fk_r_goto dX12_remembers_73 (by decide),
  fun d L h => fk_r_vret dX12_remembers_76 rfl⟩
theorem hX12_remembers_21 : ∀ (d : Nat) (a0 a1 : Value) (x : Int32) (st : List Value) (h : fk_H), fk_ev d qX12_remembers 21 [a0, a1, .int x] st h = fk_ev d qX12_remembers 22 [a0, a1, .int x] (.int x :: st) h := fun d a0 a1 x st h => fk_w_iloadn 2 [a0, a1, .int x] dX12_remembers_21 rfl
theorem dX12_goesOn_0 : decode cX12_goesOn 0 = .ok (.aload_n 0, 1) := by decide +kernel
theorem dX12_goesOn_1 : decode cX12_goesOn 1 = .ok (.getfield 7, 3) := by decide +kernel
theorem dX12_goesOn_4 : decode cX12_goesOn 4 = .ok (.sipush 448, 3) := by decide +kernel
theorem dX12_goesOn_7 : decode cX12_goesOn 7 = .ok (.iload_n 1, 1) := by decide +kernel
theorem dX12_goesOn_8 : decode cX12_goesOn 8 = .ok (.iadd, 1) := by decide +kernel
theorem dX12_goesOn_9 : decode cX12_goesOn 9 = .ok (.aload_n 0, 1) := by decide +kernel
theorem dX12_goesOn_10 : decode cX12_goesOn 10 = .ok (.getfield 7, 3) := by decide +kernel
theorem dX12_goesOn_13 : decode cX12_goesOn 13 = .ok (.sipush 448, 3) := by decide +kernel
theorem dX12_goesOn_16 : decode cX12_goesOn 16 = .ok (.iload_n 1, 1) := by decide +kernel
theorem dX12_goesOn_17 : decode cX12_goesOn 17 = .ok (.iadd, 1) := by decide +kernel
theorem dX12_goesOn_18 : decode cX12_goesOn 18 = .ok (.iaload, 1) := by decide +kernel
theorem dX12_goesOn_19 : decode cX12_goesOn 19 = .ok (.iconst 1, 1) := by decide +kernel
theorem dX12_goesOn_20 : decode cX12_goesOn 20 = .ok (.isub, 1) := by decide +kernel
theorem dX12_goesOn_21 : decode cX12_goesOn 21 = .ok (.iastore, 1) := by decide +kernel
theorem dX12_goesOn_22 : decode cX12_goesOn 22 = .ok (.aload_n 0, 1) := by decide +kernel
theorem dX12_goesOn_23 : decode cX12_goesOn 23 = .ok (.getfield 7, 3) := by decide +kernel
theorem dX12_goesOn_26 : decode cX12_goesOn 26 = .ok (.sipush 448, 3) := by decide +kernel
theorem dX12_goesOn_29 : decode cX12_goesOn 29 = .ok (.iload_n 1, 1) := by decide +kernel
theorem dX12_goesOn_30 : decode cX12_goesOn 30 = .ok (.iadd, 1) := by decide +kernel
theorem dX12_goesOn_31 : decode cX12_goesOn 31 = .ok (.iaload, 1) := by decide +kernel
theorem dX12_goesOn_32 : decode cX12_goesOn 32 = .ok (.ifCond .le 4, 3) := by decide +kernel
theorem dX12_goesOn_35 : decode cX12_goesOn 35 = .ok (.return_, 1) := by decide +kernel
theorem dX12_goesOn_36 : decode cX12_goesOn 36 = .ok (.aload_n 0, 1) := by decide +kernel
theorem dX12_goesOn_37 : decode cX12_goesOn 37 = .ok (.getfield 7, 3) := by decide +kernel
theorem dX12_goesOn_40 : decode cX12_goesOn 40 = .ok (.sipush 320, 3) := by decide +kernel
theorem dX12_goesOn_43 : decode cX12_goesOn 43 = .ok (.iload_n 1, 1) := by decide +kernel
theorem dX12_goesOn_44 : decode cX12_goesOn 44 = .ok (.iadd, 1) := by decide +kernel
theorem dX12_goesOn_45 : decode cX12_goesOn 45 = .ok (.aload_n 0, 1) := by decide +kernel
theorem dX12_goesOn_46 : decode cX12_goesOn 46 = .ok (.getfield 22, 3) := by decide +kernel
theorem dX12_goesOn_49 : decode cX12_goesOn 49 = .ok (.aload_n 0, 1) := by decide +kernel
theorem dX12_goesOn_50 : decode cX12_goesOn 50 = .ok (.getfield 7, 3) := by decide +kernel
theorem dX12_goesOn_53 : decode cX12_goesOn 53 = .ok (.sipush 384, 3) := by decide +kernel
theorem dX12_goesOn_56 : decode cX12_goesOn 56 = .ok (.iload_n 1, 1) := by decide +kernel
theorem dX12_goesOn_57 : decode cX12_goesOn 57 = .ok (.iadd, 1) := by decide +kernel
theorem dX12_goesOn_58 : decode cX12_goesOn 58 = .ok (.iaload, 1) := by decide +kernel
theorem dX12_goesOn_59 : decode cX12_goesOn 59 = .ok (.iaload, 1) := by decide +kernel
theorem dX12_goesOn_60 : decode cX12_goesOn 60 = .ok (.iastore, 1) := by decide +kernel
theorem dX12_goesOn_61 : decode cX12_goesOn 61 = .ok (.aload_n 0, 1) := by decide +kernel
theorem dX12_goesOn_62 : decode cX12_goesOn 62 = .ok (.getfield 7, 3) := by decide +kernel
theorem dX12_goesOn_65 : decode cX12_goesOn 65 = .ok (.sipush 384, 3) := by decide +kernel
theorem dX12_goesOn_68 : decode cX12_goesOn 68 = .ok (.iload_n 1, 1) := by decide +kernel
theorem dX12_goesOn_69 : decode cX12_goesOn 69 = .ok (.iadd, 1) := by decide +kernel
theorem dX12_goesOn_70 : decode cX12_goesOn 70 = .ok (.bipush (-2), 2) := by decide +kernel
theorem dX12_goesOn_72 : decode cX12_goesOn 72 = .ok (.iastore, 1) := by decide +kernel
theorem dX12_goesOn_73 : decode cX12_goesOn 73 = .ok (.aload_n 0, 1) := by decide +kernel
theorem dX12_goesOn_74 : decode cX12_goesOn 74 = .ok (.getfield 78, 3) := by decide +kernel
theorem dX12_goesOn_77 : decode cX12_goesOn 77 = .ok (.iload_n 1, 1) := by decide +kernel
theorem dX12_goesOn_78 : decode cX12_goesOn 78 = .ok (.iconst 1, 1) := by decide +kernel
theorem dX12_goesOn_79 : decode cX12_goesOn 79 = .ok (.bastore, 1) := by decide +kernel
theorem dX12_goesOn_80 : decode cX12_goesOn 80 = .ok (.aload_n 0, 1) := by decide +kernel
theorem dX12_goesOn_81 : decode cX12_goesOn 81 = .ok (.getfield 7, 3) := by decide +kernel
theorem dX12_goesOn_84 : decode cX12_goesOn 84 = .ok (.iconst 0, 1) := by decide +kernel
theorem dX12_goesOn_85 : decode cX12_goesOn 85 = .ok (.iload_n 1, 1) := by decide +kernel
theorem dX12_goesOn_86 : decode cX12_goesOn 86 = .ok (.iadd, 1) := by decide +kernel
theorem dX12_goesOn_87 : decode cX12_goesOn 87 = .ok (.iaload, 1) := by decide +kernel
theorem dX12_goesOn_88 : decode cX12_goesOn 88 = .ok (.aload_n 0, 1) := by decide +kernel
theorem dX12_goesOn_89 : decode cX12_goesOn 89 = .ok (.getfield 97, 3) := by decide +kernel
theorem dX12_goesOn_92 : decode cX12_goesOn 92 = .ok (.if_icmp .ne 24, 3) := by decide +kernel
theorem dX12_goesOn_95 : decode cX12_goesOn 95 = .ok (.aload_n 0, 1) := by decide +kernel
theorem dX12_goesOn_96 : decode cX12_goesOn 96 = .ok (.aload_n 0, 1) := by decide +kernel
theorem dX12_goesOn_97 : decode cX12_goesOn 97 = .ok (.getfield 272, 3) := by decide +kernel
theorem dX12_goesOn_100 : decode cX12_goesOn 100 = .ok (.iconst 1, 1) := by decide +kernel
theorem dX12_goesOn_101 : decode cX12_goesOn 101 = .ok (.aload_n 0, 1) := by decide +kernel
theorem dX12_goesOn_102 : decode cX12_goesOn 102 = .ok (.getfield 7, 3) := by decide +kernel
theorem dX12_goesOn_105 : decode cX12_goesOn 105 = .ok (.sipush 320, 3) := by decide +kernel
theorem dX12_goesOn_108 : decode cX12_goesOn 108 = .ok (.iload_n 1, 1) := by decide +kernel
theorem dX12_goesOn_109 : decode cX12_goesOn 109 = .ok (.iadd, 1) := by decide +kernel
theorem dX12_goesOn_110 : decode cX12_goesOn 110 = .ok (.iaload, 1) := by decide +kernel
theorem dX12_goesOn_111 : decode cX12_goesOn 111 = .ok (.ishl, 1) := by decide +kernel
theorem dX12_goesOn_112 : decode cX12_goesOn 112 = .ok (.ior, 1) := by decide +kernel
theorem dX12_goesOn_113 : decode cX12_goesOn 113 = .ok (.putfield 272, 3) := by decide +kernel
theorem dX12_goesOn_116 : decode cX12_goesOn 116 = .ok (.return_, 1) := by decide +kernel
theorem rX12_goesOn : (∀ (d : Nat) (a1 : Value) (x : Nat) (st : List Value) (h : fk_H), fk_ev d qX12_goesOn 0 [.ref x, a1] st h = fk_ev d qX12_goesOn 1 [.ref x, a1] (.ref x :: st) h) ∧
  (∀ (d : Nat) (L st : List Value) (N : Nat) (y : Nat → Nat → Int32) (l : Nat → Nat → Int64), fk_ev d qX12_goesOn 1 L (.ref 246 :: st) (fk_E N y l) = fk_ev d qX12_goesOn 4 L (.ref 247 :: st) (fk_E N y l)) ∧
  (∀ (d : Nat) (L st : List Value) (h : fk_H), fk_ev d qX12_goesOn 4 L st h = fk_ev d qX12_goesOn 7 L (.int (nI 448) :: st) h) ∧
  (∀ (d : Nat) (a0 : Value) (x : Int32) (st : List Value) (h : fk_H), fk_ev d qX12_goesOn 7 [a0, .int x] st h = fk_ev d qX12_goesOn 8 [a0, .int x] (.int x :: st) h) ∧
  (∀ (d : Nat) (L : List Value) (x y : Int32) (st : List Value) (h : fk_H), fk_ev d qX12_goesOn 8 L (.int y :: .int x :: st) h = fk_ev d qX12_goesOn 9 L (.int (x + y) :: st) h) ∧
  (∀ (d : Nat) (a1 : Value) (x : Nat) (st : List Value) (h : fk_H), fk_ev d qX12_goesOn 9 [.ref x, a1] st h = fk_ev d qX12_goesOn 10 [.ref x, a1] (.ref x :: st) h) ∧
  (∀ (d : Nat) (L st : List Value) (N : Nat) (y : Nat → Nat → Int32) (l : Nat → Nat → Int64), fk_ev d qX12_goesOn 10 L (.ref 246 :: st) (fk_E N y l) = fk_ev d qX12_goesOn 13 L (.ref 247 :: st) (fk_E N y l)) ∧
  (∀ (d : Nat) (L st : List Value) (h : fk_H), fk_ev d qX12_goesOn 13 L st h = fk_ev d qX12_goesOn 16 L (.int (nI 448) :: st) h) ∧
  (∀ (d : Nat) (a0 : Value) (x : Int32) (st : List Value) (h : fk_H), fk_ev d qX12_goesOn 16 [a0, .int x] st h = fk_ev d qX12_goesOn 17 [a0, .int x] (.int x :: st) h) ∧
  (∀ (d : Nat) (L : List Value) (x y : Int32) (st : List Value) (h : fk_H), fk_ev d qX12_goesOn 17 L (.int y :: .int x :: st) h = fk_ev d qX12_goesOn 18 L (.int (x + y) :: st) h) ∧
  (∀ (d : Nat) (L st : List Value) (N : Nat) (y : Nat → Nat → Int32) (l : Nat → Nat → Int64) (i : Nat), i < 3912 → fk_ev d qX12_goesOn 18 L (.int (nI i) :: .ref 247 :: st) (fk_E N y l) = fk_ev d qX12_goesOn 19 L (.int (y 247 i) :: st) (fk_E N y l)) ∧
  (∀ (d : Nat) (L st : List Value) (h : fk_H), fk_ev d qX12_goesOn 19 L st h = fk_ev d qX12_goesOn 20 L (.int (nI 1) :: st) h) ∧
  (∀ (d : Nat) (L : List Value) (x y : Int32) (st : List Value) (h : fk_H), fk_ev d qX12_goesOn 20 L (.int y :: .int x :: st) h = fk_ev d qX12_goesOn 21 L (.int (x - y) :: st) h) ∧
  (∀ (d : Nat) (L st : List Value) (N : Nat) (y : Nat → Nat → Int32) (l : Nat → Nat → Int64) (i : Nat) (v : Int32), i < 3912 → fk_ev d qX12_goesOn 21 L (.int v :: .int (nI i) :: .ref 247 :: st) (fk_E N y l) = fk_ev d qX12_goesOn 22 L st (fk_E N (fk_u y 247 i v) l)) ∧
  (∀ (d : Nat) (a1 : Value) (x : Nat) (st : List Value) (h : fk_H), fk_ev d qX12_goesOn 22 [.ref x, a1] st h = fk_ev d qX12_goesOn 23 [.ref x, a1] (.ref x :: st) h) ∧
  (∀ (d : Nat) (L st : List Value) (N : Nat) (y : Nat → Nat → Int32) (l : Nat → Nat → Int64), fk_ev d qX12_goesOn 23 L (.ref 246 :: st) (fk_E N y l) = fk_ev d qX12_goesOn 26 L (.ref 247 :: st) (fk_E N y l)) ∧
  (∀ (d : Nat) (L st : List Value) (h : fk_H), fk_ev d qX12_goesOn 26 L st h = fk_ev d qX12_goesOn 29 L (.int (nI 448) :: st) h) ∧
  (∀ (d : Nat) (a0 : Value) (x : Int32) (st : List Value) (h : fk_H), fk_ev d qX12_goesOn 29 [a0, .int x] st h = fk_ev d qX12_goesOn 30 [a0, .int x] (.int x :: st) h) ∧
  (∀ (d : Nat) (L : List Value) (x y : Int32) (st : List Value) (h : fk_H), fk_ev d qX12_goesOn 30 L (.int y :: .int x :: st) h = fk_ev d qX12_goesOn 31 L (.int (x + y) :: st) h) ∧
  (∀ (d : Nat) (L st : List Value) (N : Nat) (y : Nat → Nat → Int32) (l : Nat → Nat → Int64) (i : Nat), i < 3912 → fk_ev d qX12_goesOn 31 L (.int (nI i) :: .ref 247 :: st) (fk_E N y l) = fk_ev d qX12_goesOn 32 L (.int (y 247 i) :: st) (fk_E N y l)) ∧
  (∀ (d : Nat) (L : List Value) (x : Int32) (st : List Value) (h : fk_H), fk_ev d qX12_goesOn 32 L (.int x :: st) h = if x ≤ nI 0 then fk_ev d qX12_goesOn 36 L st h else fk_ev d qX12_goesOn 35 L st h) ∧
  (∀ (d : Nat) (L : List Value) (h : fk_H), fk_ev d qX12_goesOn 35 L [] h = some (none, h)) ∧
  (∀ (d : Nat) (a1 : Value) (x : Nat) (st : List Value) (h : fk_H), fk_ev d qX12_goesOn 36 [.ref x, a1] st h = fk_ev d qX12_goesOn 37 [.ref x, a1] (.ref x :: st) h) ∧
  (∀ (d : Nat) (L st : List Value) (N : Nat) (y : Nat → Nat → Int32) (l : Nat → Nat → Int64), fk_ev d qX12_goesOn 37 L (.ref 246 :: st) (fk_E N y l) = fk_ev d qX12_goesOn 40 L (.ref 247 :: st) (fk_E N y l)) ∧
  (∀ (d : Nat) (L st : List Value) (h : fk_H), fk_ev d qX12_goesOn 40 L st h = fk_ev d qX12_goesOn 43 L (.int (nI 320) :: st) h) ∧
  (∀ (d : Nat) (a0 : Value) (x : Int32) (st : List Value) (h : fk_H), fk_ev d qX12_goesOn 43 [a0, .int x] st h = fk_ev d qX12_goesOn 44 [a0, .int x] (.int x :: st) h) ∧
  (∀ (d : Nat) (L : List Value) (x y : Int32) (st : List Value) (h : fk_H), fk_ev d qX12_goesOn 44 L (.int y :: .int x :: st) h = fk_ev d qX12_goesOn 45 L (.int (x + y) :: st) h) ∧
  (∀ (d : Nat) (a1 : Value) (x : Nat) (st : List Value) (h : fk_H), fk_ev d qX12_goesOn 45 [.ref x, a1] st h = fk_ev d qX12_goesOn 46 [.ref x, a1] (.ref x :: st) h) ∧
  (∀ (d : Nat) (L st : List Value) (N : Nat) (y : Nat → Nat → Int32) (l : Nat → Nat → Int64), fk_ev d qX12_goesOn 46 L (.ref 246 :: st) (fk_E N y l) = fk_ev d qX12_goesOn 49 L (.ref 251 :: st) (fk_E N y l)) ∧
  (∀ (d : Nat) (a1 : Value) (x : Nat) (st : List Value) (h : fk_H), fk_ev d qX12_goesOn 49 [.ref x, a1] st h = fk_ev d qX12_goesOn 50 [.ref x, a1] (.ref x :: st) h) ∧
  (∀ (d : Nat) (L st : List Value) (N : Nat) (y : Nat → Nat → Int32) (l : Nat → Nat → Int64), fk_ev d qX12_goesOn 50 L (.ref 246 :: st) (fk_E N y l) = fk_ev d qX12_goesOn 53 L (.ref 247 :: st) (fk_E N y l)) ∧
  (∀ (d : Nat) (L st : List Value) (h : fk_H), fk_ev d qX12_goesOn 53 L st h = fk_ev d qX12_goesOn 56 L (.int (nI 384) :: st) h) ∧
  (∀ (d : Nat) (a0 : Value) (x : Int32) (st : List Value) (h : fk_H), fk_ev d qX12_goesOn 56 [a0, .int x] st h = fk_ev d qX12_goesOn 57 [a0, .int x] (.int x :: st) h) ∧
  (∀ (d : Nat) (L : List Value) (x y : Int32) (st : List Value) (h : fk_H), fk_ev d qX12_goesOn 57 L (.int y :: .int x :: st) h = fk_ev d qX12_goesOn 58 L (.int (x + y) :: st) h) ∧
  (∀ (d : Nat) (L st : List Value) (N : Nat) (y : Nat → Nat → Int32) (l : Nat → Nat → Int64) (i : Nat), i < 3912 → fk_ev d qX12_goesOn 58 L (.int (nI i) :: .ref 247 :: st) (fk_E N y l) = fk_ev d qX12_goesOn 59 L (.int (y 247 i) :: st) (fk_E N y l)) ∧
  (∀ (d : Nat) (L st : List Value) (N : Nat) (y : Nat → Nat → Int32) (l : Nat → Nat → Int64) (i : Nat), i < 32 → fk_ev d qX12_goesOn 59 L (.int (nI i) :: .ref 251 :: st) (fk_E N y l) = fk_ev d qX12_goesOn 60 L (.int (y 251 i) :: st) (fk_E N y l)) ∧
  (∀ (d : Nat) (L st : List Value) (N : Nat) (y : Nat → Nat → Int32) (l : Nat → Nat → Int64) (i : Nat) (v : Int32), i < 3912 → fk_ev d qX12_goesOn 60 L (.int v :: .int (nI i) :: .ref 247 :: st) (fk_E N y l) = fk_ev d qX12_goesOn 61 L st (fk_E N (fk_u y 247 i v) l)) ∧
  (∀ (d : Nat) (a1 : Value) (x : Nat) (st : List Value) (h : fk_H), fk_ev d qX12_goesOn 61 [.ref x, a1] st h = fk_ev d qX12_goesOn 62 [.ref x, a1] (.ref x :: st) h) ∧
  (∀ (d : Nat) (L st : List Value) (N : Nat) (y : Nat → Nat → Int32) (l : Nat → Nat → Int64), fk_ev d qX12_goesOn 62 L (.ref 246 :: st) (fk_E N y l) = fk_ev d qX12_goesOn 65 L (.ref 247 :: st) (fk_E N y l)) ∧
  (∀ (d : Nat) (L st : List Value) (h : fk_H), fk_ev d qX12_goesOn 65 L st h = fk_ev d qX12_goesOn 68 L (.int (nI 384) :: st) h) ∧
  (∀ (d : Nat) (a0 : Value) (x : Int32) (st : List Value) (h : fk_H), fk_ev d qX12_goesOn 68 [a0, .int x] st h = fk_ev d qX12_goesOn 69 [a0, .int x] (.int x :: st) h) ∧
  (∀ (d : Nat) (L : List Value) (x y : Int32) (st : List Value) (h : fk_H), fk_ev d qX12_goesOn 69 L (.int y :: .int x :: st) h = fk_ev d qX12_goesOn 70 L (.int (x + y) :: st) h) ∧
  (∀ (d : Nat) (L st : List Value) (h : fk_H), fk_ev d qX12_goesOn 70 L st h = fk_ev d qX12_goesOn 72 L (.int ((-2 : Int32)) :: st) h) ∧
  (∀ (d : Nat) (L st : List Value) (N : Nat) (y : Nat → Nat → Int32) (l : Nat → Nat → Int64) (i : Nat) (v : Int32), i < 3912 → fk_ev d qX12_goesOn 72 L (.int v :: .int (nI i) :: .ref 247 :: st) (fk_E N y l) = fk_ev d qX12_goesOn 73 L st (fk_E N (fk_u y 247 i v) l)) ∧
  (∀ (d : Nat) (a1 : Value) (x : Nat) (st : List Value) (h : fk_H), fk_ev d qX12_goesOn 73 [.ref x, a1] st h = fk_ev d qX12_goesOn 74 [.ref x, a1] (.ref x :: st) h) ∧
  (∀ (d : Nat) (L st : List Value) (N : Nat) (y : Nat → Nat → Int32) (l : Nat → Nat → Int64), fk_ev d qX12_goesOn 74 L (.ref 246 :: st) (fk_E N y l) = fk_ev d qX12_goesOn 77 L (.ref 269 :: st) (fk_E N y l)) ∧
  (∀ (d : Nat) (a0 : Value) (x : Int32) (st : List Value) (h : fk_H), fk_ev d qX12_goesOn 77 [a0, .int x] st h = fk_ev d qX12_goesOn 78 [a0, .int x] (.int x :: st) h) ∧
  (∀ (d : Nat) (L st : List Value) (h : fk_H), fk_ev d qX12_goesOn 78 L st h = fk_ev d qX12_goesOn 79 L (.int (nI 1) :: st) h) ∧
  (∀ (d : Nat) (L st : List Value) (N : Nat) (y : Nat → Nat → Int32) (l : Nat → Nat → Int64) (i : Nat) (v : Int32), i < 64 → fk_ev d qX12_goesOn 79 L (.int v :: .int (nI i) :: .ref 269 :: st) (fk_E N y l) = fk_ev d qX12_goesOn 80 L st (fk_E N (fk_u y 269 i (vp_nar .boolean v)) l)) ∧
  (∀ (d : Nat) (a1 : Value) (x : Nat) (st : List Value) (h : fk_H), fk_ev d qX12_goesOn 80 [.ref x, a1] st h = fk_ev d qX12_goesOn 81 [.ref x, a1] (.ref x :: st) h) ∧
  (∀ (d : Nat) (L st : List Value) (N : Nat) (y : Nat → Nat → Int32) (l : Nat → Nat → Int64), fk_ev d qX12_goesOn 81 L (.ref 246 :: st) (fk_E N y l) = fk_ev d qX12_goesOn 84 L (.ref 247 :: st) (fk_E N y l)) ∧
  (∀ (d : Nat) (L st : List Value) (h : fk_H), fk_ev d qX12_goesOn 84 L st h = fk_ev d qX12_goesOn 85 L (.int (nI 0) :: st) h) ∧
  (∀ (d : Nat) (a0 : Value) (x : Int32) (st : List Value) (h : fk_H), fk_ev d qX12_goesOn 85 [a0, .int x] st h = fk_ev d qX12_goesOn 86 [a0, .int x] (.int x :: st) h) ∧
  (∀ (d : Nat) (L : List Value) (x y : Int32) (st : List Value) (h : fk_H), fk_ev d qX12_goesOn 86 L (.int y :: .int x :: st) h = fk_ev d qX12_goesOn 87 L (.int (x + y) :: st) h) ∧
  (∀ (d : Nat) (L st : List Value) (N : Nat) (y : Nat → Nat → Int32) (l : Nat → Nat → Int64) (i : Nat), i < 3912 → fk_ev d qX12_goesOn 87 L (.int (nI i) :: .ref 247 :: st) (fk_E N y l) = fk_ev d qX12_goesOn 88 L (.int (y 247 i) :: st) (fk_E N y l)) ∧
  (∀ (d : Nat) (a1 : Value) (x : Nat) (st : List Value) (h : fk_H), fk_ev d qX12_goesOn 88 [.ref x, a1] st h = fk_ev d qX12_goesOn 89 [.ref x, a1] (.ref x :: st) h) ∧
  (∀ (d : Nat) (L st : List Value) (N : Nat) (y : Nat → Nat → Int32) (l : Nat → Nat → Int64), fk_ev d qX12_goesOn 89 L (.ref 246 :: st) (fk_E N y l) = fk_ev d qX12_goesOn 92 L (.int (y 246 33) :: st) (fk_E N y l)) ∧
  (∀ (d : Nat) (L : List Value) (x y : Int32) (st : List Value) (h : fk_H), fk_ev d qX12_goesOn 92 L (.int y :: .int x :: st) h = if ¬ x = y then fk_ev d qX12_goesOn 116 L st h else fk_ev d qX12_goesOn 95 L st h) ∧
  (∀ (d : Nat) (a1 : Value) (x : Nat) (st : List Value) (h : fk_H), fk_ev d qX12_goesOn 95 [.ref x, a1] st h = fk_ev d qX12_goesOn 96 [.ref x, a1] (.ref x :: st) h) ∧
  (∀ (d : Nat) (a1 : Value) (x : Nat) (st : List Value) (h : fk_H), fk_ev d qX12_goesOn 96 [.ref x, a1] st h = fk_ev d qX12_goesOn 97 [.ref x, a1] (.ref x :: st) h) ∧
  (∀ (d : Nat) (L st : List Value) (N : Nat) (y : Nat → Nat → Int32) (l : Nat → Nat → Int64), fk_ev d qX12_goesOn 97 L (.ref 246 :: st) (fk_E N y l) = fk_ev d qX12_goesOn 100 L (.int (y 246 35) :: st) (fk_E N y l)) ∧
  (∀ (d : Nat) (L st : List Value) (h : fk_H), fk_ev d qX12_goesOn 100 L st h = fk_ev d qX12_goesOn 101 L (.int (nI 1) :: st) h) ∧
  (∀ (d : Nat) (a1 : Value) (x : Nat) (st : List Value) (h : fk_H), fk_ev d qX12_goesOn 101 [.ref x, a1] st h = fk_ev d qX12_goesOn 102 [.ref x, a1] (.ref x :: st) h) ∧
  (∀ (d : Nat) (L st : List Value) (N : Nat) (y : Nat → Nat → Int32) (l : Nat → Nat → Int64), fk_ev d qX12_goesOn 102 L (.ref 246 :: st) (fk_E N y l) = fk_ev d qX12_goesOn 105 L (.ref 247 :: st) (fk_E N y l)) ∧
  (∀ (d : Nat) (L st : List Value) (h : fk_H), fk_ev d qX12_goesOn 105 L st h = fk_ev d qX12_goesOn 108 L (.int (nI 320) :: st) h) ∧
  (∀ (d : Nat) (a0 : Value) (x : Int32) (st : List Value) (h : fk_H), fk_ev d qX12_goesOn 108 [a0, .int x] st h = fk_ev d qX12_goesOn 109 [a0, .int x] (.int x :: st) h) ∧
  (∀ (d : Nat) (L : List Value) (x y : Int32) (st : List Value) (h : fk_H), fk_ev d qX12_goesOn 109 L (.int y :: .int x :: st) h = fk_ev d qX12_goesOn 110 L (.int (x + y) :: st) h) ∧
  (∀ (d : Nat) (L st : List Value) (N : Nat) (y : Nat → Nat → Int32) (l : Nat → Nat → Int64) (i : Nat), i < 3912 → fk_ev d qX12_goesOn 110 L (.int (nI i) :: .ref 247 :: st) (fk_E N y l) = fk_ev d qX12_goesOn 111 L (.int (y 247 i) :: st) (fk_E N y l)) ∧
  (∀ (d : Nat) (L : List Value) (x y : Int32) (st : List Value) (h : fk_H), fk_ev d qX12_goesOn 111 L (.int y :: .int x :: st) h = fk_ev d qX12_goesOn 112 L (.int (x <<< (y &&& 31)) :: st) h) ∧
  (∀ (d : Nat) (L : List Value) (x y : Int32) (st : List Value) (h : fk_H), fk_ev d qX12_goesOn 112 L (.int y :: .int x :: st) h = fk_ev d qX12_goesOn 113 L (.int (x ||| y) :: st) h) ∧
  (∀ (d : Nat) (L st : List Value) (N : Nat) (y : Nat → Nat → Int32) (l : Nat → Nat → Int64) (v : Int32), fk_ev d qX12_goesOn 113 L (.int v :: .ref 246 :: st) (fk_E N y l) = fk_ev d qX12_goesOn 116 L st (fk_E N (fk_u y 246 35 v) l)) ∧
  (∀ (d : Nat) (L : List Value) (h : fk_H), fk_ev d qX12_goesOn 116 L [] h = some (none, h)) := ⟨fun d a1 x st h => fk_w_aloadn 0 [.ref x, a1] dX12_goesOn_0 rfl,
  fun d L st N y l => fk_g_getC rfl lf_12_7 (by decide) rfl dX12_goesOn_1 fk_at_246,
  fun d L st h => fk_w_sipush dX12_goesOn_4 (by decide),
  fun d a0 x st h => fk_w_iloadn 1 [a0, .int x] dX12_goesOn_7 rfl,
  fun d L x y st h => fk_r_iadd dX12_goesOn_8,
  fun d a1 x st h => fk_w_aloadn 0 [.ref x, a1] dX12_goesOn_9 rfl,
  fun d L st N y l => fk_g_getC rfl lf_12_7 (by decide) rfl dX12_goesOn_10 fk_at_246,
  fun d L st h => fk_w_sipush dX12_goesOn_13 (by decide),
  fun d a0 x st h => fk_w_iloadn 1 [a0, .int x] dX12_goesOn_16 rfl,
  fun d L x y st h => fk_r_iadd dX12_goesOn_17,
  fun d L st N y l i hi => fk_g_iald fk_at_247 fk_ln_247 (by decide) dX12_goesOn_18 hi,
  fun d L st h => fk_w_iconst dX12_goesOn_19 (by decide),
  fun d L x y st h => fk_r_isub dX12_goesOn_20,
  fun d L st N y l i v hi => fk_g_iast fk_at_247 fk_ln_247 (by decide) dX12_goesOn_21 hi,
  fun d a1 x st h => fk_w_aloadn 0 [.ref x, a1] dX12_goesOn_22 rfl,
  fun d L st N y l => fk_g_getC rfl lf_12_7 (by decide) rfl dX12_goesOn_23 fk_at_246,
  fun d L st h => fk_w_sipush dX12_goesOn_26 (by decide),
  fun d a0 x st h => fk_w_iloadn 1 [a0, .int x] dX12_goesOn_29 rfl,
  fun d L x y st h => fk_r_iadd dX12_goesOn_30,
  fun d L st N y l i hi => fk_g_iald fk_at_247 fk_ln_247 (by decide) dX12_goesOn_31 hi,
  fun d L x st h => fk_r_if_le dX12_goesOn_32 (by decide),
  fun d L h => fk_r_vret dX12_goesOn_35 rfl,
  fun d a1 x st h => fk_w_aloadn 0 [.ref x, a1] dX12_goesOn_36 rfl,
  fun d L st N y l => fk_g_getC rfl lf_12_7 (by decide) rfl dX12_goesOn_37 fk_at_246,
  fun d L st h => fk_w_sipush dX12_goesOn_40 (by decide),
  fun d a0 x st h => fk_w_iloadn 1 [a0, .int x] dX12_goesOn_43 rfl,
  fun d L x y st h => fk_r_iadd dX12_goesOn_44,
  fun d a1 x st h => fk_w_aloadn 0 [.ref x, a1] dX12_goesOn_45 rfl,
  fun d L st N y l => fk_g_getC rfl lf_12_22 (by decide) rfl dX12_goesOn_46 fk_at_246,
  fun d a1 x st h => fk_w_aloadn 0 [.ref x, a1] dX12_goesOn_49 rfl,
  fun d L st N y l => fk_g_getC rfl lf_12_7 (by decide) rfl dX12_goesOn_50 fk_at_246,
  fun d L st h => fk_w_sipush dX12_goesOn_53 (by decide),
  fun d a0 x st h => fk_w_iloadn 1 [a0, .int x] dX12_goesOn_56 rfl,
  fun d L x y st h => fk_r_iadd dX12_goesOn_57,
  fun d L st N y l i hi => fk_g_iald fk_at_247 fk_ln_247 (by decide) dX12_goesOn_58 hi,
  fun d L st N y l i hi => fk_g_iald fk_at_251 fk_ln_251 (by decide) dX12_goesOn_59 hi,
  fun d L st N y l i v hi => fk_g_iast fk_at_247 fk_ln_247 (by decide) dX12_goesOn_60 hi,
  fun d a1 x st h => fk_w_aloadn 0 [.ref x, a1] dX12_goesOn_61 rfl,
  fun d L st N y l => fk_g_getC rfl lf_12_7 (by decide) rfl dX12_goesOn_62 fk_at_246,
  fun d L st h => fk_w_sipush dX12_goesOn_65 (by decide),
  fun d a0 x st h => fk_w_iloadn 1 [a0, .int x] dX12_goesOn_68 rfl,
  fun d L x y st h => fk_r_iadd dX12_goesOn_69,
  fun d L st h => fk_w_bipush dX12_goesOn_70 (by decide),
  fun d L st N y l i v hi => fk_g_iast fk_at_247 fk_ln_247 (by decide) dX12_goesOn_72 hi,
  fun d a1 x st h => fk_w_aloadn 0 [.ref x, a1] dX12_goesOn_73 rfl,
  fun d L st N y l => fk_g_getC rfl lf_12_78 (by decide) rfl dX12_goesOn_74 fk_at_246,
  fun d a0 x st h => fk_w_iloadn 1 [a0, .int x] dX12_goesOn_77 rfl,
  fun d L st h => fk_w_iconst dX12_goesOn_78 (by decide),
  fun d L st N y l i v hi => fk_g_bast22 fk_at_269 fk_ln_269 (by decide) dX12_goesOn_79 hi,
  fun d a1 x st h => fk_w_aloadn 0 [.ref x, a1] dX12_goesOn_80 rfl,
  fun d L st N y l => fk_g_getC rfl lf_12_7 (by decide) rfl dX12_goesOn_81 fk_at_246,
  fun d L st h => fk_w_iconst dX12_goesOn_84 (by decide),
  fun d a0 x st h => fk_w_iloadn 1 [a0, .int x] dX12_goesOn_85 rfl,
  fun d L x y st h => fk_r_iadd dX12_goesOn_86,
  fun d L st N y l i hi => fk_g_iald fk_at_247 fk_ln_247 (by decide) dX12_goesOn_87 hi,
  fun d a1 x st h => fk_w_aloadn 0 [.ref x, a1] dX12_goesOn_88 rfl,
  fun d L st N y l => fk_g_getI rfl lf_12_97 (by decide) dX12_goesOn_89 fk_at_246,
  fun d L x y st h => fk_r_icmp_ne dX12_goesOn_92 (by decide),
  fun d a1 x st h => fk_w_aloadn 0 [.ref x, a1] dX12_goesOn_95 rfl,
  fun d a1 x st h => fk_w_aloadn 0 [.ref x, a1] dX12_goesOn_96 rfl,
  fun d L st N y l => fk_g_getI rfl lf_12_272 (by decide) dX12_goesOn_97 fk_at_246,
  fun d L st h => fk_w_iconst dX12_goesOn_100 (by decide),
  fun d a1 x st h => fk_w_aloadn 0 [.ref x, a1] dX12_goesOn_101 rfl,
  fun d L st N y l => fk_g_getC rfl lf_12_7 (by decide) rfl dX12_goesOn_102 fk_at_246,
  fun d L st h => fk_w_sipush dX12_goesOn_105 (by decide),
  fun d a0 x st h => fk_w_iloadn 1 [a0, .int x] dX12_goesOn_108 rfl,
  fun d L x y st h => fk_r_iadd dX12_goesOn_109,
  fun d L st N y l i hi => fk_g_iald fk_at_247 fk_ln_247 (by decide) dX12_goesOn_110 hi,
  fun d L x y st h => fk_r_ishl dX12_goesOn_111,
  fun d L x y st h => fk_r_ior dX12_goesOn_112,
  fun d L st N y l v => fk_g_putI rfl lf_12_272 (by decide) dX12_goesOn_113 rfl fk_at_246,
  fun d L h => fk_r_vret dX12_goesOn_116 rfl⟩
theorem dX12_merges_0 : decode cX12_merges 0 = .ok (.aload_n 0, 1) := by decide +kernel
theorem dX12_merges_1 : decode cX12_merges 1 = .ok (.getfield 7, 3) := by decide +kernel
theorem dX12_merges_4 : decode cX12_merges 4 = .ok (.sipush 704, 3) := by decide +kernel
theorem dX12_merges_7 : decode cX12_merges 7 = .ok (.iload_n 1, 1) := by decide +kernel
theorem dX12_merges_8 : decode cX12_merges 8 = .ok (.iadd, 1) := by decide +kernel
theorem dX12_merges_9 : decode cX12_merges 9 = .ok (.iaload, 1) := by decide +kernel
theorem dX12_merges_10 : decode cX12_merges 10 = .ok (.aload_n 0, 1) := by decide +kernel
theorem dX12_merges_11 : decode cX12_merges 11 = .ok (.getfield 7, 3) := by decide +kernel
theorem dX12_merges_14 : decode cX12_merges 14 = .ok (.sipush 704, 3) := by decide +kernel
theorem dX12_merges_17 : decode cX12_merges 17 = .ok (.iload_n 2, 1) := by decide +kernel
theorem dX12_merges_18 : decode cX12_merges 18 = .ok (.iadd, 1) := by decide +kernel
theorem dX12_merges_19 : decode cX12_merges 19 = .ok (.iaload, 1) := by decide +kernel
theorem dX12_merges_20 : decode cX12_merges 20 = .ok (.iand, 1) := by decide +kernel
theorem dX12_merges_21 : decode cX12_merges 21 = .ok (.aload_n 0, 1) := by decide +kernel
theorem dX12_merges_22 : decode cX12_merges 22 = .ok (.getfield 7, 3) := by decide +kernel
theorem dX12_merges_25 : decode cX12_merges 25 = .ok (.sipush 768, 3) := by decide +kernel
theorem dX12_merges_28 : decode cX12_merges 28 = .ok (.iload_n 1, 1) := by decide +kernel
theorem dX12_merges_29 : decode cX12_merges 29 = .ok (.iadd, 1) := by decide +kernel
theorem dX12_merges_30 : decode cX12_merges 30 = .ok (.iaload, 1) := by decide +kernel
theorem dX12_merges_31 : decode cX12_merges 31 = .ok (.aload_n 0, 1) := by decide +kernel
theorem dX12_merges_32 : decode cX12_merges 32 = .ok (.getfield 7, 3) := by decide +kernel
theorem dX12_merges_35 : decode cX12_merges 35 = .ok (.sipush 768, 3) := by decide +kernel
theorem dX12_merges_38 : decode cX12_merges 38 = .ok (.iload_n 2, 1) := by decide +kernel
theorem dX12_merges_39 : decode cX12_merges 39 = .ok (.iadd, 1) := by decide +kernel
theorem dX12_merges_40 : decode cX12_merges 40 = .ok (.iaload, 1) := by decide +kernel
theorem dX12_merges_41 : decode cX12_merges 41 = .ok (.ixor, 1) := by decide +kernel
theorem dX12_merges_42 : decode cX12_merges 42 = .ok (.iand, 1) := by decide +kernel
theorem dX12_merges_43 : decode cX12_merges 43 = .ok (.istore_n 3, 1) := by decide +kernel
theorem dX12_merges_44 : decode cX12_merges 44 = .ok (.iconst 0, 1) := by decide +kernel
theorem dX12_merges_45 : decode cX12_merges 45 = .ok (.istore 4, 2) := by decide +kernel
theorem dX12_merges_47 : decode cX12_merges 47 = .ok (.aload_n 0, 1) := by decide +kernel
theorem dX12_merges_48 : decode cX12_merges 48 = .ok (.iload_n 1, 1) := by decide +kernel
theorem dX12_merges_49 : decode cX12_merges 49 = .ok (.invokevirtual 263, 3) := by decide +kernel
theorem dX12_merges_52 : decode cX12_merges 52 = .ok (.iconst 0, 1) := by decide +kernel
theorem dX12_merges_53 : decode cX12_merges 53 = .ok (.istore 5, 2) := by decide +kernel
theorem dX12_merges_55 : decode cX12_merges 55 = .ok (.iload 5, 2) := by decide +kernel
theorem dX12_merges_57 : decode cX12_merges 57 = .ok (.bipush 16, 2) := by decide +kernel
theorem dX12_merges_59 : decode cX12_merges 59 = .ok (.if_icmp .ge 54, 3) := by decide +kernel
theorem dX12_merges_62 : decode cX12_merges 62 = .ok (.iload_n 3, 1) := by decide +kernel
theorem dX12_merges_63 : decode cX12_merges 63 = .ok (.iload 5, 2) := by decide +kernel
theorem dX12_merges_65 : decode cX12_merges 65 = .ok (.invokestatic 108, 3) := by decide +kernel
theorem dX12_merges_68 : decode cX12_merges 68 = .ok (.ifCond .ne 6, 3) := by decide +kernel
theorem dX12_merges_71 : decode cX12_merges 71 = .ok (.goto 36, 3) := by decide +kernel
theorem dX12_merges_74 : decode cX12_merges 74 = .ok (.aload_n 0, 1) := by decide +kernel
theorem dX12_merges_75 : decode cX12_merges 75 = .ok (.getfield 75, 3) := by decide +kernel
theorem dX12_merges_78 : decode cX12_merges 78 = .ok (.bipush 12, 2) := by decide +kernel
theorem dX12_merges_80 : decode cX12_merges 80 = .ok (.iload 5, 2) := by decide +kernel
theorem dX12_merges_82 : decode cX12_merges 82 = .ok (.iastore, 1) := by decide +kernel
theorem dX12_merges_83 : decode cX12_merges 83 = .ok (.aload_n 0, 1) := by decide +kernel
theorem dX12_merges_84 : decode cX12_merges 84 = .ok (.getfield 75, 3) := by decide +kernel
theorem dX12_merges_87 : decode cX12_merges 87 = .ok (.bipush 13, 2) := by decide +kernel
theorem dX12_merges_89 : decode cX12_merges 89 = .ok (.iload_n 2, 1) := by decide +kernel
theorem dX12_merges_90 : decode cX12_merges 90 = .ok (.iastore, 1) := by decide +kernel
theorem dX12_merges_91 : decode cX12_merges 91 = .ok (.aload_n 0, 1) := by decide +kernel
theorem dX12_merges_92 : decode cX12_merges 92 = .ok (.invokevirtual 275, 3) := by decide +kernel
theorem dX12_merges_95 : decode cX12_merges 95 = .ok (.ifCond .ne 12, 3) := by decide +kernel
theorem dX12_merges_98 : decode cX12_merges 98 = .ok (.iload 4, 2) := by decide +kernel
theorem dX12_merges_100 : decode cX12_merges 100 = .ok (.iconst 1, 1) := by decide +kernel
theorem dX12_merges_101 : decode cX12_merges 101 = .ok (.iload 5, 2) := by decide +kernel
theorem dX12_merges_103 : decode cX12_merges 103 = .ok (.ishl, 1) := by decide +kernel
theorem dX12_merges_104 : decode cX12_merges 104 = .ok (.ior, 1) := by decide +kernel
theorem dX12_merges_105 : decode cX12_merges 105 = .ok (.istore 4, 2) := by decide +kernel
theorem dX12_merges_107 : decode cX12_merges 107 = .ok (.iinc 5 1, 3) := by decide +kernel
theorem dX12_merges_110 : decode cX12_merges 110 = .ok (.goto (-55), 3) := by decide +kernel
theorem dX12_merges_113 : decode cX12_merges 113 = .ok (.aload_n 0, 1) := by decide +kernel
theorem dX12_merges_114 : decode cX12_merges 114 = .ok (.getfield 7, 3) := by decide +kernel
theorem dX12_merges_117 : decode cX12_merges 117 = .ok (.sipush 835, 3) := by decide +kernel
theorem dX12_merges_120 : decode cX12_merges 120 = .ok (.aload_n 0, 1) := by decide +kernel
theorem dX12_merges_121 : decode cX12_merges 121 = .ok (.getfield 7, 3) := by decide +kernel
theorem dX12_merges_124 : decode cX12_merges 124 = .ok (.sipush 835, 3) := by decide +kernel
theorem dX12_merges_127 : decode cX12_merges 127 = .ok (.iaload, 1) := by decide +kernel
theorem dX12_merges_128 : decode cX12_merges 128 = .ok (.iload 4, 2) := by decide +kernel
theorem dX12_merges_130 : decode cX12_merges 130 = .ok (.invokestatic 260, 3) := by decide +kernel
theorem dX12_merges_133 : decode cX12_merges 133 = .ok (.iadd, 1) := by decide +kernel
theorem dX12_merges_134 : decode cX12_merges 134 = .ok (.iastore, 1) := by decide +kernel
theorem dX12_merges_135 : decode cX12_merges 135 = .ok (.aload_n 0, 1) := by decide +kernel
theorem dX12_merges_136 : decode cX12_merges 136 = .ok (.getfield 7, 3) := by decide +kernel
theorem dX12_merges_139 : decode cX12_merges 139 = .ok (.sipush 768, 3) := by decide +kernel
theorem dX12_merges_142 : decode cX12_merges 142 = .ok (.iload_n 1, 1) := by decide +kernel
theorem dX12_merges_143 : decode cX12_merges 143 = .ok (.iadd, 1) := by decide +kernel
theorem dX12_merges_144 : decode cX12_merges 144 = .ok (.aload_n 0, 1) := by decide +kernel
theorem dX12_merges_145 : decode cX12_merges 145 = .ok (.getfield 7, 3) := by decide +kernel
theorem dX12_merges_148 : decode cX12_merges 148 = .ok (.sipush 768, 3) := by decide +kernel
theorem dX12_merges_151 : decode cX12_merges 151 = .ok (.iload_n 1, 1) := by decide +kernel
theorem dX12_merges_152 : decode cX12_merges 152 = .ok (.iadd, 1) := by decide +kernel
theorem dX12_merges_153 : decode cX12_merges 153 = .ok (.iaload, 1) := by decide +kernel
theorem dX12_merges_154 : decode cX12_merges 154 = .ok (.aload_n 0, 1) := by decide +kernel
theorem dX12_merges_155 : decode cX12_merges 155 = .ok (.getfield 7, 3) := by decide +kernel
theorem dX12_merges_158 : decode cX12_merges 158 = .ok (.sipush 768, 3) := by decide +kernel
theorem dX12_merges_161 : decode cX12_merges 161 = .ok (.iload_n 2, 1) := by decide +kernel
theorem dX12_merges_162 : decode cX12_merges 162 = .ok (.iadd, 1) := by decide +kernel
theorem dX12_merges_163 : decode cX12_merges 163 = .ok (.iaload, 1) := by decide +kernel
theorem dX12_merges_164 : decode cX12_merges 164 = .ok (.aload_n 0, 1) := by decide +kernel
theorem dX12_merges_165 : decode cX12_merges 165 = .ok (.getfield 7, 3) := by decide +kernel
theorem dX12_merges_168 : decode cX12_merges 168 = .ok (.sipush 704, 3) := by decide +kernel
theorem dX12_merges_171 : decode cX12_merges 171 = .ok (.iload_n 1, 1) := by decide +kernel
theorem dX12_merges_172 : decode cX12_merges 172 = .ok (.iadd, 1) := by decide +kernel
theorem dX12_merges_173 : decode cX12_merges 173 = .ok (.iaload, 1) := by decide +kernel
theorem dX12_merges_174 : decode cX12_merges 174 = .ok (.iconst (-1), 1) := by decide +kernel
theorem dX12_merges_175 : decode cX12_merges 175 = .ok (.ixor, 1) := by decide +kernel
theorem dX12_merges_176 : decode cX12_merges 176 = .ok (.iand, 1) := by decide +kernel
theorem dX12_merges_177 : decode cX12_merges 177 = .ok (.ior, 1) := by decide +kernel
theorem dX12_merges_178 : decode cX12_merges 178 = .ok (.iload 4, 2) := by decide +kernel
theorem dX12_merges_180 : decode cX12_merges 180 = .ok (.iconst (-1), 1) := by decide +kernel
theorem dX12_merges_181 : decode cX12_merges 181 = .ok (.ixor, 1) := by decide +kernel
theorem dX12_merges_182 : decode cX12_merges 182 = .ok (.iand, 1) := by decide +kernel
theorem dX12_merges_183 : decode cX12_merges 183 = .ok (.iastore, 1) := by decide +kernel
theorem dX12_merges_184 : decode cX12_merges 184 = .ok (.aload_n 0, 1) := by decide +kernel
theorem dX12_merges_185 : decode cX12_merges 185 = .ok (.getfield 7, 3) := by decide +kernel
theorem dX12_merges_188 : decode cX12_merges 188 = .ok (.sipush 704, 3) := by decide +kernel
theorem dX12_merges_191 : decode cX12_merges 191 = .ok (.iload_n 1, 1) := by decide +kernel
theorem dX12_merges_192 : decode cX12_merges 192 = .ok (.iadd, 1) := by decide +kernel
theorem dX12_merges_193 : decode cX12_merges 193 = .ok (.aload_n 0, 1) := by decide +kernel
theorem dX12_merges_194 : decode cX12_merges 194 = .ok (.getfield 7, 3) := by decide +kernel
theorem dX12_merges_197 : decode cX12_merges 197 = .ok (.sipush 704, 3) := by decide +kernel
theorem dX12_merges_200 : decode cX12_merges 200 = .ok (.iload_n 1, 1) := by decide +kernel
theorem dX12_merges_201 : decode cX12_merges 201 = .ok (.iadd, 1) := by decide +kernel
theorem dX12_merges_202 : decode cX12_merges 202 = .ok (.iaload, 1) := by decide +kernel
theorem dX12_merges_203 : decode cX12_merges 203 = .ok (.aload_n 0, 1) := by decide +kernel
theorem dX12_merges_204 : decode cX12_merges 204 = .ok (.getfield 7, 3) := by decide +kernel
theorem dX12_merges_207 : decode cX12_merges 207 = .ok (.sipush 704, 3) := by decide +kernel
theorem dX12_merges_210 : decode cX12_merges 210 = .ok (.iload_n 2, 1) := by decide +kernel
theorem dX12_merges_211 : decode cX12_merges 211 = .ok (.iadd, 1) := by decide +kernel
theorem dX12_merges_212 : decode cX12_merges 212 = .ok (.iaload, 1) := by decide +kernel
theorem dX12_merges_213 : decode cX12_merges 213 = .ok (.ior, 1) := by decide +kernel
theorem dX12_merges_214 : decode cX12_merges 214 = .ok (.iload 4, 2) := by decide +kernel
theorem dX12_merges_216 : decode cX12_merges 216 = .ok (.iconst (-1), 1) := by decide +kernel
theorem dX12_merges_217 : decode cX12_merges 217 = .ok (.ixor, 1) := by decide +kernel
theorem dX12_merges_218 : decode cX12_merges 218 = .ok (.iand, 1) := by decide +kernel
theorem dX12_merges_219 : decode cX12_merges 219 = .ok (.iastore, 1) := by decide +kernel
theorem dX12_merges_220 : decode cX12_merges 220 = .ok (.aload_n 0, 1) := by decide +kernel
theorem dX12_merges_221 : decode cX12_merges 221 = .ok (.getfield 7, 3) := by decide +kernel
theorem dX12_merges_224 : decode cX12_merges 224 = .ok (.sipush 256, 3) := by decide +kernel
theorem dX12_merges_227 : decode cX12_merges 227 = .ok (.iload_n 1, 1) := by decide +kernel
theorem dX12_merges_228 : decode cX12_merges 228 = .ok (.iadd, 1) := by decide +kernel
theorem dX12_merges_229 : decode cX12_merges 229 = .ok (.aload_n 0, 1) := by decide +kernel
theorem dX12_merges_230 : decode cX12_merges 230 = .ok (.getfield 7, 3) := by decide +kernel
theorem dX12_merges_233 : decode cX12_merges 233 = .ok (.sipush 256, 3) := by decide +kernel
theorem dX12_merges_236 : decode cX12_merges 236 = .ok (.iload_n 1, 1) := by decide +kernel
theorem dX12_merges_237 : decode cX12_merges 237 = .ok (.iadd, 1) := by decide +kernel
theorem dX12_merges_238 : decode cX12_merges 238 = .ok (.iaload, 1) := by decide +kernel
theorem dX12_merges_239 : decode cX12_merges 239 = .ok (.aload_n 0, 1) := by decide +kernel
theorem dX12_merges_240 : decode cX12_merges 240 = .ok (.getfield 7, 3) := by decide +kernel
theorem dX12_merges_243 : decode cX12_merges 243 = .ok (.sipush 256, 3) := by decide +kernel
theorem dX12_merges_246 : decode cX12_merges 246 = .ok (.iload_n 2, 1) := by decide +kernel
theorem dX12_merges_247 : decode cX12_merges 247 = .ok (.iadd, 1) := by decide +kernel
theorem dX12_merges_248 : decode cX12_merges 248 = .ok (.iaload, 1) := by decide +kernel
theorem dX12_merges_249 : decode cX12_merges 249 = .ok (.iadd, 1) := by decide +kernel
theorem dX12_merges_250 : decode cX12_merges 250 = .ok (.iastore, 1) := by decide +kernel
theorem dX12_merges_251 : decode cX12_merges 251 = .ok (.aload_n 0, 1) := by decide +kernel
theorem dX12_merges_252 : decode cX12_merges 252 = .ok (.getfield 7, 3) := by decide +kernel
theorem dX12_merges_255 : decode cX12_merges 255 = .ok (.sipush 576, 3) := by decide +kernel
theorem dX12_merges_258 : decode cX12_merges 258 = .ok (.iload_n 1, 1) := by decide +kernel
theorem dX12_merges_259 : decode cX12_merges 259 = .ok (.iadd, 1) := by decide +kernel
theorem dX12_merges_260 : decode cX12_merges 260 = .ok (.ldc 147, 2) := by decide +kernel
theorem dX12_merges_262 : decode cX12_merges 262 = .ok (.aload_n 0, 1) := by decide +kernel
theorem dX12_merges_263 : decode cX12_merges 263 = .ok (.getfield 7, 3) := by decide +kernel
theorem dX12_merges_266 : decode cX12_merges 266 = .ok (.sipush 576, 3) := by decide +kernel
theorem dX12_merges_269 : decode cX12_merges 269 = .ok (.iload_n 1, 1) := by decide +kernel
theorem dX12_merges_270 : decode cX12_merges 270 = .ok (.iadd, 1) := by decide +kernel
theorem dX12_merges_271 : decode cX12_merges 271 = .ok (.iaload, 1) := by decide +kernel
theorem dX12_merges_272 : decode cX12_merges 272 = .ok (.aload_n 0, 1) := by decide +kernel
theorem dX12_merges_273 : decode cX12_merges 273 = .ok (.getfield 7, 3) := by decide +kernel
theorem dX12_merges_276 : decode cX12_merges 276 = .ok (.sipush 576, 3) := by decide +kernel
theorem dX12_merges_279 : decode cX12_merges 279 = .ok (.iload_n 2, 1) := by decide +kernel
theorem dX12_merges_280 : decode cX12_merges 280 = .ok (.iadd, 1) := by decide +kernel
theorem dX12_merges_281 : decode cX12_merges 281 = .ok (.iaload, 1) := by decide +kernel
theorem dX12_merges_282 : decode cX12_merges 282 = .ok (.iadd, 1) := by decide +kernel
theorem dX12_merges_283 : decode cX12_merges 283 = .ok (.invokestatic 278, 3) := by decide +kernel
theorem dX12_merges_286 : decode cX12_merges 286 = .ok (.iastore, 1) := by decide +kernel
theorem dX12_merges_287 : decode cX12_merges 287 = .ok (.aload_n 0, 1) := by decide +kernel
theorem dX12_merges_288 : decode cX12_merges 288 = .ok (.getfield 7, 3) := by decide +kernel
theorem dX12_merges_291 : decode cX12_merges 291 = .ok (.sipush 512, 3) := by decide +kernel
theorem dX12_merges_294 : decode cX12_merges 294 = .ok (.iload_n 1, 1) := by decide +kernel
theorem dX12_merges_295 : decode cX12_merges 295 = .ok (.iadd, 1) := by decide +kernel
theorem dX12_merges_296 : decode cX12_merges 296 = .ok (.aload_n 0, 1) := by decide +kernel
theorem dX12_merges_297 : decode cX12_merges 297 = .ok (.getfield 7, 3) := by decide +kernel
theorem dX12_merges_300 : decode cX12_merges 300 = .ok (.sipush 512, 3) := by decide +kernel
theorem dX12_merges_303 : decode cX12_merges 303 = .ok (.iload_n 1, 1) := by decide +kernel
theorem dX12_merges_304 : decode cX12_merges 304 = .ok (.iadd, 1) := by decide +kernel
theorem dX12_merges_305 : decode cX12_merges 305 = .ok (.iaload, 1) := by decide +kernel
theorem dX12_merges_306 : decode cX12_merges 306 = .ok (.aload_n 0, 1) := by decide +kernel
theorem dX12_merges_307 : decode cX12_merges 307 = .ok (.getfield 7, 3) := by decide +kernel
theorem dX12_merges_310 : decode cX12_merges 310 = .ok (.sipush 512, 3) := by decide +kernel
theorem dX12_merges_313 : decode cX12_merges 313 = .ok (.iload_n 2, 1) := by decide +kernel
theorem dX12_merges_314 : decode cX12_merges 314 = .ok (.iadd, 1) := by decide +kernel
theorem dX12_merges_315 : decode cX12_merges 315 = .ok (.iaload, 1) := by decide +kernel
theorem dX12_merges_316 : decode cX12_merges 316 = .ok (.invokestatic 257, 3) := by decide +kernel
theorem dX12_merges_319 : decode cX12_merges 319 = .ok (.iastore, 1) := by decide +kernel
theorem dX12_merges_320 : decode cX12_merges 320 = .ok (.aload_n 0, 1) := by decide +kernel
theorem dX12_merges_321 : decode cX12_merges 321 = .ok (.getfield 7, 3) := by decide +kernel
theorem dX12_merges_324 : decode cX12_merges 324 = .ok (.sipush 192, 3) := by decide +kernel
theorem dX12_merges_327 : decode cX12_merges 327 = .ok (.iload_n 2, 1) := by decide +kernel
theorem dX12_merges_328 : decode cX12_merges 328 = .ok (.iadd, 1) := by decide +kernel
theorem dX12_merges_329 : decode cX12_merges 329 = .ok (.iconst 3, 1) := by decide +kernel
theorem dX12_merges_330 : decode cX12_merges 330 = .ok (.iastore, 1) := by decide +kernel
theorem dX12_merges_331 : decode cX12_merges 331 = .ok (.aload_n 0, 1) := by decide +kernel
theorem dX12_merges_332 : decode cX12_merges 332 = .ok (.getfield 7, 3) := by decide +kernel
theorem dX12_merges_335 : decode cX12_merges 335 = .ok (.sipush 640, 3) := by decide +kernel
theorem dX12_merges_338 : decode cX12_merges 338 = .ok (.iload_n 2, 1) := by decide +kernel
theorem dX12_merges_339 : decode cX12_merges 339 = .ok (.iadd, 1) := by decide +kernel
theorem dX12_merges_340 : decode cX12_merges 340 = .ok (.iload_n 1, 1) := by decide +kernel
theorem dX12_merges_341 : decode cX12_merges 341 = .ok (.iastore, 1) := by decide +kernel
theorem dX12_merges_342 : decode cX12_merges 342 = .ok (.aload_n 0, 1) := by decide +kernel
theorem dX12_merges_343 : decode cX12_merges 343 = .ok (.getfield 7, 3) := by decide +kernel
theorem dX12_merges_346 : decode cX12_merges 346 = .ok (.sipush 837, 3) := by decide +kernel
theorem dX12_merges_349 : decode cX12_merges 349 = .ok (.aload_n 0, 1) := by decide +kernel
theorem dX12_merges_350 : decode cX12_merges 350 = .ok (.getfield 7, 3) := by decide +kernel
theorem dX12_merges_353 : decode cX12_merges 353 = .ok (.sipush 837, 3) := by decide +kernel
theorem dX12_merges_356 : decode cX12_merges 356 = .ok (.iaload, 1) := by decide +kernel
theorem dX12_merges_357 : decode cX12_merges 357 = .ok (.iconst 1, 1) := by decide +kernel
theorem dX12_merges_358 : decode cX12_merges 358 = .ok (.iadd, 1) := by decide +kernel
theorem dX12_merges_359 : decode cX12_merges 359 = .ok (.iastore, 1) := by decide +kernel
theorem dX12_merges_360 : decode cX12_merges 360 = .ok (.aload_n 0, 1) := by decide +kernel
theorem dX12_merges_361 : decode cX12_merges 361 = .ok (.getfield 78, 3) := by decide +kernel
theorem dX12_merges_364 : decode cX12_merges 364 = .ok (.iload_n 1, 1) := by decide +kernel
theorem dX12_merges_365 : decode cX12_merges 365 = .ok (.aload_n 0, 1) := by decide +kernel
theorem dX12_merges_366 : decode cX12_merges 366 = .ok (.getfield 78, 3) := by decide +kernel
theorem dX12_merges_369 : decode cX12_merges 369 = .ok (.iload_n 1, 1) := by decide +kernel
theorem dX12_merges_370 : decode cX12_merges 370 = .ok (.baload, 1) := by decide +kernel
theorem dX12_merges_371 : decode cX12_merges 371 = .ok (.ifCond .ne 12, 3) := by decide +kernel
theorem dX12_merges_374 : decode cX12_merges 374 = .ok (.aload_n 0, 1) := by decide +kernel
theorem dX12_merges_375 : decode cX12_merges 375 = .ok (.getfield 78, 3) := by decide +kernel
theorem dX12_merges_378 : decode cX12_merges 378 = .ok (.iload_n 2, 1) := by decide +kernel
theorem dX12_merges_379 : decode cX12_merges 379 = .ok (.baload, 1) := by decide +kernel
theorem dX12_merges_380 : decode cX12_merges 380 = .ok (.ifCond .eq 7, 3) := by decide +kernel
theorem dX12_merges_383 : decode cX12_merges 383 = .ok (.iconst 1, 1) := by decide +kernel
theorem dX12_merges_384 : decode cX12_merges 384 = .ok (.goto 4, 3) := by decide +kernel
theorem dX12_merges_387 : decode cX12_merges 387 = .ok (.iconst 0, 1) := by decide +kernel
theorem dX12_merges_388 : decode cX12_merges 388 = .ok (.bastore, 1) := by decide +kernel
theorem dX12_merges_389 : decode cX12_merges 389 = .ok (.return_, 1) := by decide +kernel
theorem rX12_merges : (∀ (d : Nat) (a1 a2 a3 a4 a5 : Value) (x : Nat) (st : List Value) (h : fk_H), fk_ev d qX12_merges 0 [.ref x, a1, a2, a3, a4, a5] st h = fk_ev d qX12_merges 1 [.ref x, a1, a2, a3, a4, a5] (.ref x :: st) h) ∧
  (∀ (d : Nat) (L st : List Value) (N : Nat) (y : Nat → Nat → Int32) (l : Nat → Nat → Int64), fk_ev d qX12_merges 1 L (.ref 246 :: st) (fk_E N y l) = fk_ev d qX12_merges 4 L (.ref 247 :: st) (fk_E N y l)) ∧
  (∀ (d : Nat) (L st : List Value) (h : fk_H), fk_ev d qX12_merges 4 L st h = fk_ev d qX12_merges 7 L (.int (nI 704) :: st) h) ∧
  (∀ (d : Nat) (a0 a2 a3 a4 a5 : Value) (x : Int32) (st : List Value) (h : fk_H), fk_ev d qX12_merges 7 [a0, .int x, a2, a3, a4, a5] st h = fk_ev d qX12_merges 8 [a0, .int x, a2, a3, a4, a5] (.int x :: st) h) ∧
  (∀ (d : Nat) (L : List Value) (x y : Int32) (st : List Value) (h : fk_H), fk_ev d qX12_merges 8 L (.int y :: .int x :: st) h = fk_ev d qX12_merges 9 L (.int (x + y) :: st) h) ∧
  (∀ (d : Nat) (L st : List Value) (N : Nat) (y : Nat → Nat → Int32) (l : Nat → Nat → Int64) (i : Nat), i < 3912 → fk_ev d qX12_merges 9 L (.int (nI i) :: .ref 247 :: st) (fk_E N y l) = fk_ev d qX12_merges 10 L (.int (y 247 i) :: st) (fk_E N y l)) ∧
  (∀ (d : Nat) (a1 a2 a3 a4 a5 : Value) (x : Nat) (st : List Value) (h : fk_H), fk_ev d qX12_merges 10 [.ref x, a1, a2, a3, a4, a5] st h = fk_ev d qX12_merges 11 [.ref x, a1, a2, a3, a4, a5] (.ref x :: st) h) ∧
  (∀ (d : Nat) (L st : List Value) (N : Nat) (y : Nat → Nat → Int32) (l : Nat → Nat → Int64), fk_ev d qX12_merges 11 L (.ref 246 :: st) (fk_E N y l) = fk_ev d qX12_merges 14 L (.ref 247 :: st) (fk_E N y l)) ∧
  (∀ (d : Nat) (L st : List Value) (h : fk_H), fk_ev d qX12_merges 14 L st h = fk_ev d qX12_merges 17 L (.int (nI 704) :: st) h) ∧
  (∀ (d : Nat) (a0 a1 a3 a4 a5 : Value) (x : Int32) (st : List Value) (h : fk_H), fk_ev d qX12_merges 17 [a0, a1, .int x, a3, a4, a5] st h = fk_ev d qX12_merges 18 [a0, a1, .int x, a3, a4, a5] (.int x :: st) h) ∧
  (∀ (d : Nat) (L : List Value) (x y : Int32) (st : List Value) (h : fk_H), fk_ev d qX12_merges 18 L (.int y :: .int x :: st) h = fk_ev d qX12_merges 19 L (.int (x + y) :: st) h) ∧
  (∀ (d : Nat) (L st : List Value) (N : Nat) (y : Nat → Nat → Int32) (l : Nat → Nat → Int64) (i : Nat), i < 3912 → fk_ev d qX12_merges 19 L (.int (nI i) :: .ref 247 :: st) (fk_E N y l) = fk_ev d qX12_merges 20 L (.int (y 247 i) :: st) (fk_E N y l)) ∧
  (∀ (d : Nat) (L : List Value) (x y : Int32) (st : List Value) (h : fk_H), fk_ev d qX12_merges 20 L (.int y :: .int x :: st) h = fk_ev d qX12_merges 21 L (.int (x &&& y) :: st) h) ∧
  (∀ (d : Nat) (a1 a2 a3 a4 a5 : Value) (x : Nat) (st : List Value) (h : fk_H), fk_ev d qX12_merges 21 [.ref x, a1, a2, a3, a4, a5] st h = fk_ev d qX12_merges 22 [.ref x, a1, a2, a3, a4, a5] (.ref x :: st) h) ∧
  (∀ (d : Nat) (L st : List Value) (N : Nat) (y : Nat → Nat → Int32) (l : Nat → Nat → Int64), fk_ev d qX12_merges 22 L (.ref 246 :: st) (fk_E N y l) = fk_ev d qX12_merges 25 L (.ref 247 :: st) (fk_E N y l)) ∧
  (∀ (d : Nat) (L st : List Value) (h : fk_H), fk_ev d qX12_merges 25 L st h = fk_ev d qX12_merges 28 L (.int (nI 768) :: st) h) ∧
  (∀ (d : Nat) (a0 a2 a3 a4 a5 : Value) (x : Int32) (st : List Value) (h : fk_H), fk_ev d qX12_merges 28 [a0, .int x, a2, a3, a4, a5] st h = fk_ev d qX12_merges 29 [a0, .int x, a2, a3, a4, a5] (.int x :: st) h) ∧
  (∀ (d : Nat) (L : List Value) (x y : Int32) (st : List Value) (h : fk_H), fk_ev d qX12_merges 29 L (.int y :: .int x :: st) h = fk_ev d qX12_merges 30 L (.int (x + y) :: st) h) ∧
  (∀ (d : Nat) (L st : List Value) (N : Nat) (y : Nat → Nat → Int32) (l : Nat → Nat → Int64) (i : Nat), i < 3912 → fk_ev d qX12_merges 30 L (.int (nI i) :: .ref 247 :: st) (fk_E N y l) = fk_ev d qX12_merges 31 L (.int (y 247 i) :: st) (fk_E N y l)) ∧
  (∀ (d : Nat) (a1 a2 a3 a4 a5 : Value) (x : Nat) (st : List Value) (h : fk_H), fk_ev d qX12_merges 31 [.ref x, a1, a2, a3, a4, a5] st h = fk_ev d qX12_merges 32 [.ref x, a1, a2, a3, a4, a5] (.ref x :: st) h) ∧
  (∀ (d : Nat) (L st : List Value) (N : Nat) (y : Nat → Nat → Int32) (l : Nat → Nat → Int64), fk_ev d qX12_merges 32 L (.ref 246 :: st) (fk_E N y l) = fk_ev d qX12_merges 35 L (.ref 247 :: st) (fk_E N y l)) ∧
  (∀ (d : Nat) (L st : List Value) (h : fk_H), fk_ev d qX12_merges 35 L st h = fk_ev d qX12_merges 38 L (.int (nI 768) :: st) h) ∧
  (∀ (d : Nat) (a0 a1 a3 a4 a5 : Value) (x : Int32) (st : List Value) (h : fk_H), fk_ev d qX12_merges 38 [a0, a1, .int x, a3, a4, a5] st h = fk_ev d qX12_merges 39 [a0, a1, .int x, a3, a4, a5] (.int x :: st) h) ∧
  (∀ (d : Nat) (L : List Value) (x y : Int32) (st : List Value) (h : fk_H), fk_ev d qX12_merges 39 L (.int y :: .int x :: st) h = fk_ev d qX12_merges 40 L (.int (x + y) :: st) h) ∧
  (∀ (d : Nat) (L st : List Value) (N : Nat) (y : Nat → Nat → Int32) (l : Nat → Nat → Int64) (i : Nat), i < 3912 → fk_ev d qX12_merges 40 L (.int (nI i) :: .ref 247 :: st) (fk_E N y l) = fk_ev d qX12_merges 41 L (.int (y 247 i) :: st) (fk_E N y l)) ∧
  (∀ (d : Nat) (L : List Value) (x y : Int32) (st : List Value) (h : fk_H), fk_ev d qX12_merges 41 L (.int y :: .int x :: st) h = fk_ev d qX12_merges 42 L (.int (x ^^^ y) :: st) h) ∧
  (∀ (d : Nat) (L : List Value) (x y : Int32) (st : List Value) (h : fk_H), fk_ev d qX12_merges 42 L (.int y :: .int x :: st) h = fk_ev d qX12_merges 43 L (.int (x &&& y) :: st) h) ∧
  (∀ (d : Nat) (a0 a1 a2 a3 a4 a5 : Value) (x : Int32) (st : List Value) (h : fk_H), fk_ev d qX12_merges 43 [a0, a1, a2, a3, a4, a5] (.int x :: st) h = fk_ev d qX12_merges 44 [a0, a1, a2, .int x, a4, a5] st h) ∧
  (∀ (d : Nat) (L st : List Value) (h : fk_H), fk_ev d qX12_merges 44 L st h = fk_ev d qX12_merges 45 L (.int (nI 0) :: st) h) ∧
  (∀ (d : Nat) (a0 a1 a2 a3 a4 a5 : Value) (x : Int32) (st : List Value) (h : fk_H), fk_ev d qX12_merges 45 [a0, a1, a2, a3, a4, a5] (.int x :: st) h = fk_ev d qX12_merges 47 [a0, a1, a2, a3, .int x, a5] st h) ∧
  (∀ (d : Nat) (a1 a2 a3 a4 a5 : Value) (x : Nat) (st : List Value) (h : fk_H), fk_ev d qX12_merges 47 [.ref x, a1, a2, a3, a4, a5] st h = fk_ev d qX12_merges 48 [.ref x, a1, a2, a3, a4, a5] (.ref x :: st) h) ∧
  (∀ (d : Nat) (a0 a2 a3 a4 a5 : Value) (x : Int32) (st : List Value) (h : fk_H), fk_ev d qX12_merges 48 [a0, .int x, a2, a3, a4, a5] st h = fk_ev d qX12_merges 49 [a0, .int x, a2, a3, a4, a5] (.int x :: st) h) ∧
  (∀ (d : Nat) (L : List Value) (x0 : Int32)  (N : Nat) (y : Nat → Nat → Int32) (l : Nat → Nat → Int64), fk_ev (d + 1) qX12_merges 49 L (.int x0 :: .ref 246 :: []) (fk_E N y l) = (fk_ev d qX12_feels 0 [.ref 246, .int x0, .null] [] (fk_E N y l)).bind fun o => fk_ev (d + 1) qX12_merges 52 L (o.1.toList ++ []) o.2) ∧
  (∀ (d : Nat) (L st : List Value) (h : fk_H), fk_ev d qX12_merges 52 L st h = fk_ev d qX12_merges 53 L (.int (nI 0) :: st) h) ∧
  (∀ (d : Nat) (a0 a1 a2 a3 a4 a5 : Value) (x : Int32) (st : List Value) (h : fk_H), fk_ev d qX12_merges 53 [a0, a1, a2, a3, a4, a5] (.int x :: st) h = fk_ev d qX12_merges 55 [a0, a1, a2, a3, a4, .int x] st h) ∧
  (∀ (d : Nat) (L st : List Value) (h : fk_H), fk_ev d qX12_merges 57 L st h = fk_ev d qX12_merges 59 L (.int (nI 16) :: st) h) ∧
  (∀ (d : Nat) (L : List Value) (x y : Int32) (st : List Value) (h : fk_H), fk_ev d qX12_merges 59 L (.int y :: .int x :: st) h = if y ≤ x then fk_ev d qX12_merges 113 L st h else fk_ev d qX12_merges 62 L st h) ∧
  (∀ (d : Nat) (a0 a1 a2 a4 a5 : Value) (x : Int32) (st : List Value) (h : fk_H), fk_ev d qX12_merges 62 [a0, a1, a2, .int x, a4, a5] st h = fk_ev d qX12_merges 63 [a0, a1, a2, .int x, a4, a5] (.int x :: st) h) ∧
  (∀ (d : Nat) (a0 a1 a2 a3 a4 : Value) (x : Int32) (st : List Value) (h : fk_H), fk_ev d qX12_merges 63 [a0, a1, a2, a3, a4, .int x] st h = fk_ev d qX12_merges 65 [a0, a1, a2, a3, a4, .int x] (.int x :: st) h) ∧
  (∀ (d : Nat) (L : List Value) (x0 : Int32) (x1 : Int32)  (h : fk_H), fk_ev (d + 1) qX12_merges 65 L (.int x1 :: .int x0 :: []) h = (fk_ev d qX12_has 0 [.int x0, .int x1] [] h).bind fun o => fk_ev (d + 1) qX12_merges 68 L (o.1.toList ++ []) o.2) ∧
  (∀ (d : Nat) (L : List Value) (x : Int32) (st : List Value) (h : fk_H), fk_ev d qX12_merges 68 L (.int x :: st) h = if ¬ x = nI 0 then fk_ev d qX12_merges 74 L st h else fk_ev d qX12_merges 71 L st h) ∧
  (∀ (d : Nat) (L st : List Value) (h : fk_H), fk_ev d qX12_merges 71 L st h = fk_ev d qX12_merges 107 L st h) ∧
  (∀ (d : Nat) (a1 a2 a3 a4 a5 : Value) (x : Nat) (st : List Value) (h : fk_H), fk_ev d qX12_merges 74 [.ref x, a1, a2, a3, a4, a5] st h = fk_ev d qX12_merges 75 [.ref x, a1, a2, a3, a4, a5] (.ref x :: st) h) ∧
  (∀ (d : Nat) (L st : List Value) (N : Nat) (y : Nat → Nat → Int32) (l : Nat → Nat → Int64), fk_ev d qX12_merges 75 L (.ref 246 :: st) (fk_E N y l) = fk_ev d qX12_merges 78 L (.ref 268 :: st) (fk_E N y l)) ∧
  (∀ (d : Nat) (L st : List Value) (h : fk_H), fk_ev d qX12_merges 78 L st h = fk_ev d qX12_merges 80 L (.int (nI 12) :: st) h) ∧
  (∀ (d : Nat) (a0 a1 a2 a3 a4 : Value) (x : Int32) (st : List Value) (h : fk_H), fk_ev d qX12_merges 80 [a0, a1, a2, a3, a4, .int x] st h = fk_ev d qX12_merges 82 [a0, a1, a2, a3, a4, .int x] (.int x :: st) h) ∧
  (∀ (d : Nat) (L st : List Value) (N : Nat) (y : Nat → Nat → Int32) (l : Nat → Nat → Int64) (i : Nat) (v : Int32), i < 14 → fk_ev d qX12_merges 82 L (.int v :: .int (nI i) :: .ref 268 :: st) (fk_E N y l) = fk_ev d qX12_merges 83 L st (fk_E N (fk_u y 268 i v) l)) ∧
  (∀ (d : Nat) (a1 a2 a3 a4 a5 : Value) (x : Nat) (st : List Value) (h : fk_H), fk_ev d qX12_merges 83 [.ref x, a1, a2, a3, a4, a5] st h = fk_ev d qX12_merges 84 [.ref x, a1, a2, a3, a4, a5] (.ref x :: st) h) ∧
  (∀ (d : Nat) (L st : List Value) (N : Nat) (y : Nat → Nat → Int32) (l : Nat → Nat → Int64), fk_ev d qX12_merges 84 L (.ref 246 :: st) (fk_E N y l) = fk_ev d qX12_merges 87 L (.ref 268 :: st) (fk_E N y l)) ∧
  (∀ (d : Nat) (L st : List Value) (h : fk_H), fk_ev d qX12_merges 87 L st h = fk_ev d qX12_merges 89 L (.int (nI 13) :: st) h) ∧
  (∀ (d : Nat) (a0 a1 a3 a4 a5 : Value) (x : Int32) (st : List Value) (h : fk_H), fk_ev d qX12_merges 89 [a0, a1, .int x, a3, a4, a5] st h = fk_ev d qX12_merges 90 [a0, a1, .int x, a3, a4, a5] (.int x :: st) h) ∧
  (∀ (d : Nat) (L st : List Value) (N : Nat) (y : Nat → Nat → Int32) (l : Nat → Nat → Int64) (i : Nat) (v : Int32), i < 14 → fk_ev d qX12_merges 90 L (.int v :: .int (nI i) :: .ref 268 :: st) (fk_E N y l) = fk_ev d qX12_merges 91 L st (fk_E N (fk_u y 268 i v) l)) ∧
  (∀ (d : Nat) (a1 a2 a3 a4 a5 : Value) (x : Nat) (st : List Value) (h : fk_H), fk_ev d qX12_merges 91 [.ref x, a1, a2, a3, a4, a5] st h = fk_ev d qX12_merges 92 [.ref x, a1, a2, a3, a4, a5] (.ref x :: st) h) ∧
  (∀ (d : Nat) (L : List Value)   (N : Nat) (y : Nat → Nat → Int32) (l : Nat → Nat → Int64), fk_ev (d + 1) qX12_merges 92 L (.ref 246 :: []) (fk_E N y l) = (fk_ev d qX12_isElder 0 [.ref 246, .null] [] (fk_E N y l)).bind fun o => fk_ev (d + 1) qX12_merges 95 L (o.1.toList ++ []) o.2) ∧
  (∀ (d : Nat) (L : List Value) (x : Int32) (st : List Value) (h : fk_H), fk_ev d qX12_merges 95 L (.int x :: st) h = if ¬ x = nI 0 then fk_ev d qX12_merges 107 L st h else fk_ev d qX12_merges 98 L st h) ∧
  (∀ (d : Nat) (a0 a1 a2 a3 a5 : Value) (x : Int32) (st : List Value) (h : fk_H), fk_ev d qX12_merges 98 [a0, a1, a2, a3, .int x, a5] st h = fk_ev d qX12_merges 100 [a0, a1, a2, a3, .int x, a5] (.int x :: st) h) ∧
  (∀ (d : Nat) (L st : List Value) (h : fk_H), fk_ev d qX12_merges 100 L st h = fk_ev d qX12_merges 101 L (.int (nI 1) :: st) h) ∧
  (∀ (d : Nat) (a0 a1 a2 a3 a4 : Value) (x : Int32) (st : List Value) (h : fk_H), fk_ev d qX12_merges 101 [a0, a1, a2, a3, a4, .int x] st h = fk_ev d qX12_merges 103 [a0, a1, a2, a3, a4, .int x] (.int x :: st) h) ∧
  (∀ (d : Nat) (L : List Value) (x y : Int32) (st : List Value) (h : fk_H), fk_ev d qX12_merges 103 L (.int y :: .int x :: st) h = fk_ev d qX12_merges 104 L (.int (x <<< (y &&& 31)) :: st) h) ∧
  (∀ (d : Nat) (L : List Value) (x y : Int32) (st : List Value) (h : fk_H), fk_ev d qX12_merges 104 L (.int y :: .int x :: st) h = fk_ev d qX12_merges 105 L (.int (x ||| y) :: st) h) ∧
  (∀ (d : Nat) (a0 a1 a2 a3 a4 a5 : Value) (x : Int32) (st : List Value) (h : fk_H), fk_ev d qX12_merges 105 [a0, a1, a2, a3, a4, a5] (.int x :: st) h = fk_ev d qX12_merges 107 [a0, a1, a2, a3, .int x, a5] st h) ∧
  (∀ (d : Nat) (a0 a1 a2 a3 a4 : Value) (x : Int32) (st : List Value) (h : fk_H), fk_ev d qX12_merges 107 [a0, a1, a2, a3, a4, .int x] st h = fk_ev d qX12_merges 110 [a0, a1, a2, a3, a4, .int (x + nI 1)] st h) ∧
  (∀ (d : Nat) (L st : List Value) (h : fk_H), fk_ev d qX12_merges 110 L st h = fk_ev d qX12_merges 55 L st h) ∧
  (∀ (d : Nat) (a1 a2 a3 a4 a5 : Value) (x : Nat) (st : List Value) (h : fk_H), fk_ev d qX12_merges 113 [.ref x, a1, a2, a3, a4, a5] st h = fk_ev d qX12_merges 114 [.ref x, a1, a2, a3, a4, a5] (.ref x :: st) h) ∧
  (∀ (d : Nat) (L st : List Value) (N : Nat) (y : Nat → Nat → Int32) (l : Nat → Nat → Int64), fk_ev d qX12_merges 114 L (.ref 246 :: st) (fk_E N y l) = fk_ev d qX12_merges 117 L (.ref 247 :: st) (fk_E N y l)) ∧
  (∀ (d : Nat) (L st : List Value) (h : fk_H), fk_ev d qX12_merges 117 L st h = fk_ev d qX12_merges 120 L (.int (nI 835) :: st) h) ∧
  (∀ (d : Nat) (a1 a2 a3 a4 a5 : Value) (x : Nat) (st : List Value) (h : fk_H), fk_ev d qX12_merges 120 [.ref x, a1, a2, a3, a4, a5] st h = fk_ev d qX12_merges 121 [.ref x, a1, a2, a3, a4, a5] (.ref x :: st) h) ∧
  (∀ (d : Nat) (L st : List Value) (N : Nat) (y : Nat → Nat → Int32) (l : Nat → Nat → Int64), fk_ev d qX12_merges 121 L (.ref 246 :: st) (fk_E N y l) = fk_ev d qX12_merges 124 L (.ref 247 :: st) (fk_E N y l)) ∧
  (∀ (d : Nat) (L st : List Value) (h : fk_H), fk_ev d qX12_merges 124 L st h = fk_ev d qX12_merges 127 L (.int (nI 835) :: st) h) ∧
  (∀ (d : Nat) (L st : List Value) (N : Nat) (y : Nat → Nat → Int32) (l : Nat → Nat → Int64) (i : Nat), i < 3912 → fk_ev d qX12_merges 127 L (.int (nI i) :: .ref 247 :: st) (fk_E N y l) = fk_ev d qX12_merges 128 L (.int (y 247 i) :: st) (fk_E N y l)) ∧
  (∀ (d : Nat) (a0 a1 a2 a3 a5 : Value) (x : Int32) (st : List Value) (h : fk_H), fk_ev d qX12_merges 128 [a0, a1, a2, a3, .int x, a5] st h = fk_ev d qX12_merges 130 [a0, a1, a2, a3, .int x, a5] (.int x :: st) h) ∧
  (∀ (d : Nat) (L : List Value) (x0 : Int32) (w0 w1 w2 : Value) (h : fk_H), fk_ev (d + 1) qX12_merges 130 L (.int x0 :: [w0, w1, w2]) h = (fk_ev d qX12_bits 0 [.int x0, .null, .null] [] h).bind fun o => fk_ev (d + 1) qX12_merges 133 L (o.1.toList ++ [w0, w1, w2]) o.2) ∧
  (∀ (d : Nat) (L : List Value) (x y : Int32) (st : List Value) (h : fk_H), fk_ev d qX12_merges 133 L (.int y :: .int x :: st) h = fk_ev d qX12_merges 134 L (.int (x + y) :: st) h) ∧
  (∀ (d : Nat) (L st : List Value) (N : Nat) (y : Nat → Nat → Int32) (l : Nat → Nat → Int64) (i : Nat) (v : Int32), i < 3912 → fk_ev d qX12_merges 134 L (.int v :: .int (nI i) :: .ref 247 :: st) (fk_E N y l) = fk_ev d qX12_merges 135 L st (fk_E N (fk_u y 247 i v) l)) ∧
  (∀ (d : Nat) (a1 a2 a3 a4 a5 : Value) (x : Nat) (st : List Value) (h : fk_H), fk_ev d qX12_merges 135 [.ref x, a1, a2, a3, a4, a5] st h = fk_ev d qX12_merges 136 [.ref x, a1, a2, a3, a4, a5] (.ref x :: st) h) ∧
  (∀ (d : Nat) (L st : List Value) (N : Nat) (y : Nat → Nat → Int32) (l : Nat → Nat → Int64), fk_ev d qX12_merges 136 L (.ref 246 :: st) (fk_E N y l) = fk_ev d qX12_merges 139 L (.ref 247 :: st) (fk_E N y l)) ∧
  (∀ (d : Nat) (L st : List Value) (h : fk_H), fk_ev d qX12_merges 139 L st h = fk_ev d qX12_merges 142 L (.int (nI 768) :: st) h) ∧
  (∀ (d : Nat) (a0 a2 a3 a4 a5 : Value) (x : Int32) (st : List Value) (h : fk_H), fk_ev d qX12_merges 142 [a0, .int x, a2, a3, a4, a5] st h = fk_ev d qX12_merges 143 [a0, .int x, a2, a3, a4, a5] (.int x :: st) h) ∧
  (∀ (d : Nat) (L : List Value) (x y : Int32) (st : List Value) (h : fk_H), fk_ev d qX12_merges 143 L (.int y :: .int x :: st) h = fk_ev d qX12_merges 144 L (.int (x + y) :: st) h) ∧
  (∀ (d : Nat) (a1 a2 a3 a4 a5 : Value) (x : Nat) (st : List Value) (h : fk_H), fk_ev d qX12_merges 144 [.ref x, a1, a2, a3, a4, a5] st h = fk_ev d qX12_merges 145 [.ref x, a1, a2, a3, a4, a5] (.ref x :: st) h) ∧
  (∀ (d : Nat) (L st : List Value) (N : Nat) (y : Nat → Nat → Int32) (l : Nat → Nat → Int64), fk_ev d qX12_merges 145 L (.ref 246 :: st) (fk_E N y l) = fk_ev d qX12_merges 148 L (.ref 247 :: st) (fk_E N y l)) ∧
  (∀ (d : Nat) (L st : List Value) (h : fk_H), fk_ev d qX12_merges 148 L st h = fk_ev d qX12_merges 151 L (.int (nI 768) :: st) h) ∧
  (∀ (d : Nat) (a0 a2 a3 a4 a5 : Value) (x : Int32) (st : List Value) (h : fk_H), fk_ev d qX12_merges 151 [a0, .int x, a2, a3, a4, a5] st h = fk_ev d qX12_merges 152 [a0, .int x, a2, a3, a4, a5] (.int x :: st) h) ∧
  (∀ (d : Nat) (L : List Value) (x y : Int32) (st : List Value) (h : fk_H), fk_ev d qX12_merges 152 L (.int y :: .int x :: st) h = fk_ev d qX12_merges 153 L (.int (x + y) :: st) h) ∧
  (∀ (d : Nat) (L st : List Value) (N : Nat) (y : Nat → Nat → Int32) (l : Nat → Nat → Int64) (i : Nat), i < 3912 → fk_ev d qX12_merges 153 L (.int (nI i) :: .ref 247 :: st) (fk_E N y l) = fk_ev d qX12_merges 154 L (.int (y 247 i) :: st) (fk_E N y l)) ∧
  (∀ (d : Nat) (a1 a2 a3 a4 a5 : Value) (x : Nat) (st : List Value) (h : fk_H), fk_ev d qX12_merges 154 [.ref x, a1, a2, a3, a4, a5] st h = fk_ev d qX12_merges 155 [.ref x, a1, a2, a3, a4, a5] (.ref x :: st) h) ∧
  (∀ (d : Nat) (L st : List Value) (N : Nat) (y : Nat → Nat → Int32) (l : Nat → Nat → Int64), fk_ev d qX12_merges 155 L (.ref 246 :: st) (fk_E N y l) = fk_ev d qX12_merges 158 L (.ref 247 :: st) (fk_E N y l)) ∧
  (∀ (d : Nat) (L st : List Value) (h : fk_H), fk_ev d qX12_merges 158 L st h = fk_ev d qX12_merges 161 L (.int (nI 768) :: st) h) ∧
  (∀ (d : Nat) (a0 a1 a3 a4 a5 : Value) (x : Int32) (st : List Value) (h : fk_H), fk_ev d qX12_merges 161 [a0, a1, .int x, a3, a4, a5] st h = fk_ev d qX12_merges 162 [a0, a1, .int x, a3, a4, a5] (.int x :: st) h) ∧
  (∀ (d : Nat) (L : List Value) (x y : Int32) (st : List Value) (h : fk_H), fk_ev d qX12_merges 162 L (.int y :: .int x :: st) h = fk_ev d qX12_merges 163 L (.int (x + y) :: st) h) ∧
  (∀ (d : Nat) (L st : List Value) (N : Nat) (y : Nat → Nat → Int32) (l : Nat → Nat → Int64) (i : Nat), i < 3912 → fk_ev d qX12_merges 163 L (.int (nI i) :: .ref 247 :: st) (fk_E N y l) = fk_ev d qX12_merges 164 L (.int (y 247 i) :: st) (fk_E N y l)) ∧
  (∀ (d : Nat) (a1 a2 a3 a4 a5 : Value) (x : Nat) (st : List Value) (h : fk_H), fk_ev d qX12_merges 164 [.ref x, a1, a2, a3, a4, a5] st h = fk_ev d qX12_merges 165 [.ref x, a1, a2, a3, a4, a5] (.ref x :: st) h) ∧
  (∀ (d : Nat) (L st : List Value) (N : Nat) (y : Nat → Nat → Int32) (l : Nat → Nat → Int64), fk_ev d qX12_merges 165 L (.ref 246 :: st) (fk_E N y l) = fk_ev d qX12_merges 168 L (.ref 247 :: st) (fk_E N y l)) ∧
  (∀ (d : Nat) (L st : List Value) (h : fk_H), fk_ev d qX12_merges 168 L st h = fk_ev d qX12_merges 171 L (.int (nI 704) :: st) h) ∧
  (∀ (d : Nat) (a0 a2 a3 a4 a5 : Value) (x : Int32) (st : List Value) (h : fk_H), fk_ev d qX12_merges 171 [a0, .int x, a2, a3, a4, a5] st h = fk_ev d qX12_merges 172 [a0, .int x, a2, a3, a4, a5] (.int x :: st) h) ∧
  (∀ (d : Nat) (L : List Value) (x y : Int32) (st : List Value) (h : fk_H), fk_ev d qX12_merges 172 L (.int y :: .int x :: st) h = fk_ev d qX12_merges 173 L (.int (x + y) :: st) h) ∧
  (∀ (d : Nat) (L st : List Value) (N : Nat) (y : Nat → Nat → Int32) (l : Nat → Nat → Int64) (i : Nat), i < 3912 → fk_ev d qX12_merges 173 L (.int (nI i) :: .ref 247 :: st) (fk_E N y l) = fk_ev d qX12_merges 174 L (.int (y 247 i) :: st) (fk_E N y l)) ∧
  (∀ (d : Nat) (L st : List Value) (h : fk_H), fk_ev d qX12_merges 174 L st h = fk_ev d qX12_merges 175 L (.int ((-1 : Int32)) :: st) h) ∧
  (∀ (d : Nat) (L : List Value) (x y : Int32) (st : List Value) (h : fk_H), fk_ev d qX12_merges 175 L (.int y :: .int x :: st) h = fk_ev d qX12_merges 176 L (.int (x ^^^ y) :: st) h) ∧
  (∀ (d : Nat) (L : List Value) (x y : Int32) (st : List Value) (h : fk_H), fk_ev d qX12_merges 176 L (.int y :: .int x :: st) h = fk_ev d qX12_merges 177 L (.int (x &&& y) :: st) h) ∧
  (∀ (d : Nat) (L : List Value) (x y : Int32) (st : List Value) (h : fk_H), fk_ev d qX12_merges 177 L (.int y :: .int x :: st) h = fk_ev d qX12_merges 178 L (.int (x ||| y) :: st) h) ∧
  (∀ (d : Nat) (a0 a1 a2 a3 a5 : Value) (x : Int32) (st : List Value) (h : fk_H), fk_ev d qX12_merges 178 [a0, a1, a2, a3, .int x, a5] st h = fk_ev d qX12_merges 180 [a0, a1, a2, a3, .int x, a5] (.int x :: st) h) ∧
  (∀ (d : Nat) (L st : List Value) (h : fk_H), fk_ev d qX12_merges 180 L st h = fk_ev d qX12_merges 181 L (.int ((-1 : Int32)) :: st) h) ∧
  (∀ (d : Nat) (L : List Value) (x y : Int32) (st : List Value) (h : fk_H), fk_ev d qX12_merges 181 L (.int y :: .int x :: st) h = fk_ev d qX12_merges 182 L (.int (x ^^^ y) :: st) h) ∧
  (∀ (d : Nat) (L : List Value) (x y : Int32) (st : List Value) (h : fk_H), fk_ev d qX12_merges 182 L (.int y :: .int x :: st) h = fk_ev d qX12_merges 183 L (.int (x &&& y) :: st) h) ∧
  (∀ (d : Nat) (L st : List Value) (N : Nat) (y : Nat → Nat → Int32) (l : Nat → Nat → Int64) (i : Nat) (v : Int32), i < 3912 → fk_ev d qX12_merges 183 L (.int v :: .int (nI i) :: .ref 247 :: st) (fk_E N y l) = fk_ev d qX12_merges 184 L st (fk_E N (fk_u y 247 i v) l)) ∧
  (∀ (d : Nat) (a1 a2 a3 a4 a5 : Value) (x : Nat) (st : List Value) (h : fk_H), fk_ev d qX12_merges 184 [.ref x, a1, a2, a3, a4, a5] st h = fk_ev d qX12_merges 185 [.ref x, a1, a2, a3, a4, a5] (.ref x :: st) h) ∧
  (∀ (d : Nat) (L st : List Value) (N : Nat) (y : Nat → Nat → Int32) (l : Nat → Nat → Int64), fk_ev d qX12_merges 185 L (.ref 246 :: st) (fk_E N y l) = fk_ev d qX12_merges 188 L (.ref 247 :: st) (fk_E N y l)) ∧
  (∀ (d : Nat) (L st : List Value) (h : fk_H), fk_ev d qX12_merges 188 L st h = fk_ev d qX12_merges 191 L (.int (nI 704) :: st) h) ∧
  (∀ (d : Nat) (a0 a2 a3 a4 a5 : Value) (x : Int32) (st : List Value) (h : fk_H), fk_ev d qX12_merges 191 [a0, .int x, a2, a3, a4, a5] st h = fk_ev d qX12_merges 192 [a0, .int x, a2, a3, a4, a5] (.int x :: st) h) ∧
  (∀ (d : Nat) (L : List Value) (x y : Int32) (st : List Value) (h : fk_H), fk_ev d qX12_merges 192 L (.int y :: .int x :: st) h = fk_ev d qX12_merges 193 L (.int (x + y) :: st) h) ∧
  (∀ (d : Nat) (a1 a2 a3 a4 a5 : Value) (x : Nat) (st : List Value) (h : fk_H), fk_ev d qX12_merges 193 [.ref x, a1, a2, a3, a4, a5] st h = fk_ev d qX12_merges 194 [.ref x, a1, a2, a3, a4, a5] (.ref x :: st) h) ∧
  (∀ (d : Nat) (L st : List Value) (N : Nat) (y : Nat → Nat → Int32) (l : Nat → Nat → Int64), fk_ev d qX12_merges 194 L (.ref 246 :: st) (fk_E N y l) = fk_ev d qX12_merges 197 L (.ref 247 :: st) (fk_E N y l)) ∧
  (∀ (d : Nat) (L st : List Value) (h : fk_H), fk_ev d qX12_merges 197 L st h = fk_ev d qX12_merges 200 L (.int (nI 704) :: st) h) ∧
  (∀ (d : Nat) (a0 a2 a3 a4 a5 : Value) (x : Int32) (st : List Value) (h : fk_H), fk_ev d qX12_merges 200 [a0, .int x, a2, a3, a4, a5] st h = fk_ev d qX12_merges 201 [a0, .int x, a2, a3, a4, a5] (.int x :: st) h) ∧
  (∀ (d : Nat) (L : List Value) (x y : Int32) (st : List Value) (h : fk_H), fk_ev d qX12_merges 201 L (.int y :: .int x :: st) h = fk_ev d qX12_merges 202 L (.int (x + y) :: st) h) ∧
  (∀ (d : Nat) (L st : List Value) (N : Nat) (y : Nat → Nat → Int32) (l : Nat → Nat → Int64) (i : Nat), i < 3912 → fk_ev d qX12_merges 202 L (.int (nI i) :: .ref 247 :: st) (fk_E N y l) = fk_ev d qX12_merges 203 L (.int (y 247 i) :: st) (fk_E N y l)) ∧
  (∀ (d : Nat) (a1 a2 a3 a4 a5 : Value) (x : Nat) (st : List Value) (h : fk_H), fk_ev d qX12_merges 203 [.ref x, a1, a2, a3, a4, a5] st h = fk_ev d qX12_merges 204 [.ref x, a1, a2, a3, a4, a5] (.ref x :: st) h) ∧
  (∀ (d : Nat) (L st : List Value) (N : Nat) (y : Nat → Nat → Int32) (l : Nat → Nat → Int64), fk_ev d qX12_merges 204 L (.ref 246 :: st) (fk_E N y l) = fk_ev d qX12_merges 207 L (.ref 247 :: st) (fk_E N y l)) ∧
  (∀ (d : Nat) (L st : List Value) (h : fk_H), fk_ev d qX12_merges 207 L st h = fk_ev d qX12_merges 210 L (.int (nI 704) :: st) h) ∧
  (∀ (d : Nat) (a0 a1 a3 a4 a5 : Value) (x : Int32) (st : List Value) (h : fk_H), fk_ev d qX12_merges 210 [a0, a1, .int x, a3, a4, a5] st h = fk_ev d qX12_merges 211 [a0, a1, .int x, a3, a4, a5] (.int x :: st) h) ∧
  (∀ (d : Nat) (L : List Value) (x y : Int32) (st : List Value) (h : fk_H), fk_ev d qX12_merges 211 L (.int y :: .int x :: st) h = fk_ev d qX12_merges 212 L (.int (x + y) :: st) h) ∧
  (∀ (d : Nat) (L st : List Value) (N : Nat) (y : Nat → Nat → Int32) (l : Nat → Nat → Int64) (i : Nat), i < 3912 → fk_ev d qX12_merges 212 L (.int (nI i) :: .ref 247 :: st) (fk_E N y l) = fk_ev d qX12_merges 213 L (.int (y 247 i) :: st) (fk_E N y l)) ∧
  (∀ (d : Nat) (L : List Value) (x y : Int32) (st : List Value) (h : fk_H), fk_ev d qX12_merges 213 L (.int y :: .int x :: st) h = fk_ev d qX12_merges 214 L (.int (x ||| y) :: st) h) ∧
  (∀ (d : Nat) (a0 a1 a2 a3 a5 : Value) (x : Int32) (st : List Value) (h : fk_H), fk_ev d qX12_merges 214 [a0, a1, a2, a3, .int x, a5] st h = fk_ev d qX12_merges 216 [a0, a1, a2, a3, .int x, a5] (.int x :: st) h) ∧
  (∀ (d : Nat) (L st : List Value) (h : fk_H), fk_ev d qX12_merges 216 L st h = fk_ev d qX12_merges 217 L (.int ((-1 : Int32)) :: st) h) ∧
  (∀ (d : Nat) (L : List Value) (x y : Int32) (st : List Value) (h : fk_H), fk_ev d qX12_merges 217 L (.int y :: .int x :: st) h = fk_ev d qX12_merges 218 L (.int (x ^^^ y) :: st) h) ∧
  (∀ (d : Nat) (L : List Value) (x y : Int32) (st : List Value) (h : fk_H), fk_ev d qX12_merges 218 L (.int y :: .int x :: st) h = fk_ev d qX12_merges 219 L (.int (x &&& y) :: st) h) ∧
  (∀ (d : Nat) (L st : List Value) (N : Nat) (y : Nat → Nat → Int32) (l : Nat → Nat → Int64) (i : Nat) (v : Int32), i < 3912 → fk_ev d qX12_merges 219 L (.int v :: .int (nI i) :: .ref 247 :: st) (fk_E N y l) = fk_ev d qX12_merges 220 L st (fk_E N (fk_u y 247 i v) l)) ∧
  (∀ (d : Nat) (a1 a2 a3 a4 a5 : Value) (x : Nat) (st : List Value) (h : fk_H), fk_ev d qX12_merges 220 [.ref x, a1, a2, a3, a4, a5] st h = fk_ev d qX12_merges 221 [.ref x, a1, a2, a3, a4, a5] (.ref x :: st) h) ∧
  (∀ (d : Nat) (L st : List Value) (N : Nat) (y : Nat → Nat → Int32) (l : Nat → Nat → Int64), fk_ev d qX12_merges 221 L (.ref 246 :: st) (fk_E N y l) = fk_ev d qX12_merges 224 L (.ref 247 :: st) (fk_E N y l)) ∧
  (∀ (d : Nat) (L st : List Value) (h : fk_H), fk_ev d qX12_merges 224 L st h = fk_ev d qX12_merges 227 L (.int (nI 256) :: st) h) ∧
  (∀ (d : Nat) (a0 a2 a3 a4 a5 : Value) (x : Int32) (st : List Value) (h : fk_H), fk_ev d qX12_merges 227 [a0, .int x, a2, a3, a4, a5] st h = fk_ev d qX12_merges 228 [a0, .int x, a2, a3, a4, a5] (.int x :: st) h) ∧
  (∀ (d : Nat) (L : List Value) (x y : Int32) (st : List Value) (h : fk_H), fk_ev d qX12_merges 228 L (.int y :: .int x :: st) h = fk_ev d qX12_merges 229 L (.int (x + y) :: st) h) ∧
  (∀ (d : Nat) (a1 a2 a3 a4 a5 : Value) (x : Nat) (st : List Value) (h : fk_H), fk_ev d qX12_merges 229 [.ref x, a1, a2, a3, a4, a5] st h = fk_ev d qX12_merges 230 [.ref x, a1, a2, a3, a4, a5] (.ref x :: st) h) ∧
  (∀ (d : Nat) (L st : List Value) (N : Nat) (y : Nat → Nat → Int32) (l : Nat → Nat → Int64), fk_ev d qX12_merges 230 L (.ref 246 :: st) (fk_E N y l) = fk_ev d qX12_merges 233 L (.ref 247 :: st) (fk_E N y l)) ∧
  (∀ (d : Nat) (L st : List Value) (h : fk_H), fk_ev d qX12_merges 233 L st h = fk_ev d qX12_merges 236 L (.int (nI 256) :: st) h) ∧
  (∀ (d : Nat) (a0 a2 a3 a4 a5 : Value) (x : Int32) (st : List Value) (h : fk_H), fk_ev d qX12_merges 236 [a0, .int x, a2, a3, a4, a5] st h = fk_ev d qX12_merges 237 [a0, .int x, a2, a3, a4, a5] (.int x :: st) h) ∧
  (∀ (d : Nat) (L : List Value) (x y : Int32) (st : List Value) (h : fk_H), fk_ev d qX12_merges 237 L (.int y :: .int x :: st) h = fk_ev d qX12_merges 238 L (.int (x + y) :: st) h) ∧
  (∀ (d : Nat) (L st : List Value) (N : Nat) (y : Nat → Nat → Int32) (l : Nat → Nat → Int64) (i : Nat), i < 3912 → fk_ev d qX12_merges 238 L (.int (nI i) :: .ref 247 :: st) (fk_E N y l) = fk_ev d qX12_merges 239 L (.int (y 247 i) :: st) (fk_E N y l)) ∧
  (∀ (d : Nat) (a1 a2 a3 a4 a5 : Value) (x : Nat) (st : List Value) (h : fk_H), fk_ev d qX12_merges 239 [.ref x, a1, a2, a3, a4, a5] st h = fk_ev d qX12_merges 240 [.ref x, a1, a2, a3, a4, a5] (.ref x :: st) h) ∧
  (∀ (d : Nat) (L st : List Value) (N : Nat) (y : Nat → Nat → Int32) (l : Nat → Nat → Int64), fk_ev d qX12_merges 240 L (.ref 246 :: st) (fk_E N y l) = fk_ev d qX12_merges 243 L (.ref 247 :: st) (fk_E N y l)) ∧
  (∀ (d : Nat) (L st : List Value) (h : fk_H), fk_ev d qX12_merges 243 L st h = fk_ev d qX12_merges 246 L (.int (nI 256) :: st) h) ∧
  (∀ (d : Nat) (a0 a1 a3 a4 a5 : Value) (x : Int32) (st : List Value) (h : fk_H), fk_ev d qX12_merges 246 [a0, a1, .int x, a3, a4, a5] st h = fk_ev d qX12_merges 247 [a0, a1, .int x, a3, a4, a5] (.int x :: st) h) ∧
  (∀ (d : Nat) (L : List Value) (x y : Int32) (st : List Value) (h : fk_H), fk_ev d qX12_merges 247 L (.int y :: .int x :: st) h = fk_ev d qX12_merges 248 L (.int (x + y) :: st) h) ∧
  (∀ (d : Nat) (L st : List Value) (N : Nat) (y : Nat → Nat → Int32) (l : Nat → Nat → Int64) (i : Nat), i < 3912 → fk_ev d qX12_merges 248 L (.int (nI i) :: .ref 247 :: st) (fk_E N y l) = fk_ev d qX12_merges 249 L (.int (y 247 i) :: st) (fk_E N y l)) ∧
  (∀ (d : Nat) (L : List Value) (x y : Int32) (st : List Value) (h : fk_H), fk_ev d qX12_merges 249 L (.int y :: .int x :: st) h = fk_ev d qX12_merges 250 L (.int (x + y) :: st) h) ∧
  (∀ (d : Nat) (L st : List Value) (N : Nat) (y : Nat → Nat → Int32) (l : Nat → Nat → Int64) (i : Nat) (v : Int32), i < 3912 → fk_ev d qX12_merges 250 L (.int v :: .int (nI i) :: .ref 247 :: st) (fk_E N y l) = fk_ev d qX12_merges 251 L st (fk_E N (fk_u y 247 i v) l)) ∧
  (∀ (d : Nat) (a1 a2 a3 a4 a5 : Value) (x : Nat) (st : List Value) (h : fk_H), fk_ev d qX12_merges 251 [.ref x, a1, a2, a3, a4, a5] st h = fk_ev d qX12_merges 252 [.ref x, a1, a2, a3, a4, a5] (.ref x :: st) h) ∧
  (∀ (d : Nat) (L st : List Value) (N : Nat) (y : Nat → Nat → Int32) (l : Nat → Nat → Int64), fk_ev d qX12_merges 252 L (.ref 246 :: st) (fk_E N y l) = fk_ev d qX12_merges 255 L (.ref 247 :: st) (fk_E N y l)) ∧
  (∀ (d : Nat) (L st : List Value) (h : fk_H), fk_ev d qX12_merges 255 L st h = fk_ev d qX12_merges 258 L (.int (nI 576) :: st) h) ∧
  (∀ (d : Nat) (a0 a2 a3 a4 a5 : Value) (x : Int32) (st : List Value) (h : fk_H), fk_ev d qX12_merges 258 [a0, .int x, a2, a3, a4, a5] st h = fk_ev d qX12_merges 259 [a0, .int x, a2, a3, a4, a5] (.int x :: st) h) ∧
  (∀ (d : Nat) (L : List Value) (x y : Int32) (st : List Value) (h : fk_H), fk_ev d qX12_merges 259 L (.int y :: .int x :: st) h = fk_ev d qX12_merges 260 L (.int (x + y) :: st) h) ∧
  (∀ (d : Nat) (L st : List Value) (h : fk_H), fk_ev d qX12_merges 260 L st h = fk_ev d qX12_merges 262 L (.int (nI 99999) :: st) h) ∧
  (∀ (d : Nat) (a1 a2 a3 a4 a5 : Value) (x : Nat) (st : List Value) (h : fk_H), fk_ev d qX12_merges 262 [.ref x, a1, a2, a3, a4, a5] st h = fk_ev d qX12_merges 263 [.ref x, a1, a2, a3, a4, a5] (.ref x :: st) h) ∧
  (∀ (d : Nat) (L st : List Value) (N : Nat) (y : Nat → Nat → Int32) (l : Nat → Nat → Int64), fk_ev d qX12_merges 263 L (.ref 246 :: st) (fk_E N y l) = fk_ev d qX12_merges 266 L (.ref 247 :: st) (fk_E N y l)) ∧
  (∀ (d : Nat) (L st : List Value) (h : fk_H), fk_ev d qX12_merges 266 L st h = fk_ev d qX12_merges 269 L (.int (nI 576) :: st) h) ∧
  (∀ (d : Nat) (a0 a2 a3 a4 a5 : Value) (x : Int32) (st : List Value) (h : fk_H), fk_ev d qX12_merges 269 [a0, .int x, a2, a3, a4, a5] st h = fk_ev d qX12_merges 270 [a0, .int x, a2, a3, a4, a5] (.int x :: st) h) ∧
  (∀ (d : Nat) (L : List Value) (x y : Int32) (st : List Value) (h : fk_H), fk_ev d qX12_merges 270 L (.int y :: .int x :: st) h = fk_ev d qX12_merges 271 L (.int (x + y) :: st) h) ∧
  (∀ (d : Nat) (L st : List Value) (N : Nat) (y : Nat → Nat → Int32) (l : Nat → Nat → Int64) (i : Nat), i < 3912 → fk_ev d qX12_merges 271 L (.int (nI i) :: .ref 247 :: st) (fk_E N y l) = fk_ev d qX12_merges 272 L (.int (y 247 i) :: st) (fk_E N y l)) ∧
  (∀ (d : Nat) (a1 a2 a3 a4 a5 : Value) (x : Nat) (st : List Value) (h : fk_H), fk_ev d qX12_merges 272 [.ref x, a1, a2, a3, a4, a5] st h = fk_ev d qX12_merges 273 [.ref x, a1, a2, a3, a4, a5] (.ref x :: st) h) ∧
  (∀ (d : Nat) (L st : List Value) (N : Nat) (y : Nat → Nat → Int32) (l : Nat → Nat → Int64), fk_ev d qX12_merges 273 L (.ref 246 :: st) (fk_E N y l) = fk_ev d qX12_merges 276 L (.ref 247 :: st) (fk_E N y l)) ∧
  (∀ (d : Nat) (L st : List Value) (h : fk_H), fk_ev d qX12_merges 276 L st h = fk_ev d qX12_merges 279 L (.int (nI 576) :: st) h) ∧
  (∀ (d : Nat) (a0 a1 a3 a4 a5 : Value) (x : Int32) (st : List Value) (h : fk_H), fk_ev d qX12_merges 279 [a0, a1, .int x, a3, a4, a5] st h = fk_ev d qX12_merges 280 [a0, a1, .int x, a3, a4, a5] (.int x :: st) h) ∧
  (∀ (d : Nat) (L : List Value) (x y : Int32) (st : List Value) (h : fk_H), fk_ev d qX12_merges 280 L (.int y :: .int x :: st) h = fk_ev d qX12_merges 281 L (.int (x + y) :: st) h) ∧
  (∀ (d : Nat) (L st : List Value) (N : Nat) (y : Nat → Nat → Int32) (l : Nat → Nat → Int64) (i : Nat), i < 3912 → fk_ev d qX12_merges 281 L (.int (nI i) :: .ref 247 :: st) (fk_E N y l) = fk_ev d qX12_merges 282 L (.int (y 247 i) :: st) (fk_E N y l)) ∧
  (∀ (d : Nat) (L : List Value) (x y : Int32) (st : List Value) (h : fk_H), fk_ev d qX12_merges 282 L (.int y :: .int x :: st) h = fk_ev d qX12_merges 283 L (.int (x + y) :: st) h) ∧
  (∀ (d : Nat) (L : List Value) (x0 : Int32) (x1 : Int32) (w0 w1 : Value) (h : fk_H), fk_ev (d + 1) qX12_merges 283 L (.int x1 :: .int x0 :: [w0, w1]) h = (fk_ev d qX12_min 0 [.int x0, .int x1] [] h).bind fun o => fk_ev (d + 1) qX12_merges 286 L (o.1.toList ++ [w0, w1]) o.2) ∧
  (∀ (d : Nat) (L st : List Value) (N : Nat) (y : Nat → Nat → Int32) (l : Nat → Nat → Int64) (i : Nat) (v : Int32), i < 3912 → fk_ev d qX12_merges 286 L (.int v :: .int (nI i) :: .ref 247 :: st) (fk_E N y l) = fk_ev d qX12_merges 287 L st (fk_E N (fk_u y 247 i v) l)) ∧
  (∀ (d : Nat) (a1 a2 a3 a4 a5 : Value) (x : Nat) (st : List Value) (h : fk_H), fk_ev d qX12_merges 287 [.ref x, a1, a2, a3, a4, a5] st h = fk_ev d qX12_merges 288 [.ref x, a1, a2, a3, a4, a5] (.ref x :: st) h) ∧
  (∀ (d : Nat) (L st : List Value) (N : Nat) (y : Nat → Nat → Int32) (l : Nat → Nat → Int64), fk_ev d qX12_merges 288 L (.ref 246 :: st) (fk_E N y l) = fk_ev d qX12_merges 291 L (.ref 247 :: st) (fk_E N y l)) ∧
  (∀ (d : Nat) (L st : List Value) (h : fk_H), fk_ev d qX12_merges 291 L st h = fk_ev d qX12_merges 294 L (.int (nI 512) :: st) h) ∧
  (∀ (d : Nat) (a0 a2 a3 a4 a5 : Value) (x : Int32) (st : List Value) (h : fk_H), fk_ev d qX12_merges 294 [a0, .int x, a2, a3, a4, a5] st h = fk_ev d qX12_merges 295 [a0, .int x, a2, a3, a4, a5] (.int x :: st) h) ∧
  (∀ (d : Nat) (L : List Value) (x y : Int32) (st : List Value) (h : fk_H), fk_ev d qX12_merges 295 L (.int y :: .int x :: st) h = fk_ev d qX12_merges 296 L (.int (x + y) :: st) h) ∧
  (∀ (d : Nat) (a1 a2 a3 a4 a5 : Value) (x : Nat) (st : List Value) (h : fk_H), fk_ev d qX12_merges 296 [.ref x, a1, a2, a3, a4, a5] st h = fk_ev d qX12_merges 297 [.ref x, a1, a2, a3, a4, a5] (.ref x :: st) h) ∧
  (∀ (d : Nat) (L st : List Value) (N : Nat) (y : Nat → Nat → Int32) (l : Nat → Nat → Int64), fk_ev d qX12_merges 297 L (.ref 246 :: st) (fk_E N y l) = fk_ev d qX12_merges 300 L (.ref 247 :: st) (fk_E N y l)) ∧
  (∀ (d : Nat) (L st : List Value) (h : fk_H), fk_ev d qX12_merges 300 L st h = fk_ev d qX12_merges 303 L (.int (nI 512) :: st) h) ∧
  (∀ (d : Nat) (a0 a2 a3 a4 a5 : Value) (x : Int32) (st : List Value) (h : fk_H), fk_ev d qX12_merges 303 [a0, .int x, a2, a3, a4, a5] st h = fk_ev d qX12_merges 304 [a0, .int x, a2, a3, a4, a5] (.int x :: st) h) ∧
  (∀ (d : Nat) (L : List Value) (x y : Int32) (st : List Value) (h : fk_H), fk_ev d qX12_merges 304 L (.int y :: .int x :: st) h = fk_ev d qX12_merges 305 L (.int (x + y) :: st) h) ∧
  (∀ (d : Nat) (L st : List Value) (N : Nat) (y : Nat → Nat → Int32) (l : Nat → Nat → Int64) (i : Nat), i < 3912 → fk_ev d qX12_merges 305 L (.int (nI i) :: .ref 247 :: st) (fk_E N y l) = fk_ev d qX12_merges 306 L (.int (y 247 i) :: st) (fk_E N y l)) ∧
  (∀ (d : Nat) (a1 a2 a3 a4 a5 : Value) (x : Nat) (st : List Value) (h : fk_H), fk_ev d qX12_merges 306 [.ref x, a1, a2, a3, a4, a5] st h = fk_ev d qX12_merges 307 [.ref x, a1, a2, a3, a4, a5] (.ref x :: st) h) ∧
  (∀ (d : Nat) (L st : List Value) (N : Nat) (y : Nat → Nat → Int32) (l : Nat → Nat → Int64), fk_ev d qX12_merges 307 L (.ref 246 :: st) (fk_E N y l) = fk_ev d qX12_merges 310 L (.ref 247 :: st) (fk_E N y l)) ∧
  (∀ (d : Nat) (L st : List Value) (h : fk_H), fk_ev d qX12_merges 310 L st h = fk_ev d qX12_merges 313 L (.int (nI 512) :: st) h) ∧
  (∀ (d : Nat) (a0 a1 a3 a4 a5 : Value) (x : Int32) (st : List Value) (h : fk_H), fk_ev d qX12_merges 313 [a0, a1, .int x, a3, a4, a5] st h = fk_ev d qX12_merges 314 [a0, a1, .int x, a3, a4, a5] (.int x :: st) h) ∧
  (∀ (d : Nat) (L : List Value) (x y : Int32) (st : List Value) (h : fk_H), fk_ev d qX12_merges 314 L (.int y :: .int x :: st) h = fk_ev d qX12_merges 315 L (.int (x + y) :: st) h) ∧
  (∀ (d : Nat) (L st : List Value) (N : Nat) (y : Nat → Nat → Int32) (l : Nat → Nat → Int64) (i : Nat), i < 3912 → fk_ev d qX12_merges 315 L (.int (nI i) :: .ref 247 :: st) (fk_E N y l) = fk_ev d qX12_merges 316 L (.int (y 247 i) :: st) (fk_E N y l)) ∧
  (∀ (d : Nat) (L : List Value) (x0 : Int32) (x1 : Int32) (w0 w1 : Value) (h : fk_H), fk_ev (d + 1) qX12_merges 316 L (.int x1 :: .int x0 :: [w0, w1]) h = (fk_ev d qX12_max 0 [.int x0, .int x1] [] h).bind fun o => fk_ev (d + 1) qX12_merges 319 L (o.1.toList ++ [w0, w1]) o.2) ∧
  (∀ (d : Nat) (L st : List Value) (N : Nat) (y : Nat → Nat → Int32) (l : Nat → Nat → Int64) (i : Nat) (v : Int32), i < 3912 → fk_ev d qX12_merges 319 L (.int v :: .int (nI i) :: .ref 247 :: st) (fk_E N y l) = fk_ev d qX12_merges 320 L st (fk_E N (fk_u y 247 i v) l)) ∧
  (∀ (d : Nat) (a1 a2 a3 a4 a5 : Value) (x : Nat) (st : List Value) (h : fk_H), fk_ev d qX12_merges 320 [.ref x, a1, a2, a3, a4, a5] st h = fk_ev d qX12_merges 321 [.ref x, a1, a2, a3, a4, a5] (.ref x :: st) h) ∧
  (∀ (d : Nat) (L st : List Value) (N : Nat) (y : Nat → Nat → Int32) (l : Nat → Nat → Int64), fk_ev d qX12_merges 321 L (.ref 246 :: st) (fk_E N y l) = fk_ev d qX12_merges 324 L (.ref 247 :: st) (fk_E N y l)) ∧
  (∀ (d : Nat) (L st : List Value) (h : fk_H), fk_ev d qX12_merges 324 L st h = fk_ev d qX12_merges 327 L (.int (nI 192) :: st) h) ∧
  (∀ (d : Nat) (a0 a1 a3 a4 a5 : Value) (x : Int32) (st : List Value) (h : fk_H), fk_ev d qX12_merges 327 [a0, a1, .int x, a3, a4, a5] st h = fk_ev d qX12_merges 328 [a0, a1, .int x, a3, a4, a5] (.int x :: st) h) ∧
  (∀ (d : Nat) (L : List Value) (x y : Int32) (st : List Value) (h : fk_H), fk_ev d qX12_merges 328 L (.int y :: .int x :: st) h = fk_ev d qX12_merges 329 L (.int (x + y) :: st) h) ∧
  (∀ (d : Nat) (L st : List Value) (h : fk_H), fk_ev d qX12_merges 329 L st h = fk_ev d qX12_merges 330 L (.int (nI 3) :: st) h) ∧
  (∀ (d : Nat) (L st : List Value) (N : Nat) (y : Nat → Nat → Int32) (l : Nat → Nat → Int64) (i : Nat) (v : Int32), i < 3912 → fk_ev d qX12_merges 330 L (.int v :: .int (nI i) :: .ref 247 :: st) (fk_E N y l) = fk_ev d qX12_merges 331 L st (fk_E N (fk_u y 247 i v) l)) ∧
  (∀ (d : Nat) (a1 a2 a3 a4 a5 : Value) (x : Nat) (st : List Value) (h : fk_H), fk_ev d qX12_merges 331 [.ref x, a1, a2, a3, a4, a5] st h = fk_ev d qX12_merges 332 [.ref x, a1, a2, a3, a4, a5] (.ref x :: st) h) ∧
  (∀ (d : Nat) (L st : List Value) (N : Nat) (y : Nat → Nat → Int32) (l : Nat → Nat → Int64), fk_ev d qX12_merges 332 L (.ref 246 :: st) (fk_E N y l) = fk_ev d qX12_merges 335 L (.ref 247 :: st) (fk_E N y l)) ∧
  (∀ (d : Nat) (L st : List Value) (h : fk_H), fk_ev d qX12_merges 335 L st h = fk_ev d qX12_merges 338 L (.int (nI 640) :: st) h) ∧
  (∀ (d : Nat) (a0 a1 a3 a4 a5 : Value) (x : Int32) (st : List Value) (h : fk_H), fk_ev d qX12_merges 338 [a0, a1, .int x, a3, a4, a5] st h = fk_ev d qX12_merges 339 [a0, a1, .int x, a3, a4, a5] (.int x :: st) h) ∧
  (∀ (d : Nat) (L : List Value) (x y : Int32) (st : List Value) (h : fk_H), fk_ev d qX12_merges 339 L (.int y :: .int x :: st) h = fk_ev d qX12_merges 340 L (.int (x + y) :: st) h) ∧
  (∀ (d : Nat) (a0 a2 a3 a4 a5 : Value) (x : Int32) (st : List Value) (h : fk_H), fk_ev d qX12_merges 340 [a0, .int x, a2, a3, a4, a5] st h = fk_ev d qX12_merges 341 [a0, .int x, a2, a3, a4, a5] (.int x :: st) h) ∧
  (∀ (d : Nat) (L st : List Value) (N : Nat) (y : Nat → Nat → Int32) (l : Nat → Nat → Int64) (i : Nat) (v : Int32), i < 3912 → fk_ev d qX12_merges 341 L (.int v :: .int (nI i) :: .ref 247 :: st) (fk_E N y l) = fk_ev d qX12_merges 342 L st (fk_E N (fk_u y 247 i v) l)) ∧
  (∀ (d : Nat) (a1 a2 a3 a4 a5 : Value) (x : Nat) (st : List Value) (h : fk_H), fk_ev d qX12_merges 342 [.ref x, a1, a2, a3, a4, a5] st h = fk_ev d qX12_merges 343 [.ref x, a1, a2, a3, a4, a5] (.ref x :: st) h) ∧
  (∀ (d : Nat) (L st : List Value) (N : Nat) (y : Nat → Nat → Int32) (l : Nat → Nat → Int64), fk_ev d qX12_merges 343 L (.ref 246 :: st) (fk_E N y l) = fk_ev d qX12_merges 346 L (.ref 247 :: st) (fk_E N y l)) ∧
  (∀ (d : Nat) (L st : List Value) (h : fk_H), fk_ev d qX12_merges 346 L st h = fk_ev d qX12_merges 349 L (.int (nI 837) :: st) h) ∧
  (∀ (d : Nat) (a1 a2 a3 a4 a5 : Value) (x : Nat) (st : List Value) (h : fk_H), fk_ev d qX12_merges 349 [.ref x, a1, a2, a3, a4, a5] st h = fk_ev d qX12_merges 350 [.ref x, a1, a2, a3, a4, a5] (.ref x :: st) h) ∧
  (∀ (d : Nat) (L st : List Value) (N : Nat) (y : Nat → Nat → Int32) (l : Nat → Nat → Int64), fk_ev d qX12_merges 350 L (.ref 246 :: st) (fk_E N y l) = fk_ev d qX12_merges 353 L (.ref 247 :: st) (fk_E N y l)) ∧
  (∀ (d : Nat) (L st : List Value) (h : fk_H), fk_ev d qX12_merges 353 L st h = fk_ev d qX12_merges 356 L (.int (nI 837) :: st) h) ∧
  (∀ (d : Nat) (L st : List Value) (N : Nat) (y : Nat → Nat → Int32) (l : Nat → Nat → Int64) (i : Nat), i < 3912 → fk_ev d qX12_merges 356 L (.int (nI i) :: .ref 247 :: st) (fk_E N y l) = fk_ev d qX12_merges 357 L (.int (y 247 i) :: st) (fk_E N y l)) ∧
  (∀ (d : Nat) (L st : List Value) (h : fk_H), fk_ev d qX12_merges 357 L st h = fk_ev d qX12_merges 358 L (.int (nI 1) :: st) h) ∧
  (∀ (d : Nat) (L : List Value) (x y : Int32) (st : List Value) (h : fk_H), fk_ev d qX12_merges 358 L (.int y :: .int x :: st) h = fk_ev d qX12_merges 359 L (.int (x + y) :: st) h) ∧
  (∀ (d : Nat) (L st : List Value) (N : Nat) (y : Nat → Nat → Int32) (l : Nat → Nat → Int64) (i : Nat) (v : Int32), i < 3912 → fk_ev d qX12_merges 359 L (.int v :: .int (nI i) :: .ref 247 :: st) (fk_E N y l) = fk_ev d qX12_merges 360 L st (fk_E N (fk_u y 247 i v) l)) ∧
  (∀ (d : Nat) (a1 a2 a3 a4 a5 : Value) (x : Nat) (st : List Value) (h : fk_H), fk_ev d qX12_merges 360 [.ref x, a1, a2, a3, a4, a5] st h = fk_ev d qX12_merges 361 [.ref x, a1, a2, a3, a4, a5] (.ref x :: st) h) ∧
  (∀ (d : Nat) (L st : List Value) (N : Nat) (y : Nat → Nat → Int32) (l : Nat → Nat → Int64), fk_ev d qX12_merges 361 L (.ref 246 :: st) (fk_E N y l) = fk_ev d qX12_merges 364 L (.ref 269 :: st) (fk_E N y l)) ∧
  (∀ (d : Nat) (a0 a2 a3 a4 a5 : Value) (x : Int32) (st : List Value) (h : fk_H), fk_ev d qX12_merges 364 [a0, .int x, a2, a3, a4, a5] st h = fk_ev d qX12_merges 365 [a0, .int x, a2, a3, a4, a5] (.int x :: st) h) ∧
  (∀ (d : Nat) (a1 a2 a3 a4 a5 : Value) (x : Nat) (st : List Value) (h : fk_H), fk_ev d qX12_merges 365 [.ref x, a1, a2, a3, a4, a5] st h = fk_ev d qX12_merges 366 [.ref x, a1, a2, a3, a4, a5] (.ref x :: st) h) ∧
  (∀ (d : Nat) (L st : List Value) (N : Nat) (y : Nat → Nat → Int32) (l : Nat → Nat → Int64), fk_ev d qX12_merges 366 L (.ref 246 :: st) (fk_E N y l) = fk_ev d qX12_merges 369 L (.ref 269 :: st) (fk_E N y l)) ∧
  (∀ (d : Nat) (a0 a2 a3 a4 a5 : Value) (x : Int32) (st : List Value) (h : fk_H), fk_ev d qX12_merges 369 [a0, .int x, a2, a3, a4, a5] st h = fk_ev d qX12_merges 370 [a0, .int x, a2, a3, a4, a5] (.int x :: st) h) ∧
  (∀ (d : Nat) (L st : List Value) (N : Nat) (y : Nat → Nat → Int32) (l : Nat → Nat → Int64) (i : Nat), i < 64 → fk_ev d qX12_merges 370 L (.int (nI i) :: .ref 269 :: st) (fk_E N y l) = fk_ev d qX12_merges 371 L (.int (y 269 i) :: st) (fk_E N y l)) ∧
  (∀ (d : Nat) (L : List Value) (x : Int32) (st : List Value) (h : fk_H), fk_ev d qX12_merges 371 L (.int x :: st) h = if ¬ x = nI 0 then fk_ev d qX12_merges 383 L st h else fk_ev d qX12_merges 374 L st h) ∧
  (∀ (d : Nat) (a1 a2 a3 a4 a5 : Value) (x : Nat) (st : List Value) (h : fk_H), fk_ev d qX12_merges 374 [.ref x, a1, a2, a3, a4, a5] st h = fk_ev d qX12_merges 375 [.ref x, a1, a2, a3, a4, a5] (.ref x :: st) h) ∧
  (∀ (d : Nat) (L st : List Value) (N : Nat) (y : Nat → Nat → Int32) (l : Nat → Nat → Int64), fk_ev d qX12_merges 375 L (.ref 246 :: st) (fk_E N y l) = fk_ev d qX12_merges 378 L (.ref 269 :: st) (fk_E N y l)) ∧
  (∀ (d : Nat) (a0 a1 a3 a4 a5 : Value) (x : Int32) (st : List Value) (h : fk_H), fk_ev d qX12_merges 378 [a0, a1, .int x, a3, a4, a5] st h = fk_ev d qX12_merges 379 [a0, a1, .int x, a3, a4, a5] (.int x :: st) h) ∧
  (∀ (d : Nat) (L st : List Value) (N : Nat) (y : Nat → Nat → Int32) (l : Nat → Nat → Int64) (i : Nat), i < 64 → fk_ev d qX12_merges 379 L (.int (nI i) :: .ref 269 :: st) (fk_E N y l) = fk_ev d qX12_merges 380 L (.int (y 269 i) :: st) (fk_E N y l)) ∧
  (∀ (d : Nat) (L : List Value) (x : Int32) (st : List Value) (h : fk_H), fk_ev d qX12_merges 380 L (.int x :: st) h = if x = nI 0 then fk_ev d qX12_merges 387 L st h else fk_ev d qX12_merges 383 L st h) ∧
  (∀ (d : Nat) (L st : List Value) (h : fk_H), fk_ev d qX12_merges 383 L st h = fk_ev d qX12_merges 384 L (.int (nI 1) :: st) h) ∧
  (∀ (d : Nat) (L st : List Value) (h : fk_H), fk_ev d qX12_merges 384 L st h = fk_ev d qX12_merges 388 L st h) ∧
  (∀ (d : Nat) (L st : List Value) (h : fk_H), fk_ev d qX12_merges 387 L st h = fk_ev d qX12_merges 388 L (.int (nI 0) :: st) h) ∧
  (∀ (d : Nat) (L st : List Value) (N : Nat) (y : Nat → Nat → Int32) (l : Nat → Nat → Int64) (i : Nat) (v : Int32), i < 64 → fk_ev d qX12_merges 388 L (.int v :: .int (nI i) :: .ref 269 :: st) (fk_E N y l) = fk_ev d qX12_merges 389 L st (fk_E N (fk_u y 269 i (vp_nar .boolean v)) l)) ∧
  (∀ (d : Nat) (L : List Value) (h : fk_H), fk_ev d qX12_merges 389 L [] h = some (none, h)) := ⟨fun d a1 a2 a3 a4 a5 x st h => fk_w_aloadn 0 [.ref x, a1, a2, a3, a4, a5] dX12_merges_0 rfl,
  fun d L st N y l => fk_g_getC rfl lf_12_7 (by decide) rfl dX12_merges_1 fk_at_246,
  fun d L st h => fk_w_sipush dX12_merges_4 (by decide),
  fun d a0 a2 a3 a4 a5 x st h => fk_w_iloadn 1 [a0, .int x, a2, a3, a4, a5] dX12_merges_7 rfl,
  fun d L x y st h => fk_r_iadd dX12_merges_8,
  fun d L st N y l i hi => fk_g_iald fk_at_247 fk_ln_247 (by decide) dX12_merges_9 hi,
  fun d a1 a2 a3 a4 a5 x st h => fk_w_aloadn 0 [.ref x, a1, a2, a3, a4, a5] dX12_merges_10 rfl,
  fun d L st N y l => fk_g_getC rfl lf_12_7 (by decide) rfl dX12_merges_11 fk_at_246,
  fun d L st h => fk_w_sipush dX12_merges_14 (by decide),
  fun d a0 a1 a3 a4 a5 x st h => fk_w_iloadn 2 [a0, a1, .int x, a3, a4, a5] dX12_merges_17 rfl,
  fun d L x y st h => fk_r_iadd dX12_merges_18,
  fun d L st N y l i hi => fk_g_iald fk_at_247 fk_ln_247 (by decide) dX12_merges_19 hi,
  fun d L x y st h => fk_r_iand dX12_merges_20,
  fun d a1 a2 a3 a4 a5 x st h => fk_w_aloadn 0 [.ref x, a1, a2, a3, a4, a5] dX12_merges_21 rfl,
  fun d L st N y l => fk_g_getC rfl lf_12_7 (by decide) rfl dX12_merges_22 fk_at_246,
  fun d L st h => fk_w_sipush dX12_merges_25 (by decide),
  fun d a0 a2 a3 a4 a5 x st h => fk_w_iloadn 1 [a0, .int x, a2, a3, a4, a5] dX12_merges_28 rfl,
  fun d L x y st h => fk_r_iadd dX12_merges_29,
  fun d L st N y l i hi => fk_g_iald fk_at_247 fk_ln_247 (by decide) dX12_merges_30 hi,
  fun d a1 a2 a3 a4 a5 x st h => fk_w_aloadn 0 [.ref x, a1, a2, a3, a4, a5] dX12_merges_31 rfl,
  fun d L st N y l => fk_g_getC rfl lf_12_7 (by decide) rfl dX12_merges_32 fk_at_246,
  fun d L st h => fk_w_sipush dX12_merges_35 (by decide),
  fun d a0 a1 a3 a4 a5 x st h => fk_w_iloadn 2 [a0, a1, .int x, a3, a4, a5] dX12_merges_38 rfl,
  fun d L x y st h => fk_r_iadd dX12_merges_39,
  fun d L st N y l i hi => fk_g_iald fk_at_247 fk_ln_247 (by decide) dX12_merges_40 hi,
  fun d L x y st h => fk_r_ixor dX12_merges_41,
  fun d L x y st h => fk_r_iand dX12_merges_42,
  fun d a0 a1 a2 a3 a4 a5 x st h => fk_w_istoren 3 6 [] [a0, a1, a2, a3, a4, a5] [a0, a1, a2, .int x, a4, a5] dX12_merges_43 rfl rfl (by decide) rfl,
  fun d L st h => fk_w_iconst dX12_merges_44 (by decide),
  fun d a0 a1 a2 a3 a4 a5 x st h => fk_w_istore 4 6 [] [a0, a1, a2, a3, a4, a5] [a0, a1, a2, a3, .int x, a5] dX12_merges_45 rfl rfl (by decide) rfl,
  fun d a1 a2 a3 a4 a5 x st h => fk_w_aloadn 0 [.ref x, a1, a2, a3, a4, a5] dX12_merges_47 rfl,
  fun d a0 a2 a3 a4 a5 x st h => fk_w_iloadn 1 [a0, .int x, a2, a3, a4, a5] dX12_merges_48 rfl,
  fun d L x0 N y l  => fk_g_call [.int x0] [] rfl lm_12_263 dX12_merges_49 rfl ⟨rfl, by decide⟩ (by simp) fk_at_246,
  fun d L st h => fk_w_iconst dX12_merges_52 (by decide),
  fun d a0 a1 a2 a3 a4 a5 x st h => fk_w_istore 5 6 [] [a0, a1, a2, a3, a4, a5] [a0, a1, a2, a3, a4, .int x] dX12_merges_53 rfl rfl (by decide) rfl,
  fun d L st h => fk_w_bipush dX12_merges_57 (by decide),
  fun d L x y st h => fk_r_icmp_ge dX12_merges_59 (by decide),
  fun d a0 a1 a2 a4 a5 x st h => fk_w_iloadn 3 [a0, a1, a2, .int x, a4, a5] dX12_merges_62 rfl,
  fun d a0 a1 a2 a3 a4 x st h => fk_w_iload 5 [a0, a1, a2, a3, a4, .int x] dX12_merges_63 rfl,
  fun d L x0 x1 h => fk_g_calls [.int x0, .int x1] [] rfl lm_12_108 dX12_merges_65 rfl ⟨rfl, by decide⟩ (by simp),
  fun d L x st h => fk_r_if_ne dX12_merges_68 (by decide),
  fun d L st h => fk_r_goto dX12_merges_71 (by decide),
  fun d a1 a2 a3 a4 a5 x st h => fk_w_aloadn 0 [.ref x, a1, a2, a3, a4, a5] dX12_merges_74 rfl,
  fun d L st N y l => fk_g_getC rfl lf_12_75 (by decide) rfl dX12_merges_75 fk_at_246,
  fun d L st h => fk_w_bipush dX12_merges_78 (by decide),
  fun d a0 a1 a2 a3 a4 x st h => fk_w_iload 5 [a0, a1, a2, a3, a4, .int x] dX12_merges_80 rfl,
  fun d L st N y l i v hi => fk_g_iast fk_at_268 fk_ln_268 (by decide) dX12_merges_82 hi,
  fun d a1 a2 a3 a4 a5 x st h => fk_w_aloadn 0 [.ref x, a1, a2, a3, a4, a5] dX12_merges_83 rfl,
  fun d L st N y l => fk_g_getC rfl lf_12_75 (by decide) rfl dX12_merges_84 fk_at_246,
  fun d L st h => fk_w_bipush dX12_merges_87 (by decide),
  fun d a0 a1 a3 a4 a5 x st h => fk_w_iloadn 2 [a0, a1, .int x, a3, a4, a5] dX12_merges_89 rfl,
  fun d L st N y l i v hi => fk_g_iast fk_at_268 fk_ln_268 (by decide) dX12_merges_90 hi,
  fun d a1 a2 a3 a4 a5 x st h => fk_w_aloadn 0 [.ref x, a1, a2, a3, a4, a5] dX12_merges_91 rfl,
  fun d L  N y l  => fk_g_call [] [] rfl lm_12_275 dX12_merges_92 rfl ⟨rfl, by decide⟩ (by simp) fk_at_246,
  fun d L x st h => fk_r_if_ne dX12_merges_95 (by decide),
  fun d a0 a1 a2 a3 a5 x st h => fk_w_iload 4 [a0, a1, a2, a3, .int x, a5] dX12_merges_98 rfl,
  fun d L st h => fk_w_iconst dX12_merges_100 (by decide),
  fun d a0 a1 a2 a3 a4 x st h => fk_w_iload 5 [a0, a1, a2, a3, a4, .int x] dX12_merges_101 rfl,
  fun d L x y st h => fk_r_ishl dX12_merges_103,
  fun d L x y st h => fk_r_ior dX12_merges_104,
  fun d a0 a1 a2 a3 a4 a5 x st h => fk_w_istore 4 6 [] [a0, a1, a2, a3, a4, a5] [a0, a1, a2, a3, .int x, a5] dX12_merges_105 rfl rfl (by decide) rfl,
  fun d a0 a1 a2 a3 a4 x st h => fk_w_iinc 5 6 (1) [] [a0, a1, a2, a3, a4, .int x] [a0, a1, a2, a3, a4, .int (x + nI 1)] dX12_merges_107 rfl rfl rfl (by decide) rfl,
  fun d L st h => fk_r_goto dX12_merges_110 (by decide),
  fun d a1 a2 a3 a4 a5 x st h => fk_w_aloadn 0 [.ref x, a1, a2, a3, a4, a5] dX12_merges_113 rfl,
  fun d L st N y l => fk_g_getC rfl lf_12_7 (by decide) rfl dX12_merges_114 fk_at_246,
  fun d L st h => fk_w_sipush dX12_merges_117 (by decide),
  fun d a1 a2 a3 a4 a5 x st h => fk_w_aloadn 0 [.ref x, a1, a2, a3, a4, a5] dX12_merges_120 rfl,
  fun d L st N y l => fk_g_getC rfl lf_12_7 (by decide) rfl dX12_merges_121 fk_at_246,
  fun d L st h => fk_w_sipush dX12_merges_124 (by decide),
  fun d L st N y l i hi => fk_g_iald fk_at_247 fk_ln_247 (by decide) dX12_merges_127 hi,
  fun d a0 a1 a2 a3 a5 x st h => fk_w_iload 4 [a0, a1, a2, a3, .int x, a5] dX12_merges_128 rfl,
  fun d L x0 w0 w1 w2 h => fk_g_calls [.int x0] [w0, w1, w2] rfl lm_12_260 dX12_merges_130 rfl ⟨rfl, by decide⟩ (by simp),
  fun d L x y st h => fk_r_iadd dX12_merges_133,
  fun d L st N y l i v hi => fk_g_iast fk_at_247 fk_ln_247 (by decide) dX12_merges_134 hi,
  fun d a1 a2 a3 a4 a5 x st h => fk_w_aloadn 0 [.ref x, a1, a2, a3, a4, a5] dX12_merges_135 rfl,
  fun d L st N y l => fk_g_getC rfl lf_12_7 (by decide) rfl dX12_merges_136 fk_at_246,
  fun d L st h => fk_w_sipush dX12_merges_139 (by decide),
  fun d a0 a2 a3 a4 a5 x st h => fk_w_iloadn 1 [a0, .int x, a2, a3, a4, a5] dX12_merges_142 rfl,
  fun d L x y st h => fk_r_iadd dX12_merges_143,
  fun d a1 a2 a3 a4 a5 x st h => fk_w_aloadn 0 [.ref x, a1, a2, a3, a4, a5] dX12_merges_144 rfl,
  fun d L st N y l => fk_g_getC rfl lf_12_7 (by decide) rfl dX12_merges_145 fk_at_246,
  fun d L st h => fk_w_sipush dX12_merges_148 (by decide),
  fun d a0 a2 a3 a4 a5 x st h => fk_w_iloadn 1 [a0, .int x, a2, a3, a4, a5] dX12_merges_151 rfl,
  fun d L x y st h => fk_r_iadd dX12_merges_152,
  fun d L st N y l i hi => fk_g_iald fk_at_247 fk_ln_247 (by decide) dX12_merges_153 hi,
  fun d a1 a2 a3 a4 a5 x st h => fk_w_aloadn 0 [.ref x, a1, a2, a3, a4, a5] dX12_merges_154 rfl,
  fun d L st N y l => fk_g_getC rfl lf_12_7 (by decide) rfl dX12_merges_155 fk_at_246,
  fun d L st h => fk_w_sipush dX12_merges_158 (by decide),
  fun d a0 a1 a3 a4 a5 x st h => fk_w_iloadn 2 [a0, a1, .int x, a3, a4, a5] dX12_merges_161 rfl,
  fun d L x y st h => fk_r_iadd dX12_merges_162,
  fun d L st N y l i hi => fk_g_iald fk_at_247 fk_ln_247 (by decide) dX12_merges_163 hi,
  fun d a1 a2 a3 a4 a5 x st h => fk_w_aloadn 0 [.ref x, a1, a2, a3, a4, a5] dX12_merges_164 rfl,
  fun d L st N y l => fk_g_getC rfl lf_12_7 (by decide) rfl dX12_merges_165 fk_at_246,
  fun d L st h => fk_w_sipush dX12_merges_168 (by decide),
  fun d a0 a2 a3 a4 a5 x st h => fk_w_iloadn 1 [a0, .int x, a2, a3, a4, a5] dX12_merges_171 rfl,
  fun d L x y st h => fk_r_iadd dX12_merges_172,
  fun d L st N y l i hi => fk_g_iald fk_at_247 fk_ln_247 (by decide) dX12_merges_173 hi,
  fun d L st h => fk_w_iconst dX12_merges_174 (by decide),
  fun d L x y st h => fk_r_ixor dX12_merges_175,
  fun d L x y st h => fk_r_iand dX12_merges_176,
  fun d L x y st h => fk_r_ior dX12_merges_177,
  fun d a0 a1 a2 a3 a5 x st h => fk_w_iload 4 [a0, a1, a2, a3, .int x, a5] dX12_merges_178 rfl,
  fun d L st h => fk_w_iconst dX12_merges_180 (by decide),
  fun d L x y st h => fk_r_ixor dX12_merges_181,
  fun d L x y st h => fk_r_iand dX12_merges_182,
  fun d L st N y l i v hi => fk_g_iast fk_at_247 fk_ln_247 (by decide) dX12_merges_183 hi,
  fun d a1 a2 a3 a4 a5 x st h => fk_w_aloadn 0 [.ref x, a1, a2, a3, a4, a5] dX12_merges_184 rfl,
  fun d L st N y l => fk_g_getC rfl lf_12_7 (by decide) rfl dX12_merges_185 fk_at_246,
  fun d L st h => fk_w_sipush dX12_merges_188 (by decide),
  fun d a0 a2 a3 a4 a5 x st h => fk_w_iloadn 1 [a0, .int x, a2, a3, a4, a5] dX12_merges_191 rfl,
  fun d L x y st h => fk_r_iadd dX12_merges_192,
  fun d a1 a2 a3 a4 a5 x st h => fk_w_aloadn 0 [.ref x, a1, a2, a3, a4, a5] dX12_merges_193 rfl,
  fun d L st N y l => fk_g_getC rfl lf_12_7 (by decide) rfl dX12_merges_194 fk_at_246,
  fun d L st h => fk_w_sipush dX12_merges_197 (by decide),
  fun d a0 a2 a3 a4 a5 x st h => fk_w_iloadn 1 [a0, .int x, a2, a3, a4, a5] dX12_merges_200 rfl,
  fun d L x y st h => fk_r_iadd dX12_merges_201,
  fun d L st N y l i hi => fk_g_iald fk_at_247 fk_ln_247 (by decide) dX12_merges_202 hi,
  fun d a1 a2 a3 a4 a5 x st h => fk_w_aloadn 0 [.ref x, a1, a2, a3, a4, a5] dX12_merges_203 rfl,
  fun d L st N y l => fk_g_getC rfl lf_12_7 (by decide) rfl dX12_merges_204 fk_at_246,
  fun d L st h => fk_w_sipush dX12_merges_207 (by decide),
  fun d a0 a1 a3 a4 a5 x st h => fk_w_iloadn 2 [a0, a1, .int x, a3, a4, a5] dX12_merges_210 rfl,
  fun d L x y st h => fk_r_iadd dX12_merges_211,
  fun d L st N y l i hi => fk_g_iald fk_at_247 fk_ln_247 (by decide) dX12_merges_212 hi,
  fun d L x y st h => fk_r_ior dX12_merges_213,
  fun d a0 a1 a2 a3 a5 x st h => fk_w_iload 4 [a0, a1, a2, a3, .int x, a5] dX12_merges_214 rfl,
  fun d L st h => fk_w_iconst dX12_merges_216 (by decide),
  fun d L x y st h => fk_r_ixor dX12_merges_217,
  fun d L x y st h => fk_r_iand dX12_merges_218,
  fun d L st N y l i v hi => fk_g_iast fk_at_247 fk_ln_247 (by decide) dX12_merges_219 hi,
  fun d a1 a2 a3 a4 a5 x st h => fk_w_aloadn 0 [.ref x, a1, a2, a3, a4, a5] dX12_merges_220 rfl,
  fun d L st N y l => fk_g_getC rfl lf_12_7 (by decide) rfl dX12_merges_221 fk_at_246,
  fun d L st h => fk_w_sipush dX12_merges_224 (by decide),
  fun d a0 a2 a3 a4 a5 x st h => fk_w_iloadn 1 [a0, .int x, a2, a3, a4, a5] dX12_merges_227 rfl,
  fun d L x y st h => fk_r_iadd dX12_merges_228,
  fun d a1 a2 a3 a4 a5 x st h => fk_w_aloadn 0 [.ref x, a1, a2, a3, a4, a5] dX12_merges_229 rfl,
  fun d L st N y l => fk_g_getC rfl lf_12_7 (by decide) rfl dX12_merges_230 fk_at_246,
  fun d L st h => fk_w_sipush dX12_merges_233 (by decide),
  fun d a0 a2 a3 a4 a5 x st h => fk_w_iloadn 1 [a0, .int x, a2, a3, a4, a5] dX12_merges_236 rfl,
  fun d L x y st h => fk_r_iadd dX12_merges_237,
  fun d L st N y l i hi => fk_g_iald fk_at_247 fk_ln_247 (by decide) dX12_merges_238 hi,
  fun d a1 a2 a3 a4 a5 x st h => fk_w_aloadn 0 [.ref x, a1, a2, a3, a4, a5] dX12_merges_239 rfl,
  fun d L st N y l => fk_g_getC rfl lf_12_7 (by decide) rfl dX12_merges_240 fk_at_246,
  fun d L st h => fk_w_sipush dX12_merges_243 (by decide),
  fun d a0 a1 a3 a4 a5 x st h => fk_w_iloadn 2 [a0, a1, .int x, a3, a4, a5] dX12_merges_246 rfl,
  fun d L x y st h => fk_r_iadd dX12_merges_247,
  fun d L st N y l i hi => fk_g_iald fk_at_247 fk_ln_247 (by decide) dX12_merges_248 hi,
  fun d L x y st h => fk_r_iadd dX12_merges_249,
  fun d L st N y l i v hi => fk_g_iast fk_at_247 fk_ln_247 (by decide) dX12_merges_250 hi,
  fun d a1 a2 a3 a4 a5 x st h => fk_w_aloadn 0 [.ref x, a1, a2, a3, a4, a5] dX12_merges_251 rfl,
  fun d L st N y l => fk_g_getC rfl lf_12_7 (by decide) rfl dX12_merges_252 fk_at_246,
  fun d L st h => fk_w_sipush dX12_merges_255 (by decide),
  fun d a0 a2 a3 a4 a5 x st h => fk_w_iloadn 1 [a0, .int x, a2, a3, a4, a5] dX12_merges_258 rfl,
  fun d L x y st h => fk_r_iadd dX12_merges_259,
  fun d L st h => fk_g_ldc rfl lc_12_147 (by decide) dX12_merges_260,
  fun d a1 a2 a3 a4 a5 x st h => fk_w_aloadn 0 [.ref x, a1, a2, a3, a4, a5] dX12_merges_262 rfl,
  fun d L st N y l => fk_g_getC rfl lf_12_7 (by decide) rfl dX12_merges_263 fk_at_246,
  fun d L st h => fk_w_sipush dX12_merges_266 (by decide),
  fun d a0 a2 a3 a4 a5 x st h => fk_w_iloadn 1 [a0, .int x, a2, a3, a4, a5] dX12_merges_269 rfl,
  fun d L x y st h => fk_r_iadd dX12_merges_270,
  fun d L st N y l i hi => fk_g_iald fk_at_247 fk_ln_247 (by decide) dX12_merges_271 hi,
  fun d a1 a2 a3 a4 a5 x st h => fk_w_aloadn 0 [.ref x, a1, a2, a3, a4, a5] dX12_merges_272 rfl,
  fun d L st N y l => fk_g_getC rfl lf_12_7 (by decide) rfl dX12_merges_273 fk_at_246,
  fun d L st h => fk_w_sipush dX12_merges_276 (by decide),
  fun d a0 a1 a3 a4 a5 x st h => fk_w_iloadn 2 [a0, a1, .int x, a3, a4, a5] dX12_merges_279 rfl,
  fun d L x y st h => fk_r_iadd dX12_merges_280,
  fun d L st N y l i hi => fk_g_iald fk_at_247 fk_ln_247 (by decide) dX12_merges_281 hi,
  fun d L x y st h => fk_r_iadd dX12_merges_282,
  fun d L x0 x1 w0 w1 h => fk_g_calls [.int x0, .int x1] [w0, w1] rfl lm_12_278 dX12_merges_283 rfl ⟨rfl, by decide⟩ (by simp),
  fun d L st N y l i v hi => fk_g_iast fk_at_247 fk_ln_247 (by decide) dX12_merges_286 hi,
  fun d a1 a2 a3 a4 a5 x st h => fk_w_aloadn 0 [.ref x, a1, a2, a3, a4, a5] dX12_merges_287 rfl,
  fun d L st N y l => fk_g_getC rfl lf_12_7 (by decide) rfl dX12_merges_288 fk_at_246,
  fun d L st h => fk_w_sipush dX12_merges_291 (by decide),
  fun d a0 a2 a3 a4 a5 x st h => fk_w_iloadn 1 [a0, .int x, a2, a3, a4, a5] dX12_merges_294 rfl,
  fun d L x y st h => fk_r_iadd dX12_merges_295,
  fun d a1 a2 a3 a4 a5 x st h => fk_w_aloadn 0 [.ref x, a1, a2, a3, a4, a5] dX12_merges_296 rfl,
  fun d L st N y l => fk_g_getC rfl lf_12_7 (by decide) rfl dX12_merges_297 fk_at_246,
  fun d L st h => fk_w_sipush dX12_merges_300 (by decide),
  fun d a0 a2 a3 a4 a5 x st h => fk_w_iloadn 1 [a0, .int x, a2, a3, a4, a5] dX12_merges_303 rfl,
  fun d L x y st h => fk_r_iadd dX12_merges_304,
  fun d L st N y l i hi => fk_g_iald fk_at_247 fk_ln_247 (by decide) dX12_merges_305 hi,
  fun d a1 a2 a3 a4 a5 x st h => fk_w_aloadn 0 [.ref x, a1, a2, a3, a4, a5] dX12_merges_306 rfl,
  fun d L st N y l => fk_g_getC rfl lf_12_7 (by decide) rfl dX12_merges_307 fk_at_246,
  fun d L st h => fk_w_sipush dX12_merges_310 (by decide),
  fun d a0 a1 a3 a4 a5 x st h => fk_w_iloadn 2 [a0, a1, .int x, a3, a4, a5] dX12_merges_313 rfl,
  fun d L x y st h => fk_r_iadd dX12_merges_314,
  fun d L st N y l i hi => fk_g_iald fk_at_247 fk_ln_247 (by decide) dX12_merges_315 hi,
  fun d L x0 x1 w0 w1 h => fk_g_calls [.int x0, .int x1] [w0, w1] rfl lm_12_257 dX12_merges_316 rfl ⟨rfl, by decide⟩ (by simp),
  fun d L st N y l i v hi => fk_g_iast fk_at_247 fk_ln_247 (by decide) dX12_merges_319 hi,
  fun d a1 a2 a3 a4 a5 x st h => fk_w_aloadn 0 [.ref x, a1, a2, a3, a4, a5] dX12_merges_320 rfl,
  fun d L st N y l => fk_g_getC rfl lf_12_7 (by decide) rfl dX12_merges_321 fk_at_246,
  fun d L st h => fk_w_sipush dX12_merges_324 (by decide),
  fun d a0 a1 a3 a4 a5 x st h => fk_w_iloadn 2 [a0, a1, .int x, a3, a4, a5] dX12_merges_327 rfl,
  fun d L x y st h => fk_r_iadd dX12_merges_328,
  fun d L st h => fk_w_iconst dX12_merges_329 (by decide),
  fun d L st N y l i v hi => fk_g_iast fk_at_247 fk_ln_247 (by decide) dX12_merges_330 hi,
  fun d a1 a2 a3 a4 a5 x st h => fk_w_aloadn 0 [.ref x, a1, a2, a3, a4, a5] dX12_merges_331 rfl,
  fun d L st N y l => fk_g_getC rfl lf_12_7 (by decide) rfl dX12_merges_332 fk_at_246,
  fun d L st h => fk_w_sipush dX12_merges_335 (by decide),
  fun d a0 a1 a3 a4 a5 x st h => fk_w_iloadn 2 [a0, a1, .int x, a3, a4, a5] dX12_merges_338 rfl,
  fun d L x y st h => fk_r_iadd dX12_merges_339,
  fun d a0 a2 a3 a4 a5 x st h => fk_w_iloadn 1 [a0, .int x, a2, a3, a4, a5] dX12_merges_340 rfl,
  fun d L st N y l i v hi => fk_g_iast fk_at_247 fk_ln_247 (by decide) dX12_merges_341 hi,
  fun d a1 a2 a3 a4 a5 x st h => fk_w_aloadn 0 [.ref x, a1, a2, a3, a4, a5] dX12_merges_342 rfl,
  fun d L st N y l => fk_g_getC rfl lf_12_7 (by decide) rfl dX12_merges_343 fk_at_246,
  fun d L st h => fk_w_sipush dX12_merges_346 (by decide),
  fun d a1 a2 a3 a4 a5 x st h => fk_w_aloadn 0 [.ref x, a1, a2, a3, a4, a5] dX12_merges_349 rfl,
  fun d L st N y l => fk_g_getC rfl lf_12_7 (by decide) rfl dX12_merges_350 fk_at_246,
  fun d L st h => fk_w_sipush dX12_merges_353 (by decide),
  fun d L st N y l i hi => fk_g_iald fk_at_247 fk_ln_247 (by decide) dX12_merges_356 hi,
  fun d L st h => fk_w_iconst dX12_merges_357 (by decide),
  fun d L x y st h => fk_r_iadd dX12_merges_358,
  fun d L st N y l i v hi => fk_g_iast fk_at_247 fk_ln_247 (by decide) dX12_merges_359 hi,
  fun d a1 a2 a3 a4 a5 x st h => fk_w_aloadn 0 [.ref x, a1, a2, a3, a4, a5] dX12_merges_360 rfl,
  fun d L st N y l => fk_g_getC rfl lf_12_78 (by decide) rfl dX12_merges_361 fk_at_246,
  fun d a0 a2 a3 a4 a5 x st h => fk_w_iloadn 1 [a0, .int x, a2, a3, a4, a5] dX12_merges_364 rfl,
  fun d a1 a2 a3 a4 a5 x st h => fk_w_aloadn 0 [.ref x, a1, a2, a3, a4, a5] dX12_merges_365 rfl,
  fun d L st N y l => fk_g_getC rfl lf_12_78 (by decide) rfl dX12_merges_366 fk_at_246,
  fun d a0 a2 a3 a4 a5 x st h => fk_w_iloadn 1 [a0, .int x, a2, a3, a4, a5] dX12_merges_369 rfl,
  fun d L st N y l i hi => fk_g_bald (Or.inr rfl) fk_at_269 fk_ln_269 (by decide) dX12_merges_370 hi,
  fun d L x st h => fk_r_if_ne dX12_merges_371 (by decide),
  fun d a1 a2 a3 a4 a5 x st h => fk_w_aloadn 0 [.ref x, a1, a2, a3, a4, a5] dX12_merges_374 rfl,
  fun d L st N y l => fk_g_getC rfl lf_12_78 (by decide) rfl dX12_merges_375 fk_at_246,
  fun d a0 a1 a3 a4 a5 x st h => fk_w_iloadn 2 [a0, a1, .int x, a3, a4, a5] dX12_merges_378 rfl,
  fun d L st N y l i hi => fk_g_bald (Or.inr rfl) fk_at_269 fk_ln_269 (by decide) dX12_merges_379 hi,
  fun d L x st h => fk_r_if_eq dX12_merges_380 (by decide),
  fun d L st h => fk_w_iconst dX12_merges_383 (by decide),
  fun d L st h => fk_r_goto dX12_merges_384 (by decide),
  fun d L st h => fk_w_iconst dX12_merges_387 (by decide),
  fun d L st N y l i v hi => fk_g_bast22 fk_at_269 fk_ln_269 (by decide) dX12_merges_388 hi,
  fun d L h => fk_r_vret dX12_merges_389 rfl⟩
theorem hX12_merges_55 : ∀ (d : Nat) (a0 a1 a2 a3 a4 : Value) (x : Int32) (st : List Value) (h : fk_H), fk_ev d qX12_merges 55 [a0, a1, a2, a3, a4, .int x] st h = fk_ev d qX12_merges 57 [a0, a1, a2, a3, a4, .int x] (.int x :: st) h := fun d a0 a1 a2 a3 a4 x st h => fk_w_iload 5 [a0, a1, a2, a3, a4, .int x] dX12_merges_55 rfl
theorem dX12_arrives_0 : decode cX12_arrives 0 = .ok (.aload_n 0, 1) := by decide +kernel
theorem dX12_arrives_1 : decode cX12_arrives 1 = .ok (.getfield 7, 3) := by decide +kernel
theorem dX12_arrives_4 : decode cX12_arrives 4 = .ok (.sipush 320, 3) := by decide +kernel
theorem dX12_arrives_7 : decode cX12_arrives 7 = .ok (.iload_n 1, 1) := by decide +kernel
theorem dX12_arrives_8 : decode cX12_arrives 8 = .ok (.iadd, 1) := by decide +kernel
theorem dX12_arrives_9 : decode cX12_arrives 9 = .ok (.iaload, 1) := by decide +kernel
theorem dX12_arrives_10 : decode cX12_arrives 10 = .ok (.istore_n 2, 1) := by decide +kernel
theorem dX12_arrives_11 : decode cX12_arrives 11 = .ok (.aload_n 0, 1) := by decide +kernel
theorem dX12_arrives_12 : decode cX12_arrives 12 = .ok (.getfield 28, 3) := by decide +kernel
theorem dX12_arrives_15 : decode cX12_arrives 15 = .ok (.iload_n 2, 1) := by decide +kernel
theorem dX12_arrives_16 : decode cX12_arrives 16 = .ok (.iaload, 1) := by decide +kernel
theorem dX12_arrives_17 : decode cX12_arrives 17 = .ok (.iconst (-1), 1) := by decide +kernel
theorem dX12_arrives_18 : decode cX12_arrives 18 = .ok (.if_icmp .eq 20, 3) := by decide +kernel
theorem dX12_arrives_21 : decode cX12_arrives 21 = .ok (.aload_n 0, 1) := by decide +kernel
theorem dX12_arrives_22 : decode cX12_arrives 22 = .ok (.iload_n 1, 1) := by decide +kernel
theorem dX12_arrives_23 : decode cX12_arrives 23 = .ok (.aload_n 0, 1) := by decide +kernel
theorem dX12_arrives_24 : decode cX12_arrives 24 = .ok (.getfield 28, 3) := by decide +kernel
theorem dX12_arrives_27 : decode cX12_arrives 27 = .ok (.iload_n 2, 1) := by decide +kernel
theorem dX12_arrives_28 : decode cX12_arrives 28 = .ok (.iaload, 1) := by decide +kernel
theorem dX12_arrives_29 : decode cX12_arrives 29 = .ok (.aload_n 0, 1) := by decide +kernel
theorem dX12_arrives_30 : decode cX12_arrives 30 = .ok (.getfield 31, 3) := by decide +kernel
theorem dX12_arrives_33 : decode cX12_arrives 33 = .ok (.iload_n 2, 1) := by decide +kernel
theorem dX12_arrives_34 : decode cX12_arrives 34 = .ok (.baload, 1) := by decide +kernel
theorem dX12_arrives_35 : decode cX12_arrives 35 = .ok (.invokevirtual 143, 3) := by decide +kernel
theorem dX12_arrives_38 : decode cX12_arrives 38 = .ok (.aload_n 0, 1) := by decide +kernel
theorem dX12_arrives_39 : decode cX12_arrives 39 = .ok (.iload_n 1, 1) := by decide +kernel
theorem dX12_arrives_40 : decode cX12_arrives 40 = .ok (.invokevirtual 263, 3) := by decide +kernel
theorem dX12_arrives_43 : decode cX12_arrives 43 = .ok (.aload_n 0, 1) := by decide +kernel
theorem dX12_arrives_44 : decode cX12_arrives 44 = .ok (.getfield 7, 3) := by decide +kernel
theorem dX12_arrives_47 : decode cX12_arrives 47 = .ok (.sipush 576, 3) := by decide +kernel
theorem dX12_arrives_50 : decode cX12_arrives 50 = .ok (.iload_n 1, 1) := by decide +kernel
theorem dX12_arrives_51 : decode cX12_arrives 51 = .ok (.iadd, 1) := by decide +kernel
theorem dX12_arrives_52 : decode cX12_arrives 52 = .ok (.ldc 147, 2) := by decide +kernel
theorem dX12_arrives_54 : decode cX12_arrives 54 = .ok (.aload_n 0, 1) := by decide +kernel
theorem dX12_arrives_55 : decode cX12_arrives 55 = .ok (.getfield 7, 3) := by decide +kernel
theorem dX12_arrives_58 : decode cX12_arrives 58 = .ok (.sipush 576, 3) := by decide +kernel
theorem dX12_arrives_61 : decode cX12_arrives 61 = .ok (.iload_n 1, 1) := by decide +kernel
theorem dX12_arrives_62 : decode cX12_arrives 62 = .ok (.iadd, 1) := by decide +kernel
theorem dX12_arrives_63 : decode cX12_arrives 63 = .ok (.iaload, 1) := by decide +kernel
theorem dX12_arrives_64 : decode cX12_arrives 64 = .ok (.aload_n 0, 1) := by decide +kernel
theorem dX12_arrives_65 : decode cX12_arrives 65 = .ok (.bipush 98, 2) := by decide +kernel
theorem dX12_arrives_67 : decode cX12_arrives 67 = .ok (.sipush 999, 3) := by decide +kernel
theorem dX12_arrives_70 : decode cX12_arrives 70 = .ok (.invokevirtual 266, 3) := by decide +kernel
theorem dX12_arrives_73 : decode cX12_arrives 73 = .ok (.iadd, 1) := by decide +kernel
theorem dX12_arrives_74 : decode cX12_arrives 74 = .ok (.invokestatic 278, 3) := by decide +kernel
theorem dX12_arrives_77 : decode cX12_arrives 77 = .ok (.iastore, 1) := by decide +kernel
theorem dX12_arrives_78 : decode cX12_arrives 78 = .ok (.aload_n 0, 1) := by decide +kernel
theorem dX12_arrives_79 : decode cX12_arrives 79 = .ok (.iload_n 1, 1) := by decide +kernel
theorem dX12_arrives_80 : decode cX12_arrives 80 = .ok (.invokevirtual 263, 3) := by decide +kernel
theorem dX12_arrives_83 : decode cX12_arrives 83 = .ok (.aload_n 0, 1) := by decide +kernel
theorem dX12_arrives_84 : decode cX12_arrives 84 = .ok (.getfield 7, 3) := by decide +kernel
theorem dX12_arrives_87 : decode cX12_arrives 87 = .ok (.sipush 512, 3) := by decide +kernel
theorem dX12_arrives_90 : decode cX12_arrives 90 = .ok (.iload_n 1, 1) := by decide +kernel
theorem dX12_arrives_91 : decode cX12_arrives 91 = .ok (.iadd, 1) := by decide +kernel
theorem dX12_arrives_92 : decode cX12_arrives 92 = .ok (.aload_n 0, 1) := by decide +kernel
theorem dX12_arrives_93 : decode cX12_arrives 93 = .ok (.getfield 7, 3) := by decide +kernel
theorem dX12_arrives_96 : decode cX12_arrives 96 = .ok (.sipush 512, 3) := by decide +kernel
theorem dX12_arrives_99 : decode cX12_arrives 99 = .ok (.iload_n 1, 1) := by decide +kernel
theorem dX12_arrives_100 : decode cX12_arrives 100 = .ok (.iadd, 1) := by decide +kernel
theorem dX12_arrives_101 : decode cX12_arrives 101 = .ok (.iaload, 1) := by decide +kernel
theorem dX12_arrives_102 : decode cX12_arrives 102 = .ok (.aload_n 0, 1) := by decide +kernel
theorem dX12_arrives_103 : decode cX12_arrives 103 = .ok (.bipush 119, 2) := by decide +kernel
theorem dX12_arrives_105 : decode cX12_arrives 105 = .ok (.bipush 9, 2) := by decide +kernel
theorem dX12_arrives_107 : decode cX12_arrives 107 = .ok (.invokevirtual 266, 3) := by decide +kernel
theorem dX12_arrives_110 : decode cX12_arrives 110 = .ok (.invokestatic 257, 3) := by decide +kernel
theorem dX12_arrives_113 : decode cX12_arrives 113 = .ok (.iastore, 1) := by decide +kernel
theorem dX12_arrives_114 : decode cX12_arrives 114 = .ok (.return_, 1) := by decide +kernel
theorem rX12_arrives : (∀ (d : Nat) (a1 a2 : Value) (x : Nat) (st : List Value) (h : fk_H), fk_ev d qX12_arrives 0 [.ref x, a1, a2] st h = fk_ev d qX12_arrives 1 [.ref x, a1, a2] (.ref x :: st) h) ∧
  (∀ (d : Nat) (L st : List Value) (N : Nat) (y : Nat → Nat → Int32) (l : Nat → Nat → Int64), fk_ev d qX12_arrives 1 L (.ref 246 :: st) (fk_E N y l) = fk_ev d qX12_arrives 4 L (.ref 247 :: st) (fk_E N y l)) ∧
  (∀ (d : Nat) (L st : List Value) (h : fk_H), fk_ev d qX12_arrives 4 L st h = fk_ev d qX12_arrives 7 L (.int (nI 320) :: st) h) ∧
  (∀ (d : Nat) (a0 a2 : Value) (x : Int32) (st : List Value) (h : fk_H), fk_ev d qX12_arrives 7 [a0, .int x, a2] st h = fk_ev d qX12_arrives 8 [a0, .int x, a2] (.int x :: st) h) ∧
  (∀ (d : Nat) (L : List Value) (x y : Int32) (st : List Value) (h : fk_H), fk_ev d qX12_arrives 8 L (.int y :: .int x :: st) h = fk_ev d qX12_arrives 9 L (.int (x + y) :: st) h) ∧
  (∀ (d : Nat) (L st : List Value) (N : Nat) (y : Nat → Nat → Int32) (l : Nat → Nat → Int64) (i : Nat), i < 3912 → fk_ev d qX12_arrives 9 L (.int (nI i) :: .ref 247 :: st) (fk_E N y l) = fk_ev d qX12_arrives 10 L (.int (y 247 i) :: st) (fk_E N y l)) ∧
  (∀ (d : Nat) (a0 a1 a2 : Value) (x : Int32) (st : List Value) (h : fk_H), fk_ev d qX12_arrives 10 [a0, a1, a2] (.int x :: st) h = fk_ev d qX12_arrives 11 [a0, a1, .int x] st h) ∧
  (∀ (d : Nat) (a1 a2 : Value) (x : Nat) (st : List Value) (h : fk_H), fk_ev d qX12_arrives 11 [.ref x, a1, a2] st h = fk_ev d qX12_arrives 12 [.ref x, a1, a2] (.ref x :: st) h) ∧
  (∀ (d : Nat) (L st : List Value) (N : Nat) (y : Nat → Nat → Int32) (l : Nat → Nat → Int64), fk_ev d qX12_arrives 12 L (.ref 246 :: st) (fk_E N y l) = fk_ev d qX12_arrives 15 L (.ref 253 :: st) (fk_E N y l)) ∧
  (∀ (d : Nat) (a0 a1 : Value) (x : Int32) (st : List Value) (h : fk_H), fk_ev d qX12_arrives 15 [a0, a1, .int x] st h = fk_ev d qX12_arrives 16 [a0, a1, .int x] (.int x :: st) h) ∧
  (∀ (d : Nat) (L st : List Value) (N : Nat) (y : Nat → Nat → Int32) (l : Nat → Nat → Int64) (i : Nat), i < 16 → fk_ev d qX12_arrives 16 L (.int (nI i) :: .ref 253 :: st) (fk_E N y l) = fk_ev d qX12_arrives 17 L (.int (y 253 i) :: st) (fk_E N y l)) ∧
  (∀ (d : Nat) (L st : List Value) (h : fk_H), fk_ev d qX12_arrives 17 L st h = fk_ev d qX12_arrives 18 L (.int ((-1 : Int32)) :: st) h) ∧
  (∀ (d : Nat) (L : List Value) (x y : Int32) (st : List Value) (h : fk_H), fk_ev d qX12_arrives 18 L (.int y :: .int x :: st) h = if x = y then fk_ev d qX12_arrives 38 L st h else fk_ev d qX12_arrives 21 L st h) ∧
  (∀ (d : Nat) (a1 a2 : Value) (x : Nat) (st : List Value) (h : fk_H), fk_ev d qX12_arrives 21 [.ref x, a1, a2] st h = fk_ev d qX12_arrives 22 [.ref x, a1, a2] (.ref x :: st) h) ∧
  (∀ (d : Nat) (a0 a2 : Value) (x : Int32) (st : List Value) (h : fk_H), fk_ev d qX12_arrives 22 [a0, .int x, a2] st h = fk_ev d qX12_arrives 23 [a0, .int x, a2] (.int x :: st) h) ∧
  (∀ (d : Nat) (a1 a2 : Value) (x : Nat) (st : List Value) (h : fk_H), fk_ev d qX12_arrives 23 [.ref x, a1, a2] st h = fk_ev d qX12_arrives 24 [.ref x, a1, a2] (.ref x :: st) h) ∧
  (∀ (d : Nat) (L st : List Value) (N : Nat) (y : Nat → Nat → Int32) (l : Nat → Nat → Int64), fk_ev d qX12_arrives 24 L (.ref 246 :: st) (fk_E N y l) = fk_ev d qX12_arrives 27 L (.ref 253 :: st) (fk_E N y l)) ∧
  (∀ (d : Nat) (a0 a1 : Value) (x : Int32) (st : List Value) (h : fk_H), fk_ev d qX12_arrives 27 [a0, a1, .int x] st h = fk_ev d qX12_arrives 28 [a0, a1, .int x] (.int x :: st) h) ∧
  (∀ (d : Nat) (L st : List Value) (N : Nat) (y : Nat → Nat → Int32) (l : Nat → Nat → Int64) (i : Nat), i < 16 → fk_ev d qX12_arrives 28 L (.int (nI i) :: .ref 253 :: st) (fk_E N y l) = fk_ev d qX12_arrives 29 L (.int (y 253 i) :: st) (fk_E N y l)) ∧
  (∀ (d : Nat) (a1 a2 : Value) (x : Nat) (st : List Value) (h : fk_H), fk_ev d qX12_arrives 29 [.ref x, a1, a2] st h = fk_ev d qX12_arrives 30 [.ref x, a1, a2] (.ref x :: st) h) ∧
  (∀ (d : Nat) (L st : List Value) (N : Nat) (y : Nat → Nat → Int32) (l : Nat → Nat → Int64), fk_ev d qX12_arrives 30 L (.ref 246 :: st) (fk_E N y l) = fk_ev d qX12_arrives 33 L (.ref 254 :: st) (fk_E N y l)) ∧
  (∀ (d : Nat) (a0 a1 : Value) (x : Int32) (st : List Value) (h : fk_H), fk_ev d qX12_arrives 33 [a0, a1, .int x] st h = fk_ev d qX12_arrives 34 [a0, a1, .int x] (.int x :: st) h) ∧
  (∀ (d : Nat) (L st : List Value) (N : Nat) (y : Nat → Nat → Int32) (l : Nat → Nat → Int64) (i : Nat), i < 16 → fk_ev d qX12_arrives 34 L (.int (nI i) :: .ref 254 :: st) (fk_E N y l) = fk_ev d qX12_arrives 35 L (.int (y 254 i) :: st) (fk_E N y l)) ∧
  (∀ (d : Nat) (L : List Value) (x0 : Int32) (x1 : Int32) (x2 : Int32)  (N : Nat) (y : Nat → Nat → Int32) (l : Nat → Nat → Int64), fk_ev (d + 1) qX12_arrives 35 L (.int x2 :: .int x1 :: .int x0 :: .ref 246 :: []) (fk_E N y l) = (fk_ev d qX12_knows 0 [.ref 246, .int x0, .int x1, .int x2] [] (fk_E N y l)).bind fun o => fk_ev (d + 1) qX12_arrives 38 L (o.1.toList ++ []) o.2) ∧
  (∀ (d : Nat) (a1 a2 : Value) (x : Nat) (st : List Value) (h : fk_H), fk_ev d qX12_arrives 38 [.ref x, a1, a2] st h = fk_ev d qX12_arrives 39 [.ref x, a1, a2] (.ref x :: st) h) ∧
  (∀ (d : Nat) (a0 a2 : Value) (x : Int32) (st : List Value) (h : fk_H), fk_ev d qX12_arrives 39 [a0, .int x, a2] st h = fk_ev d qX12_arrives 40 [a0, .int x, a2] (.int x :: st) h) ∧
  (∀ (d : Nat) (L : List Value) (x0 : Int32)  (N : Nat) (y : Nat → Nat → Int32) (l : Nat → Nat → Int64), fk_ev (d + 1) qX12_arrives 40 L (.int x0 :: .ref 246 :: []) (fk_E N y l) = (fk_ev d qX12_feels 0 [.ref 246, .int x0, .null] [] (fk_E N y l)).bind fun o => fk_ev (d + 1) qX12_arrives 43 L (o.1.toList ++ []) o.2) ∧
  (∀ (d : Nat) (a1 a2 : Value) (x : Nat) (st : List Value) (h : fk_H), fk_ev d qX12_arrives 43 [.ref x, a1, a2] st h = fk_ev d qX12_arrives 44 [.ref x, a1, a2] (.ref x :: st) h) ∧
  (∀ (d : Nat) (L st : List Value) (N : Nat) (y : Nat → Nat → Int32) (l : Nat → Nat → Int64), fk_ev d qX12_arrives 44 L (.ref 246 :: st) (fk_E N y l) = fk_ev d qX12_arrives 47 L (.ref 247 :: st) (fk_E N y l)) ∧
  (∀ (d : Nat) (L st : List Value) (h : fk_H), fk_ev d qX12_arrives 47 L st h = fk_ev d qX12_arrives 50 L (.int (nI 576) :: st) h) ∧
  (∀ (d : Nat) (a0 a2 : Value) (x : Int32) (st : List Value) (h : fk_H), fk_ev d qX12_arrives 50 [a0, .int x, a2] st h = fk_ev d qX12_arrives 51 [a0, .int x, a2] (.int x :: st) h) ∧
  (∀ (d : Nat) (L : List Value) (x y : Int32) (st : List Value) (h : fk_H), fk_ev d qX12_arrives 51 L (.int y :: .int x :: st) h = fk_ev d qX12_arrives 52 L (.int (x + y) :: st) h) ∧
  (∀ (d : Nat) (L st : List Value) (h : fk_H), fk_ev d qX12_arrives 52 L st h = fk_ev d qX12_arrives 54 L (.int (nI 99999) :: st) h) ∧
  (∀ (d : Nat) (a1 a2 : Value) (x : Nat) (st : List Value) (h : fk_H), fk_ev d qX12_arrives 54 [.ref x, a1, a2] st h = fk_ev d qX12_arrives 55 [.ref x, a1, a2] (.ref x :: st) h) ∧
  (∀ (d : Nat) (L st : List Value) (N : Nat) (y : Nat → Nat → Int32) (l : Nat → Nat → Int64), fk_ev d qX12_arrives 55 L (.ref 246 :: st) (fk_E N y l) = fk_ev d qX12_arrives 58 L (.ref 247 :: st) (fk_E N y l)) ∧
  (∀ (d : Nat) (L st : List Value) (h : fk_H), fk_ev d qX12_arrives 58 L st h = fk_ev d qX12_arrives 61 L (.int (nI 576) :: st) h) ∧
  (∀ (d : Nat) (a0 a2 : Value) (x : Int32) (st : List Value) (h : fk_H), fk_ev d qX12_arrives 61 [a0, .int x, a2] st h = fk_ev d qX12_arrives 62 [a0, .int x, a2] (.int x :: st) h) ∧
  (∀ (d : Nat) (L : List Value) (x y : Int32) (st : List Value) (h : fk_H), fk_ev d qX12_arrives 62 L (.int y :: .int x :: st) h = fk_ev d qX12_arrives 63 L (.int (x + y) :: st) h) ∧
  (∀ (d : Nat) (L st : List Value) (N : Nat) (y : Nat → Nat → Int32) (l : Nat → Nat → Int64) (i : Nat), i < 3912 → fk_ev d qX12_arrives 63 L (.int (nI i) :: .ref 247 :: st) (fk_E N y l) = fk_ev d qX12_arrives 64 L (.int (y 247 i) :: st) (fk_E N y l)) ∧
  (∀ (d : Nat) (a1 a2 : Value) (x : Nat) (st : List Value) (h : fk_H), fk_ev d qX12_arrives 64 [.ref x, a1, a2] st h = fk_ev d qX12_arrives 65 [.ref x, a1, a2] (.ref x :: st) h) ∧
  (∀ (d : Nat) (L st : List Value) (h : fk_H), fk_ev d qX12_arrives 65 L st h = fk_ev d qX12_arrives 67 L (.int (nI 98) :: st) h) ∧
  (∀ (d : Nat) (L st : List Value) (h : fk_H), fk_ev d qX12_arrives 67 L st h = fk_ev d qX12_arrives 70 L (.int (nI 999) :: st) h) ∧
  (∀ (d : Nat) (L : List Value) (x0 : Int32) (x1 : Int32) (w0 w1 w2 w3 : Value) (N : Nat) (y : Nat → Nat → Int32) (l : Nat → Nat → Int64), fk_ev (d + 1) qX12_arrives 70 L (.int x1 :: .int x0 :: .ref 246 :: [w0, w1, w2, w3]) (fk_E N y l) = (fk_ev d qX12_byLaw 0 [.ref 246, .int x0, .int x1, .null, .null] [] (fk_E N y l)).bind fun o => fk_ev (d + 1) qX12_arrives 73 L (o.1.toList ++ [w0, w1, w2, w3]) o.2) ∧
  (∀ (d : Nat) (L : List Value) (x y : Int32) (st : List Value) (h : fk_H), fk_ev d qX12_arrives 73 L (.int y :: .int x :: st) h = fk_ev d qX12_arrives 74 L (.int (x + y) :: st) h) ∧
  (∀ (d : Nat) (L : List Value) (x0 : Int32) (x1 : Int32) (w0 w1 : Value) (h : fk_H), fk_ev (d + 1) qX12_arrives 74 L (.int x1 :: .int x0 :: [w0, w1]) h = (fk_ev d qX12_min 0 [.int x0, .int x1] [] h).bind fun o => fk_ev (d + 1) qX12_arrives 77 L (o.1.toList ++ [w0, w1]) o.2) ∧
  (∀ (d : Nat) (L st : List Value) (N : Nat) (y : Nat → Nat → Int32) (l : Nat → Nat → Int64) (i : Nat) (v : Int32), i < 3912 → fk_ev d qX12_arrives 77 L (.int v :: .int (nI i) :: .ref 247 :: st) (fk_E N y l) = fk_ev d qX12_arrives 78 L st (fk_E N (fk_u y 247 i v) l)) ∧
  (∀ (d : Nat) (a1 a2 : Value) (x : Nat) (st : List Value) (h : fk_H), fk_ev d qX12_arrives 78 [.ref x, a1, a2] st h = fk_ev d qX12_arrives 79 [.ref x, a1, a2] (.ref x :: st) h) ∧
  (∀ (d : Nat) (a0 a2 : Value) (x : Int32) (st : List Value) (h : fk_H), fk_ev d qX12_arrives 79 [a0, .int x, a2] st h = fk_ev d qX12_arrives 80 [a0, .int x, a2] (.int x :: st) h) ∧
  (∀ (d : Nat) (L : List Value) (x0 : Int32)  (N : Nat) (y : Nat → Nat → Int32) (l : Nat → Nat → Int64), fk_ev (d + 1) qX12_arrives 80 L (.int x0 :: .ref 246 :: []) (fk_E N y l) = (fk_ev d qX12_feels 0 [.ref 246, .int x0, .null] [] (fk_E N y l)).bind fun o => fk_ev (d + 1) qX12_arrives 83 L (o.1.toList ++ []) o.2) ∧
  (∀ (d : Nat) (a1 a2 : Value) (x : Nat) (st : List Value) (h : fk_H), fk_ev d qX12_arrives 83 [.ref x, a1, a2] st h = fk_ev d qX12_arrives 84 [.ref x, a1, a2] (.ref x :: st) h) ∧
  (∀ (d : Nat) (L st : List Value) (N : Nat) (y : Nat → Nat → Int32) (l : Nat → Nat → Int64), fk_ev d qX12_arrives 84 L (.ref 246 :: st) (fk_E N y l) = fk_ev d qX12_arrives 87 L (.ref 247 :: st) (fk_E N y l)) ∧
  (∀ (d : Nat) (L st : List Value) (h : fk_H), fk_ev d qX12_arrives 87 L st h = fk_ev d qX12_arrives 90 L (.int (nI 512) :: st) h) ∧
  (∀ (d : Nat) (a0 a2 : Value) (x : Int32) (st : List Value) (h : fk_H), fk_ev d qX12_arrives 90 [a0, .int x, a2] st h = fk_ev d qX12_arrives 91 [a0, .int x, a2] (.int x :: st) h) ∧
  (∀ (d : Nat) (L : List Value) (x y : Int32) (st : List Value) (h : fk_H), fk_ev d qX12_arrives 91 L (.int y :: .int x :: st) h = fk_ev d qX12_arrives 92 L (.int (x + y) :: st) h) ∧
  (∀ (d : Nat) (a1 a2 : Value) (x : Nat) (st : List Value) (h : fk_H), fk_ev d qX12_arrives 92 [.ref x, a1, a2] st h = fk_ev d qX12_arrives 93 [.ref x, a1, a2] (.ref x :: st) h) ∧
  (∀ (d : Nat) (L st : List Value) (N : Nat) (y : Nat → Nat → Int32) (l : Nat → Nat → Int64), fk_ev d qX12_arrives 93 L (.ref 246 :: st) (fk_E N y l) = fk_ev d qX12_arrives 96 L (.ref 247 :: st) (fk_E N y l)) ∧
  (∀ (d : Nat) (L st : List Value) (h : fk_H), fk_ev d qX12_arrives 96 L st h = fk_ev d qX12_arrives 99 L (.int (nI 512) :: st) h) ∧
  (∀ (d : Nat) (a0 a2 : Value) (x : Int32) (st : List Value) (h : fk_H), fk_ev d qX12_arrives 99 [a0, .int x, a2] st h = fk_ev d qX12_arrives 100 [a0, .int x, a2] (.int x :: st) h) ∧
  (∀ (d : Nat) (L : List Value) (x y : Int32) (st : List Value) (h : fk_H), fk_ev d qX12_arrives 100 L (.int y :: .int x :: st) h = fk_ev d qX12_arrives 101 L (.int (x + y) :: st) h) ∧
  (∀ (d : Nat) (L st : List Value) (N : Nat) (y : Nat → Nat → Int32) (l : Nat → Nat → Int64) (i : Nat), i < 3912 → fk_ev d qX12_arrives 101 L (.int (nI i) :: .ref 247 :: st) (fk_E N y l) = fk_ev d qX12_arrives 102 L (.int (y 247 i) :: st) (fk_E N y l)) ∧
  (∀ (d : Nat) (a1 a2 : Value) (x : Nat) (st : List Value) (h : fk_H), fk_ev d qX12_arrives 102 [.ref x, a1, a2] st h = fk_ev d qX12_arrives 103 [.ref x, a1, a2] (.ref x :: st) h) ∧
  (∀ (d : Nat) (L st : List Value) (h : fk_H), fk_ev d qX12_arrives 103 L st h = fk_ev d qX12_arrives 105 L (.int (nI 119) :: st) h) ∧
  (∀ (d : Nat) (L st : List Value) (h : fk_H), fk_ev d qX12_arrives 105 L st h = fk_ev d qX12_arrives 107 L (.int (nI 9) :: st) h) ∧
  (∀ (d : Nat) (L : List Value) (x0 : Int32) (x1 : Int32) (w0 w1 w2 : Value) (N : Nat) (y : Nat → Nat → Int32) (l : Nat → Nat → Int64), fk_ev (d + 1) qX12_arrives 107 L (.int x1 :: .int x0 :: .ref 246 :: [w0, w1, w2]) (fk_E N y l) = (fk_ev d qX12_byLaw 0 [.ref 246, .int x0, .int x1, .null, .null] [] (fk_E N y l)).bind fun o => fk_ev (d + 1) qX12_arrives 110 L (o.1.toList ++ [w0, w1, w2]) o.2) ∧
  (∀ (d : Nat) (L : List Value) (x0 : Int32) (x1 : Int32) (w0 w1 : Value) (h : fk_H), fk_ev (d + 1) qX12_arrives 110 L (.int x1 :: .int x0 :: [w0, w1]) h = (fk_ev d qX12_max 0 [.int x0, .int x1] [] h).bind fun o => fk_ev (d + 1) qX12_arrives 113 L (o.1.toList ++ [w0, w1]) o.2) ∧
  (∀ (d : Nat) (L st : List Value) (N : Nat) (y : Nat → Nat → Int32) (l : Nat → Nat → Int64) (i : Nat) (v : Int32), i < 3912 → fk_ev d qX12_arrives 113 L (.int v :: .int (nI i) :: .ref 247 :: st) (fk_E N y l) = fk_ev d qX12_arrives 114 L st (fk_E N (fk_u y 247 i v) l)) ∧
  (∀ (d : Nat) (L : List Value) (h : fk_H), fk_ev d qX12_arrives 114 L [] h = some (none, h)) := ⟨fun d a1 a2 x st h => fk_w_aloadn 0 [.ref x, a1, a2] dX12_arrives_0 rfl,
  fun d L st N y l => fk_g_getC rfl lf_12_7 (by decide) rfl dX12_arrives_1 fk_at_246,
  fun d L st h => fk_w_sipush dX12_arrives_4 (by decide),
  fun d a0 a2 x st h => fk_w_iloadn 1 [a0, .int x, a2] dX12_arrives_7 rfl,
  fun d L x y st h => fk_r_iadd dX12_arrives_8,
  fun d L st N y l i hi => fk_g_iald fk_at_247 fk_ln_247 (by decide) dX12_arrives_9 hi,
  fun d a0 a1 a2 x st h => fk_w_istoren 2 3 [] [a0, a1, a2] [a0, a1, .int x] dX12_arrives_10 rfl rfl (by decide) rfl,
  fun d a1 a2 x st h => fk_w_aloadn 0 [.ref x, a1, a2] dX12_arrives_11 rfl,
  fun d L st N y l => fk_g_getC rfl lf_12_28 (by decide) rfl dX12_arrives_12 fk_at_246,
  fun d a0 a1 x st h => fk_w_iloadn 2 [a0, a1, .int x] dX12_arrives_15 rfl,
  fun d L st N y l i hi => fk_g_iald fk_at_253 fk_ln_253 (by decide) dX12_arrives_16 hi,
  fun d L st h => fk_w_iconst dX12_arrives_17 (by decide),
  fun d L x y st h => fk_r_icmp_eq dX12_arrives_18 (by decide),
  fun d a1 a2 x st h => fk_w_aloadn 0 [.ref x, a1, a2] dX12_arrives_21 rfl,
  fun d a0 a2 x st h => fk_w_iloadn 1 [a0, .int x, a2] dX12_arrives_22 rfl,
  fun d a1 a2 x st h => fk_w_aloadn 0 [.ref x, a1, a2] dX12_arrives_23 rfl,
  fun d L st N y l => fk_g_getC rfl lf_12_28 (by decide) rfl dX12_arrives_24 fk_at_246,
  fun d a0 a1 x st h => fk_w_iloadn 2 [a0, a1, .int x] dX12_arrives_27 rfl,
  fun d L st N y l i hi => fk_g_iald fk_at_253 fk_ln_253 (by decide) dX12_arrives_28 hi,
  fun d a1 a2 x st h => fk_w_aloadn 0 [.ref x, a1, a2] dX12_arrives_29 rfl,
  fun d L st N y l => fk_g_getC rfl lf_12_31 (by decide) rfl dX12_arrives_30 fk_at_246,
  fun d a0 a1 x st h => fk_w_iloadn 2 [a0, a1, .int x] dX12_arrives_33 rfl,
  fun d L st N y l i hi => fk_g_bald (Or.inr rfl) fk_at_254 fk_ln_254 (by decide) dX12_arrives_34 hi,
  fun d L x0 x1 x2 N y l  => fk_g_call [.int x0, .int x1, .int x2] [] rfl lm_12_143 dX12_arrives_35 rfl ⟨rfl, by decide⟩ (by simp) fk_at_246,
  fun d a1 a2 x st h => fk_w_aloadn 0 [.ref x, a1, a2] dX12_arrives_38 rfl,
  fun d a0 a2 x st h => fk_w_iloadn 1 [a0, .int x, a2] dX12_arrives_39 rfl,
  fun d L x0 N y l  => fk_g_call [.int x0] [] rfl lm_12_263 dX12_arrives_40 rfl ⟨rfl, by decide⟩ (by simp) fk_at_246,
  fun d a1 a2 x st h => fk_w_aloadn 0 [.ref x, a1, a2] dX12_arrives_43 rfl,
  fun d L st N y l => fk_g_getC rfl lf_12_7 (by decide) rfl dX12_arrives_44 fk_at_246,
  fun d L st h => fk_w_sipush dX12_arrives_47 (by decide),
  fun d a0 a2 x st h => fk_w_iloadn 1 [a0, .int x, a2] dX12_arrives_50 rfl,
  fun d L x y st h => fk_r_iadd dX12_arrives_51,
  fun d L st h => fk_g_ldc rfl lc_12_147 (by decide) dX12_arrives_52,
  fun d a1 a2 x st h => fk_w_aloadn 0 [.ref x, a1, a2] dX12_arrives_54 rfl,
  fun d L st N y l => fk_g_getC rfl lf_12_7 (by decide) rfl dX12_arrives_55 fk_at_246,
  fun d L st h => fk_w_sipush dX12_arrives_58 (by decide),
  fun d a0 a2 x st h => fk_w_iloadn 1 [a0, .int x, a2] dX12_arrives_61 rfl,
  fun d L x y st h => fk_r_iadd dX12_arrives_62,
  fun d L st N y l i hi => fk_g_iald fk_at_247 fk_ln_247 (by decide) dX12_arrives_63 hi,
  fun d a1 a2 x st h => fk_w_aloadn 0 [.ref x, a1, a2] dX12_arrives_64 rfl,
  fun d L st h => fk_w_bipush dX12_arrives_65 (by decide),
  fun d L st h => fk_w_sipush dX12_arrives_67 (by decide),
  fun d L x0 x1 w0 w1 w2 w3 N y l  => fk_g_call [.int x0, .int x1] [w0, w1, w2, w3] rfl lm_12_266 dX12_arrives_70 rfl ⟨rfl, by decide⟩ (by simp) fk_at_246,
  fun d L x y st h => fk_r_iadd dX12_arrives_73,
  fun d L x0 x1 w0 w1 h => fk_g_calls [.int x0, .int x1] [w0, w1] rfl lm_12_278 dX12_arrives_74 rfl ⟨rfl, by decide⟩ (by simp),
  fun d L st N y l i v hi => fk_g_iast fk_at_247 fk_ln_247 (by decide) dX12_arrives_77 hi,
  fun d a1 a2 x st h => fk_w_aloadn 0 [.ref x, a1, a2] dX12_arrives_78 rfl,
  fun d a0 a2 x st h => fk_w_iloadn 1 [a0, .int x, a2] dX12_arrives_79 rfl,
  fun d L x0 N y l  => fk_g_call [.int x0] [] rfl lm_12_263 dX12_arrives_80 rfl ⟨rfl, by decide⟩ (by simp) fk_at_246,
  fun d a1 a2 x st h => fk_w_aloadn 0 [.ref x, a1, a2] dX12_arrives_83 rfl,
  fun d L st N y l => fk_g_getC rfl lf_12_7 (by decide) rfl dX12_arrives_84 fk_at_246,
  fun d L st h => fk_w_sipush dX12_arrives_87 (by decide),
  fun d a0 a2 x st h => fk_w_iloadn 1 [a0, .int x, a2] dX12_arrives_90 rfl,
  fun d L x y st h => fk_r_iadd dX12_arrives_91,
  fun d a1 a2 x st h => fk_w_aloadn 0 [.ref x, a1, a2] dX12_arrives_92 rfl,
  fun d L st N y l => fk_g_getC rfl lf_12_7 (by decide) rfl dX12_arrives_93 fk_at_246,
  fun d L st h => fk_w_sipush dX12_arrives_96 (by decide),
  fun d a0 a2 x st h => fk_w_iloadn 1 [a0, .int x, a2] dX12_arrives_99 rfl,
  fun d L x y st h => fk_r_iadd dX12_arrives_100,
  fun d L st N y l i hi => fk_g_iald fk_at_247 fk_ln_247 (by decide) dX12_arrives_101 hi,
  fun d a1 a2 x st h => fk_w_aloadn 0 [.ref x, a1, a2] dX12_arrives_102 rfl,
  fun d L st h => fk_w_bipush dX12_arrives_103 (by decide),
  fun d L st h => fk_w_bipush dX12_arrives_105 (by decide),
  fun d L x0 x1 w0 w1 w2 N y l  => fk_g_call [.int x0, .int x1] [w0, w1, w2] rfl lm_12_266 dX12_arrives_107 rfl ⟨rfl, by decide⟩ (by simp) fk_at_246,
  fun d L x0 x1 w0 w1 h => fk_g_calls [.int x0, .int x1] [w0, w1] rfl lm_12_257 dX12_arrives_110 rfl ⟨rfl, by decide⟩ (by simp),
  fun d L st N y l i v hi => fk_g_iast fk_at_247 fk_ln_247 (by decide) dX12_arrives_113 hi,
  fun d L h => fk_r_vret dX12_arrives_114 rfl⟩
