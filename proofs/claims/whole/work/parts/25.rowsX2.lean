theorem dX6_comeNearer_0 : decode cX6_comeNearer 0 = .ok (.iconst 0, 1) := by decide +kernel
theorem dX6_comeNearer_1 : decode cX6_comeNearer 1 = .ok (.istore_n 1, 1) := by decide +kernel
theorem dX6_comeNearer_2 : decode cX6_comeNearer 2 = .ok (.iload_n 1, 1) := by decide +kernel
theorem dX6_comeNearer_3 : decode cX6_comeNearer 3 = .ok (.aload_n 0, 1) := by decide +kernel
theorem dX6_comeNearer_4 : decode cX6_comeNearer 4 = .ok (.getfield 32, 3) := by decide +kernel
theorem dX6_comeNearer_7 : decode cX6_comeNearer 7 = .ok (.getfield 60, 3) := by decide +kernel
theorem dX6_comeNearer_10 : decode cX6_comeNearer 10 = .ok (.if_icmp .ge 140, 3) := by decide +kernel
theorem dX6_comeNearer_13 : decode cX6_comeNearer 13 = .ok (.aload_n 0, 1) := by decide +kernel
theorem dX6_comeNearer_14 : decode cX6_comeNearer 14 = .ok (.getfield 32, 3) := by decide +kernel
theorem dX6_comeNearer_17 : decode cX6_comeNearer 17 = .ok (.getfield 63, 3) := by decide +kernel
theorem dX6_comeNearer_20 : decode cX6_comeNearer 20 = .ok (.iload_n 1, 1) := by decide +kernel
theorem dX6_comeNearer_21 : decode cX6_comeNearer 21 = .ok (.aaload, 1) := by decide +kernel
theorem dX6_comeNearer_22 : decode cX6_comeNearer 22 = .ok (.astore_n 2, 1) := by decide +kernel
theorem dX6_comeNearer_23 : decode cX6_comeNearer 23 = .ok (.aload_n 2, 1) := by decide +kernel
theorem dX6_comeNearer_24 : decode cX6_comeNearer 24 = .ok (.iconst 0, 1) := by decide +kernel
theorem dX6_comeNearer_25 : decode cX6_comeNearer 25 = .ok (.putfield 67, 3) := by decide +kernel
theorem dX6_comeNearer_28 : decode cX6_comeNearer 28 = .ok (.aload_n 2, 1) := by decide +kernel
theorem dX6_comeNearer_29 : decode cX6_comeNearer 29 = .ok (.getfield 73, 3) := by decide +kernel
theorem dX6_comeNearer_32 : decode cX6_comeNearer 32 = .ok (.ifCond .eq 88, 3) := by decide +kernel
theorem dX6_comeNearer_35 : decode cX6_comeNearer 35 = .ok (.aload_n 0, 1) := by decide +kernel
theorem dX6_comeNearer_36 : decode cX6_comeNearer 36 = .ok (.getfield 28, 3) := by decide +kernel
theorem dX6_comeNearer_39 : decode cX6_comeNearer 39 = .ok (.aload_n 2, 1) := by decide +kernel
theorem dX6_comeNearer_40 : decode cX6_comeNearer 40 = .ok (.getfield 76, 3) := by decide +kernel
theorem dX6_comeNearer_43 : decode cX6_comeNearer 43 = .ok (.invokevirtual 79, 3) := by decide +kernel
theorem dX6_comeNearer_46 : decode cX6_comeNearer 46 = .ok (.ifCond .eq 74, 3) := by decide +kernel
theorem dX6_comeNearer_49 : decode cX6_comeNearer 49 = .ok (.aload_n 2, 1) := by decide +kernel
theorem dX6_comeNearer_50 : decode cX6_comeNearer 50 = .ok (.dup, 1) := by decide +kernel
theorem dX6_comeNearer_51 : decode cX6_comeNearer 51 = .ok (.getfield 85, 3) := by decide +kernel
theorem dX6_comeNearer_54 : decode cX6_comeNearer 54 = .ok (.iconst 1, 1) := by decide +kernel
theorem dX6_comeNearer_55 : decode cX6_comeNearer 55 = .ok (.isub, 1) := by decide +kernel
theorem dX6_comeNearer_56 : decode cX6_comeNearer 56 = .ok (.putfield 85, 3) := by decide +kernel
theorem dX6_comeNearer_59 : decode cX6_comeNearer 59 = .ok (.aload_n 2, 1) := by decide +kernel
theorem dX6_comeNearer_60 : decode cX6_comeNearer 60 = .ok (.getfield 85, 3) := by decide +kernel
theorem dX6_comeNearer_63 : decode cX6_comeNearer 63 = .ok (.ifCond .gt 81, 3) := by decide +kernel
theorem dX6_comeNearer_66 : decode cX6_comeNearer 66 = .ok (.aload_n 2, 1) := by decide +kernel
theorem dX6_comeNearer_67 : decode cX6_comeNearer 67 = .ok (.aload_n 0, 1) := by decide +kernel
theorem dX6_comeNearer_68 : decode cX6_comeNearer 68 = .ok (.getfield 28, 3) := by decide +kernel
theorem dX6_comeNearer_71 : decode cX6_comeNearer 71 = .ok (.getfield 88, 3) := by decide +kernel
theorem dX6_comeNearer_74 : decode cX6_comeNearer 74 = .ok (.aload_n 2, 1) := by decide +kernel
theorem dX6_comeNearer_75 : decode cX6_comeNearer 75 = .ok (.getfield 76, 3) := by decide +kernel
theorem dX6_comeNearer_78 : decode cX6_comeNearer 78 = .ok (.iaload, 1) := by decide +kernel
theorem dX6_comeNearer_79 : decode cX6_comeNearer 79 = .ok (.invokevirtual 91, 3) := by decide +kernel
theorem dX6_comeNearer_82 : decode cX6_comeNearer 82 = .ok (.aload_n 2, 1) := by decide +kernel
theorem dX6_comeNearer_83 : decode cX6_comeNearer 83 = .ok (.iconst 1, 1) := by decide +kernel
theorem dX6_comeNearer_84 : decode cX6_comeNearer 84 = .ok (.putfield 67, 3) := by decide +kernel
theorem dX6_comeNearer_87 : decode cX6_comeNearer 87 = .ok (.aload_n 0, 1) := by decide +kernel
theorem dX6_comeNearer_88 : decode cX6_comeNearer 88 = .ok (.dup, 1) := by decide +kernel
theorem dX6_comeNearer_89 : decode cX6_comeNearer 89 = .ok (.getfield 25, 3) := by decide +kernel
theorem dX6_comeNearer_92 : decode cX6_comeNearer 92 = .ok (.aload_n 2, 1) := by decide +kernel
theorem dX6_comeNearer_93 : decode cX6_comeNearer 93 = .ok (.getfield 95, 3) := by decide +kernel
theorem dX6_comeNearer_96 : decode cX6_comeNearer 96 = .ok (.aload_n 0, 1) := by decide +kernel
theorem dX6_comeNearer_97 : decode cX6_comeNearer 97 = .ok (.getfield 15, 3) := by decide +kernel
theorem dX6_comeNearer_100 : decode cX6_comeNearer 100 = .ok (.if_icmp .ne 12, 3) := by decide +kernel
theorem dX6_comeNearer_103 : decode cX6_comeNearer 103 = .ok (.iconst 1, 1) := by decide +kernel
theorem dX6_comeNearer_104 : decode cX6_comeNearer 104 = .ok (.aload_n 2, 1) := by decide +kernel
theorem dX6_comeNearer_105 : decode cX6_comeNearer 105 = .ok (.getfield 98, 3) := by decide +kernel
theorem dX6_comeNearer_108 : decode cX6_comeNearer 108 = .ok (.ishl, 1) := by decide +kernel
theorem dX6_comeNearer_109 : decode cX6_comeNearer 109 = .ok (.goto 4, 3) := by decide +kernel
theorem dX6_comeNearer_112 : decode cX6_comeNearer 112 = .ok (.iconst 0, 1) := by decide +kernel
theorem dX6_comeNearer_113 : decode cX6_comeNearer 113 = .ok (.ior, 1) := by decide +kernel
theorem dX6_comeNearer_114 : decode cX6_comeNearer 114 = .ok (.putfield 25, 3) := by decide +kernel
theorem dX6_comeNearer_117 : decode cX6_comeNearer 117 = .ok (.goto 27, 3) := by decide +kernel
theorem dX6_comeNearer_120 : decode cX6_comeNearer 120 = .ok (.aload_n 2, 1) := by decide +kernel
theorem dX6_comeNearer_121 : decode cX6_comeNearer 121 = .ok (.getfield 73, 3) := by decide +kernel
theorem dX6_comeNearer_124 : decode cX6_comeNearer 124 = .ok (.ifCond .eq 20, 3) := by decide +kernel
theorem dX6_comeNearer_127 : decode cX6_comeNearer 127 = .ok (.aload_n 2, 1) := by decide +kernel
theorem dX6_comeNearer_128 : decode cX6_comeNearer 128 = .ok (.getfield 101, 3) := by decide +kernel
theorem dX6_comeNearer_131 : decode cX6_comeNearer 131 = .ok (.ifCond .le 13, 3) := by decide +kernel
theorem dX6_comeNearer_134 : decode cX6_comeNearer 134 = .ok (.aload_n 2, 1) := by decide +kernel
theorem dX6_comeNearer_135 : decode cX6_comeNearer 135 = .ok (.dup, 1) := by decide +kernel
theorem dX6_comeNearer_136 : decode cX6_comeNearer 136 = .ok (.getfield 101, 3) := by decide +kernel
theorem dX6_comeNearer_139 : decode cX6_comeNearer 139 = .ok (.iconst 1, 1) := by decide +kernel
theorem dX6_comeNearer_140 : decode cX6_comeNearer 140 = .ok (.isub, 1) := by decide +kernel
theorem dX6_comeNearer_141 : decode cX6_comeNearer 141 = .ok (.putfield 101, 3) := by decide +kernel
theorem dX6_comeNearer_144 : decode cX6_comeNearer 144 = .ok (.iinc 1 1, 3) := by decide +kernel
theorem dX6_comeNearer_147 : decode cX6_comeNearer 147 = .ok (.goto (-145), 3) := by decide +kernel
theorem dX6_comeNearer_150 : decode cX6_comeNearer 150 = .ok (.return_, 1) := by decide +kernel
theorem rX6_comeNearer : (∀ (d : Nat) (L st : List Value) (h : fk_H), fk_ev d qX6_comeNearer 0 L st h = fk_ev d qX6_comeNearer 1 L (.int (nI 0) :: st) h) ∧
  (∀ (d : Nat) (a0 a1 a2 : Value) (x : Int32) (st : List Value) (h : fk_H), fk_ev d qX6_comeNearer 1 [a0, a1, a2] (.int x :: st) h = fk_ev d qX6_comeNearer 2 [a0, .int x, a2] st h) ∧
  (∀ (d : Nat) (a1 a2 : Value) (x : Nat) (st : List Value) (h : fk_H), fk_ev d qX6_comeNearer 3 [.ref x, a1, a2] st h = fk_ev d qX6_comeNearer 4 [.ref x, a1, a2] (.ref x :: st) h) ∧
  (∀ (d : Nat) (L st : List Value) (N : Nat) (y : Nat → Nat → Int32) (l : Nat → Nat → Int64), fk_ev d qX6_comeNearer 4 L (.ref 238 :: st) (fk_E N y l) = fk_ev d qX6_comeNearer 7 L (.ref (y 238 2).toNatClampNeg :: st) (fk_E N y l)) ∧
  (∀ (d : Nat) (L st : List Value) (N : Nat) (y : Nat → Nat → Int32) (l : Nat → Nat → Int64) (c : Nat), fk_at c 8 → fk_ev d qX6_comeNearer 7 L (.ref c :: st) (fk_E N y l) = fk_ev d qX6_comeNearer 10 L (.int (y c 2) :: st) (fk_E N y l)) ∧
  (∀ (d : Nat) (L : List Value) (x y : Int32) (st : List Value) (h : fk_H), fk_ev d qX6_comeNearer 10 L (.int y :: .int x :: st) h = if y ≤ x then fk_ev d qX6_comeNearer 150 L st h else fk_ev d qX6_comeNearer 13 L st h) ∧
  (∀ (d : Nat) (a1 a2 : Value) (x : Nat) (st : List Value) (h : fk_H), fk_ev d qX6_comeNearer 13 [.ref x, a1, a2] st h = fk_ev d qX6_comeNearer 14 [.ref x, a1, a2] (.ref x :: st) h) ∧
  (∀ (d : Nat) (L st : List Value) (N : Nat) (y : Nat → Nat → Int32) (l : Nat → Nat → Int64), fk_ev d qX6_comeNearer 14 L (.ref 238 :: st) (fk_E N y l) = fk_ev d qX6_comeNearer 17 L (.ref (y 238 2).toNatClampNeg :: st) (fk_E N y l)) ∧
  (∀ (d : Nat) (L st : List Value) (N : Nat) (y : Nat → Nat → Int32) (l : Nat → Nat → Int64) (c : Nat), fk_at c 8 → fk_ev d qX6_comeNearer 17 L (.ref c :: st) (fk_E N y l) = fk_ev d qX6_comeNearer 20 L (.ref (fk_cr c 0) :: st) (fk_E N y l)) ∧
  (∀ (d : Nat) (a0 a2 : Value) (x : Int32) (st : List Value) (h : fk_H), fk_ev d qX6_comeNearer 20 [a0, .int x, a2] st h = fk_ev d qX6_comeNearer 21 [a0, .int x, a2] (.int x :: st) h) ∧
  (∀ (d : Nat) (L st : List Value) (N : Nat) (y : Nat → Nat → Int32) (l : Nat → Nat → Int64) (c i : Nat), fk_at c 24 → i < (fk_shp c).2 → (fk_shp c).2 < 2 ^ 31 → fk_ev d qX6_comeNearer 21 L (.int (nI i) :: .ref c :: st) (fk_E N y l) = fk_ev d qX6_comeNearer 22 L (.ref (c + 2 + i) :: st) (fk_E N y l)) ∧
  (∀ (d : Nat) (a0 a1 a2 : Value) (x : Nat) (st : List Value) (h : fk_H), fk_ev d qX6_comeNearer 22 [a0, a1, a2] (.ref x :: st) h = fk_ev d qX6_comeNearer 23 [a0, a1, .ref x] st h) ∧
  (∀ (d : Nat) (a0 a1 : Value) (x : Nat) (st : List Value) (h : fk_H), fk_ev d qX6_comeNearer 23 [a0, a1, .ref x] st h = fk_ev d qX6_comeNearer 24 [a0, a1, .ref x] (.ref x :: st) h) ∧
  (∀ (d : Nat) (L st : List Value) (h : fk_H), fk_ev d qX6_comeNearer 24 L st h = fk_ev d qX6_comeNearer 25 L (.int (nI 0) :: st) h) ∧
  (∀ (d : Nat) (L st : List Value) (N : Nat) (y : Nat → Nat → Int32) (l : Nat → Nat → Int64) (c : Nat), fk_at c 0 → fk_ev d qX6_comeNearer 25 L (.int (nI 0) :: .ref c :: st) (fk_E N y l) = fk_ev d qX6_comeNearer 28 L st (fk_E N (fk_u y c 14 (nI 0)) l)) ∧
  (∀ (d : Nat) (L st : List Value) (N : Nat) (y : Nat → Nat → Int32) (l : Nat → Nat → Int64) (c : Nat), fk_at c 0 → fk_ev d qX6_comeNearer 25 L (.int (nI 1) :: .ref c :: st) (fk_E N y l) = fk_ev d qX6_comeNearer 28 L st (fk_E N (fk_u y c 14 (nI 1)) l)) ∧
  (∀ (d : Nat) (L st : List Value) (N : Nat) (y : Nat → Nat → Int32) (l : Nat → Nat → Int64) (c : Nat) (v : Int32), (v = nI 0 ∨ v = nI 1) → fk_at c 0 → fk_ev d qX6_comeNearer 25 L (.int v :: .ref c :: st) (fk_E N y l) = fk_ev d qX6_comeNearer 28 L st (fk_E N (fk_u y c 14 v) l)) ∧
  (∀ (d : Nat) (a0 a1 : Value) (x : Nat) (st : List Value) (h : fk_H), fk_ev d qX6_comeNearer 28 [a0, a1, .ref x] st h = fk_ev d qX6_comeNearer 29 [a0, a1, .ref x] (.ref x :: st) h) ∧
  (∀ (d : Nat) (L st : List Value) (N : Nat) (y : Nat → Nat → Int32) (l : Nat → Nat → Int64) (c : Nat), fk_at c 0 → fk_ev d qX6_comeNearer 29 L (.ref c :: st) (fk_E N y l) = fk_ev d qX6_comeNearer 32 L (.int (y c 4) :: st) (fk_E N y l)) ∧
  (∀ (d : Nat) (L : List Value) (x : Int32) (st : List Value) (h : fk_H), fk_ev d qX6_comeNearer 32 L (.int x :: st) h = if x = nI 0 then fk_ev d qX6_comeNearer 120 L st h else fk_ev d qX6_comeNearer 35 L st h) ∧
  (∀ (d : Nat) (a1 a2 : Value) (x : Nat) (st : List Value) (h : fk_H), fk_ev d qX6_comeNearer 35 [.ref x, a1, a2] st h = fk_ev d qX6_comeNearer 36 [.ref x, a1, a2] (.ref x :: st) h) ∧
  (∀ (d : Nat) (L st : List Value) (N : Nat) (y : Nat → Nat → Int32) (l : Nat → Nat → Int64), fk_ev d qX6_comeNearer 36 L (.ref 238 :: st) (fk_E N y l) = fk_ev d qX6_comeNearer 39 L (.ref 18 :: st) (fk_E N y l)) ∧
  (∀ (d : Nat) (a0 a1 : Value) (x : Nat) (st : List Value) (h : fk_H), fk_ev d qX6_comeNearer 39 [a0, a1, .ref x] st h = fk_ev d qX6_comeNearer 40 [a0, a1, .ref x] (.ref x :: st) h) ∧
  (∀ (d : Nat) (L st : List Value) (N : Nat) (y : Nat → Nat → Int32) (l : Nat → Nat → Int64) (c : Nat), fk_at c 0 → fk_ev d qX6_comeNearer 40 L (.ref c :: st) (fk_E N y l) = fk_ev d qX6_comeNearer 43 L (.int (y c 7) :: st) (fk_E N y l)) ∧
  (∀ (d : Nat) (L : List Value) (x0 : Int32)  (N : Nat) (y : Nat → Nat → Int32) (l : Nat → Nat → Int64), fk_ev (d + 1) qX6_comeNearer 43 L (.int x0 :: .ref 18 :: []) (fk_E N y l) = (fk_ev d qX5_isTold 0 [.ref 18, .int x0] [] (fk_E N y l)).bind fun o => fk_ev (d + 1) qX6_comeNearer 46 L (o.1.toList ++ []) o.2) ∧
  (∀ (d : Nat) (L : List Value) (x : Int32) (st : List Value) (h : fk_H), fk_ev d qX6_comeNearer 46 L (.int x :: st) h = if x = nI 0 then fk_ev d qX6_comeNearer 120 L st h else fk_ev d qX6_comeNearer 49 L st h) ∧
  (∀ (d : Nat) (a0 a1 : Value) (x : Nat) (st : List Value) (h : fk_H), fk_ev d qX6_comeNearer 49 [a0, a1, .ref x] st h = fk_ev d qX6_comeNearer 50 [a0, a1, .ref x] (.ref x :: st) h) ∧
  (∀ (d : Nat) (L : List Value) (x : Nat) (st : List Value) (h : fk_H), fk_ev d qX6_comeNearer 50 L (.ref x :: st) h = fk_ev d qX6_comeNearer 51 L (.ref x :: .ref x :: st) h) ∧
  (∀ (d : Nat) (L st : List Value) (N : Nat) (y : Nat → Nat → Int32) (l : Nat → Nat → Int64) (c : Nat), fk_at c 0 → fk_ev d qX6_comeNearer 51 L (.ref c :: st) (fk_E N y l) = fk_ev d qX6_comeNearer 54 L (.int (y c 8) :: st) (fk_E N y l)) ∧
  (∀ (d : Nat) (L st : List Value) (h : fk_H), fk_ev d qX6_comeNearer 54 L st h = fk_ev d qX6_comeNearer 55 L (.int (nI 1) :: st) h) ∧
  (∀ (d : Nat) (L : List Value) (x y : Int32) (st : List Value) (h : fk_H), fk_ev d qX6_comeNearer 55 L (.int y :: .int x :: st) h = fk_ev d qX6_comeNearer 56 L (.int (x - y) :: st) h) ∧
  (∀ (d : Nat) (L st : List Value) (N : Nat) (y : Nat → Nat → Int32) (l : Nat → Nat → Int64) (c : Nat) (v : Int32), fk_at c 0 → fk_ev d qX6_comeNearer 56 L (.int v :: .ref c :: st) (fk_E N y l) = fk_ev d qX6_comeNearer 59 L st (fk_E N (fk_u y c 8 v) l)) ∧
  (∀ (d : Nat) (a0 a1 : Value) (x : Nat) (st : List Value) (h : fk_H), fk_ev d qX6_comeNearer 59 [a0, a1, .ref x] st h = fk_ev d qX6_comeNearer 60 [a0, a1, .ref x] (.ref x :: st) h) ∧
  (∀ (d : Nat) (L st : List Value) (N : Nat) (y : Nat → Nat → Int32) (l : Nat → Nat → Int64) (c : Nat), fk_at c 0 → fk_ev d qX6_comeNearer 60 L (.ref c :: st) (fk_E N y l) = fk_ev d qX6_comeNearer 63 L (.int (y c 8) :: st) (fk_E N y l)) ∧
  (∀ (d : Nat) (L : List Value) (x : Int32) (st : List Value) (h : fk_H), fk_ev d qX6_comeNearer 63 L (.int x :: st) h = if nI 0 < x then fk_ev d qX6_comeNearer 144 L st h else fk_ev d qX6_comeNearer 66 L st h) ∧
  (∀ (d : Nat) (a0 a1 : Value) (x : Nat) (st : List Value) (h : fk_H), fk_ev d qX6_comeNearer 66 [a0, a1, .ref x] st h = fk_ev d qX6_comeNearer 67 [a0, a1, .ref x] (.ref x :: st) h) ∧
  (∀ (d : Nat) (a1 a2 : Value) (x : Nat) (st : List Value) (h : fk_H), fk_ev d qX6_comeNearer 67 [.ref x, a1, a2] st h = fk_ev d qX6_comeNearer 68 [.ref x, a1, a2] (.ref x :: st) h) ∧
  (∀ (d : Nat) (L st : List Value) (N : Nat) (y : Nat → Nat → Int32) (l : Nat → Nat → Int64), fk_ev d qX6_comeNearer 68 L (.ref 238 :: st) (fk_E N y l) = fk_ev d qX6_comeNearer 71 L (.ref 18 :: st) (fk_E N y l)) ∧
  (∀ (d : Nat) (L st : List Value) (N : Nat) (y : Nat → Nat → Int32) (l : Nat → Nat → Int64), fk_ev d qX6_comeNearer 71 L (.ref 18 :: st) (fk_E N y l) = fk_ev d qX6_comeNearer 74 L (.ref 20 :: st) (fk_E N y l)) ∧
  (∀ (d : Nat) (a0 a1 : Value) (x : Nat) (st : List Value) (h : fk_H), fk_ev d qX6_comeNearer 74 [a0, a1, .ref x] st h = fk_ev d qX6_comeNearer 75 [a0, a1, .ref x] (.ref x :: st) h) ∧
  (∀ (d : Nat) (L st : List Value) (N : Nat) (y : Nat → Nat → Int32) (l : Nat → Nat → Int64) (c : Nat), fk_at c 0 → fk_ev d qX6_comeNearer 75 L (.ref c :: st) (fk_E N y l) = fk_ev d qX6_comeNearer 78 L (.int (y c 7) :: st) (fk_E N y l)) ∧
  (∀ (d : Nat) (L st : List Value) (N : Nat) (y : Nat → Nat → Int32) (l : Nat → Nat → Int64) (i : Nat), i < 32 → fk_ev d qX6_comeNearer 78 L (.int (nI i) :: .ref 20 :: st) (fk_E N y l) = fk_ev d qX6_comeNearer 79 L (.int (y 20 i) :: st) (fk_E N y l)) ∧
  (∀ (d : Nat) (L : List Value) (x0 : Int32)  (N : Nat) (y : Nat → Nat → Int32) (l : Nat → Nat → Int64) (c : Nat), fk_at c 0 → fk_ev (d + 1) qX6_comeNearer 79 L (.int x0 :: .ref c :: []) (fk_E N y l) = (fk_ev d qX0_standAt 0 [.ref c, .int x0] [] (fk_E N y l)).bind fun o => fk_ev (d + 1) qX6_comeNearer 82 L (o.1.toList ++ []) o.2) ∧
  (∀ (d : Nat) (a0 a1 : Value) (x : Nat) (st : List Value) (h : fk_H), fk_ev d qX6_comeNearer 82 [a0, a1, .ref x] st h = fk_ev d qX6_comeNearer 83 [a0, a1, .ref x] (.ref x :: st) h) ∧
  (∀ (d : Nat) (L st : List Value) (h : fk_H), fk_ev d qX6_comeNearer 83 L st h = fk_ev d qX6_comeNearer 84 L (.int (nI 1) :: st) h) ∧
  (∀ (d : Nat) (L st : List Value) (N : Nat) (y : Nat → Nat → Int32) (l : Nat → Nat → Int64) (c : Nat), fk_at c 0 → fk_ev d qX6_comeNearer 84 L (.int (nI 0) :: .ref c :: st) (fk_E N y l) = fk_ev d qX6_comeNearer 87 L st (fk_E N (fk_u y c 14 (nI 0)) l)) ∧
  (∀ (d : Nat) (L st : List Value) (N : Nat) (y : Nat → Nat → Int32) (l : Nat → Nat → Int64) (c : Nat), fk_at c 0 → fk_ev d qX6_comeNearer 84 L (.int (nI 1) :: .ref c :: st) (fk_E N y l) = fk_ev d qX6_comeNearer 87 L st (fk_E N (fk_u y c 14 (nI 1)) l)) ∧
  (∀ (d : Nat) (L st : List Value) (N : Nat) (y : Nat → Nat → Int32) (l : Nat → Nat → Int64) (c : Nat) (v : Int32), (v = nI 0 ∨ v = nI 1) → fk_at c 0 → fk_ev d qX6_comeNearer 84 L (.int v :: .ref c :: st) (fk_E N y l) = fk_ev d qX6_comeNearer 87 L st (fk_E N (fk_u y c 14 v) l)) ∧
  (∀ (d : Nat) (a1 a2 : Value) (x : Nat) (st : List Value) (h : fk_H), fk_ev d qX6_comeNearer 87 [.ref x, a1, a2] st h = fk_ev d qX6_comeNearer 88 [.ref x, a1, a2] (.ref x :: st) h) ∧
  (∀ (d : Nat) (L : List Value) (x : Nat) (st : List Value) (h : fk_H), fk_ev d qX6_comeNearer 88 L (.ref x :: st) h = fk_ev d qX6_comeNearer 89 L (.ref x :: .ref x :: st) h) ∧
  (∀ (d : Nat) (L st : List Value) (N : Nat) (y : Nat → Nat → Int32) (l : Nat → Nat → Int64), fk_ev d qX6_comeNearer 89 L (.ref 238 :: st) (fk_E N y l) = fk_ev d qX6_comeNearer 92 L (.int (y 238 7) :: st) (fk_E N y l)) ∧
  (∀ (d : Nat) (a0 a1 : Value) (x : Nat) (st : List Value) (h : fk_H), fk_ev d qX6_comeNearer 92 [a0, a1, .ref x] st h = fk_ev d qX6_comeNearer 93 [a0, a1, .ref x] (.ref x :: st) h) ∧
  (∀ (d : Nat) (L st : List Value) (N : Nat) (y : Nat → Nat → Int32) (l : Nat → Nat → Int64) (c : Nat), fk_at c 0 → fk_ev d qX6_comeNearer 93 L (.ref c :: st) (fk_E N y l) = fk_ev d qX6_comeNearer 96 L (.int (y c 1) :: st) (fk_E N y l)) ∧
  (∀ (d : Nat) (a1 a2 : Value) (x : Nat) (st : List Value) (h : fk_H), fk_ev d qX6_comeNearer 96 [.ref x, a1, a2] st h = fk_ev d qX6_comeNearer 97 [.ref x, a1, a2] (.ref x :: st) h) ∧
  (∀ (d : Nat) (L st : List Value) (N : Nat) (y : Nat → Nat → Int32) (l : Nat → Nat → Int64), fk_ev d qX6_comeNearer 97 L (.ref 238 :: st) (fk_E N y l) = fk_ev d qX6_comeNearer 100 L (.int (y 238 4) :: st) (fk_E N y l)) ∧
  (∀ (d : Nat) (L : List Value) (x y : Int32) (st : List Value) (h : fk_H), fk_ev d qX6_comeNearer 100 L (.int y :: .int x :: st) h = if ¬ x = y then fk_ev d qX6_comeNearer 112 L st h else fk_ev d qX6_comeNearer 103 L st h) ∧
  (∀ (d : Nat) (L st : List Value) (h : fk_H), fk_ev d qX6_comeNearer 103 L st h = fk_ev d qX6_comeNearer 104 L (.int (nI 1) :: st) h) ∧
  (∀ (d : Nat) (a0 a1 : Value) (x : Nat) (st : List Value) (h : fk_H), fk_ev d qX6_comeNearer 104 [a0, a1, .ref x] st h = fk_ev d qX6_comeNearer 105 [a0, a1, .ref x] (.ref x :: st) h) ∧
  (∀ (d : Nat) (L st : List Value) (N : Nat) (y : Nat → Nat → Int32) (l : Nat → Nat → Int64) (c : Nat), fk_at c 0 → fk_ev d qX6_comeNearer 105 L (.ref c :: st) (fk_E N y l) = fk_ev d qX6_comeNearer 108 L (.int (y c 6) :: st) (fk_E N y l)) ∧
  (∀ (d : Nat) (L : List Value) (x y : Int32) (st : List Value) (h : fk_H), fk_ev d qX6_comeNearer 108 L (.int y :: .int x :: st) h = fk_ev d qX6_comeNearer 109 L (.int (x <<< (y &&& 31)) :: st) h) ∧
  (∀ (d : Nat) (L st : List Value) (h : fk_H), fk_ev d qX6_comeNearer 109 L st h = fk_ev d qX6_comeNearer 113 L st h) ∧
  (∀ (d : Nat) (L st : List Value) (h : fk_H), fk_ev d qX6_comeNearer 112 L st h = fk_ev d qX6_comeNearer 113 L (.int (nI 0) :: st) h) ∧
  (∀ (d : Nat) (L : List Value) (x y : Int32) (st : List Value) (h : fk_H), fk_ev d qX6_comeNearer 113 L (.int y :: .int x :: st) h = fk_ev d qX6_comeNearer 114 L (.int (x ||| y) :: st) h) ∧
  (∀ (d : Nat) (L st : List Value) (N : Nat) (y : Nat → Nat → Int32) (l : Nat → Nat → Int64) (v : Int32), fk_ev d qX6_comeNearer 114 L (.int v :: .ref 238 :: st) (fk_E N y l) = fk_ev d qX6_comeNearer 117 L st (fk_E N (fk_u y 238 7 v) l)) ∧
  (∀ (d : Nat) (L st : List Value) (h : fk_H), fk_ev d qX6_comeNearer 117 L st h = fk_ev d qX6_comeNearer 144 L st h) ∧
  (∀ (d : Nat) (a0 a1 : Value) (x : Nat) (st : List Value) (h : fk_H), fk_ev d qX6_comeNearer 120 [a0, a1, .ref x] st h = fk_ev d qX6_comeNearer 121 [a0, a1, .ref x] (.ref x :: st) h) ∧
  (∀ (d : Nat) (L st : List Value) (N : Nat) (y : Nat → Nat → Int32) (l : Nat → Nat → Int64) (c : Nat), fk_at c 0 → fk_ev d qX6_comeNearer 121 L (.ref c :: st) (fk_E N y l) = fk_ev d qX6_comeNearer 124 L (.int (y c 4) :: st) (fk_E N y l)) ∧
  (∀ (d : Nat) (L : List Value) (x : Int32) (st : List Value) (h : fk_H), fk_ev d qX6_comeNearer 124 L (.int x :: st) h = if x = nI 0 then fk_ev d qX6_comeNearer 144 L st h else fk_ev d qX6_comeNearer 127 L st h) ∧
  (∀ (d : Nat) (a0 a1 : Value) (x : Nat) (st : List Value) (h : fk_H), fk_ev d qX6_comeNearer 127 [a0, a1, .ref x] st h = fk_ev d qX6_comeNearer 128 [a0, a1, .ref x] (.ref x :: st) h) ∧
  (∀ (d : Nat) (L st : List Value) (N : Nat) (y : Nat → Nat → Int32) (l : Nat → Nat → Int64) (c : Nat), fk_at c 0 → fk_ev d qX6_comeNearer 128 L (.ref c :: st) (fk_E N y l) = fk_ev d qX6_comeNearer 131 L (.int (y c 9) :: st) (fk_E N y l)) ∧
  (∀ (d : Nat) (L : List Value) (x : Int32) (st : List Value) (h : fk_H), fk_ev d qX6_comeNearer 131 L (.int x :: st) h = if x ≤ nI 0 then fk_ev d qX6_comeNearer 144 L st h else fk_ev d qX6_comeNearer 134 L st h) ∧
  (∀ (d : Nat) (a0 a1 : Value) (x : Nat) (st : List Value) (h : fk_H), fk_ev d qX6_comeNearer 134 [a0, a1, .ref x] st h = fk_ev d qX6_comeNearer 135 [a0, a1, .ref x] (.ref x :: st) h) ∧
  (∀ (d : Nat) (L : List Value) (x : Nat) (st : List Value) (h : fk_H), fk_ev d qX6_comeNearer 135 L (.ref x :: st) h = fk_ev d qX6_comeNearer 136 L (.ref x :: .ref x :: st) h) ∧
  (∀ (d : Nat) (L st : List Value) (N : Nat) (y : Nat → Nat → Int32) (l : Nat → Nat → Int64) (c : Nat), fk_at c 0 → fk_ev d qX6_comeNearer 136 L (.ref c :: st) (fk_E N y l) = fk_ev d qX6_comeNearer 139 L (.int (y c 9) :: st) (fk_E N y l)) ∧
  (∀ (d : Nat) (L st : List Value) (h : fk_H), fk_ev d qX6_comeNearer 139 L st h = fk_ev d qX6_comeNearer 140 L (.int (nI 1) :: st) h) ∧
  (∀ (d : Nat) (L : List Value) (x y : Int32) (st : List Value) (h : fk_H), fk_ev d qX6_comeNearer 140 L (.int y :: .int x :: st) h = fk_ev d qX6_comeNearer 141 L (.int (x - y) :: st) h) ∧
  (∀ (d : Nat) (L st : List Value) (N : Nat) (y : Nat → Nat → Int32) (l : Nat → Nat → Int64) (c : Nat) (v : Int32), fk_at c 0 → fk_ev d qX6_comeNearer 141 L (.int v :: .ref c :: st) (fk_E N y l) = fk_ev d qX6_comeNearer 144 L st (fk_E N (fk_u y c 9 v) l)) ∧
  (∀ (d : Nat) (a0 a2 : Value) (x : Int32) (st : List Value) (h : fk_H), fk_ev d qX6_comeNearer 144 [a0, .int x, a2] st h = fk_ev d qX6_comeNearer 147 [a0, .int (x + nI 1), a2] st h) ∧
  (∀ (d : Nat) (L st : List Value) (h : fk_H), fk_ev d qX6_comeNearer 147 L st h = fk_ev d qX6_comeNearer 2 L st h) ∧
  (∀ (d : Nat) (L : List Value) (h : fk_H), fk_ev d qX6_comeNearer 150 L [] h = some (none, h)) := ⟨fun d L st h => fk_w_iconst dX6_comeNearer_0 (by decide),
  fun d a0 a1 a2 x st h => fk_w_istoren 1 3 [] [a0, a1, a2] [a0, .int x, a2] dX6_comeNearer_1 rfl rfl (by decide) rfl,
  fun d a1 a2 x st h => fk_w_aloadn 0 [.ref x, a1, a2] dX6_comeNearer_3 rfl,
  fun d L st N y l => fk_g_getM rfl lf_6_32 (by decide) dX6_comeNearer_4 fk_at_238,
  fun d L st N y l c hc => fk_g_getI rfl lf_6_60 (by decide) dX6_comeNearer_7 hc,
  fun d L x y st h => fk_r_icmp_ge dX6_comeNearer_10 (by decide),
  fun d a1 a2 x st h => fk_w_aloadn 0 [.ref x, a1, a2] dX6_comeNearer_13 rfl,
  fun d L st N y l => fk_g_getM rfl lf_6_32 (by decide) dX6_comeNearer_14 fk_at_238,
  fun d L st N y l c hc => fk_g_getC rfl lf_6_63 (by decide) rfl dX6_comeNearer_17 hc,
  fun d a0 a2 x st h => fk_w_iloadn 1 [a0, .int x, a2] dX6_comeNearer_20 rfl,
  fun d L st N y l c i hc hi hl => fk_h_aald dX6_comeNearer_21 hc hi hl,
  fun d a0 a1 a2 x st h => fk_w_astoren 2 3 [] [a0, a1, a2] [a0, a1, .ref x] dX6_comeNearer_22 rfl rfl (by decide) rfl,
  fun d a0 a1 x st h => fk_w_aloadn 2 [a0, a1, .ref x] dX6_comeNearer_23 rfl,
  fun d L st h => fk_w_iconst dX6_comeNearer_24 (by decide),
  fun d L st N y l c hc => fk_g_putI rfl lf_6_67 (by decide) dX6_comeNearer_25 rfl hc,
  fun d L st N y l c hc => fk_g_putI rfl lf_6_67 (by decide) dX6_comeNearer_25 rfl hc,
  fun d L st N y l c v hv hc => fk_g_putI rfl lf_6_67 (by decide) dX6_comeNearer_25 (by rcases hv with rfl | rfl <;> rfl) hc,
  fun d a0 a1 x st h => fk_w_aloadn 2 [a0, a1, .ref x] dX6_comeNearer_28 rfl,
  fun d L st N y l c hc => fk_g_getI rfl lf_6_73 (by decide) dX6_comeNearer_29 hc,
  fun d L x st h => fk_r_if_eq dX6_comeNearer_32 (by decide),
  fun d a1 a2 x st h => fk_w_aloadn 0 [.ref x, a1, a2] dX6_comeNearer_35 rfl,
  fun d L st N y l => fk_g_getC rfl lf_6_28 (by decide) rfl dX6_comeNearer_36 fk_at_238,
  fun d a0 a1 x st h => fk_w_aloadn 2 [a0, a1, .ref x] dX6_comeNearer_39 rfl,
  fun d L st N y l c hc => fk_g_getI rfl lf_6_76 (by decide) dX6_comeNearer_40 hc,
  fun d L x0 N y l  => fk_g_call [.int x0] [] rfl lm_6_79 dX6_comeNearer_43 rfl ⟨rfl, by decide⟩ (by simp) fk_at_18,
  fun d L x st h => fk_r_if_eq dX6_comeNearer_46 (by decide),
  fun d a0 a1 x st h => fk_w_aloadn 2 [a0, a1, .ref x] dX6_comeNearer_49 rfl,
  fun d L x st h => fk_r_dup_ref dX6_comeNearer_50,
  fun d L st N y l c hc => fk_g_getI rfl lf_6_85 (by decide) dX6_comeNearer_51 hc,
  fun d L st h => fk_w_iconst dX6_comeNearer_54 (by decide),
  fun d L x y st h => fk_r_isub dX6_comeNearer_55,
  fun d L st N y l c v hc => fk_g_putI rfl lf_6_85 (by decide) dX6_comeNearer_56 rfl hc,
  fun d a0 a1 x st h => fk_w_aloadn 2 [a0, a1, .ref x] dX6_comeNearer_59 rfl,
  fun d L st N y l c hc => fk_g_getI rfl lf_6_85 (by decide) dX6_comeNearer_60 hc,
  fun d L x st h => fk_r_if_gt dX6_comeNearer_63 (by decide),
  fun d a0 a1 x st h => fk_w_aloadn 2 [a0, a1, .ref x] dX6_comeNearer_66 rfl,
  fun d a1 a2 x st h => fk_w_aloadn 0 [.ref x, a1, a2] dX6_comeNearer_67 rfl,
  fun d L st N y l => fk_g_getC rfl lf_6_28 (by decide) rfl dX6_comeNearer_68 fk_at_238,
  fun d L st N y l => fk_g_getC rfl lf_6_88 (by decide) rfl dX6_comeNearer_71 fk_at_18,
  fun d a0 a1 x st h => fk_w_aloadn 2 [a0, a1, .ref x] dX6_comeNearer_74 rfl,
  fun d L st N y l c hc => fk_g_getI rfl lf_6_76 (by decide) dX6_comeNearer_75 hc,
  fun d L st N y l i hi => fk_g_iald fk_at_20 fk_ln_20 (by decide) dX6_comeNearer_78 hi,
  fun d L x0 N y l c hc => fk_g_call [.int x0] [] rfl lm_6_91 dX6_comeNearer_79 rfl ⟨rfl, by decide⟩ (by simp) hc,
  fun d a0 a1 x st h => fk_w_aloadn 2 [a0, a1, .ref x] dX6_comeNearer_82 rfl,
  fun d L st h => fk_w_iconst dX6_comeNearer_83 (by decide),
  fun d L st N y l c hc => fk_g_putI rfl lf_6_67 (by decide) dX6_comeNearer_84 rfl hc,
  fun d L st N y l c hc => fk_g_putI rfl lf_6_67 (by decide) dX6_comeNearer_84 rfl hc,
  fun d L st N y l c v hv hc => fk_g_putI rfl lf_6_67 (by decide) dX6_comeNearer_84 (by rcases hv with rfl | rfl <;> rfl) hc,
  fun d a1 a2 x st h => fk_w_aloadn 0 [.ref x, a1, a2] dX6_comeNearer_87 rfl,
  fun d L x st h => fk_r_dup_ref dX6_comeNearer_88,
  fun d L st N y l => fk_g_getI rfl lf_6_25 (by decide) dX6_comeNearer_89 fk_at_238,
  fun d a0 a1 x st h => fk_w_aloadn 2 [a0, a1, .ref x] dX6_comeNearer_92 rfl,
  fun d L st N y l c hc => fk_g_getI rfl lf_6_95 (by decide) dX6_comeNearer_93 hc,
  fun d a1 a2 x st h => fk_w_aloadn 0 [.ref x, a1, a2] dX6_comeNearer_96 rfl,
  fun d L st N y l => fk_g_getI rfl lf_6_15 (by decide) dX6_comeNearer_97 fk_at_238,
  fun d L x y st h => fk_r_icmp_ne dX6_comeNearer_100 (by decide),
  fun d L st h => fk_w_iconst dX6_comeNearer_103 (by decide),
  fun d a0 a1 x st h => fk_w_aloadn 2 [a0, a1, .ref x] dX6_comeNearer_104 rfl,
  fun d L st N y l c hc => fk_g_getI rfl lf_6_98 (by decide) dX6_comeNearer_105 hc,
  fun d L x y st h => fk_r_ishl dX6_comeNearer_108,
  fun d L st h => fk_r_goto dX6_comeNearer_109 (by decide),
  fun d L st h => fk_w_iconst dX6_comeNearer_112 (by decide),
  fun d L x y st h => fk_r_ior dX6_comeNearer_113,
  fun d L st N y l v => fk_g_putI rfl lf_6_25 (by decide) dX6_comeNearer_114 rfl fk_at_238,
  fun d L st h => fk_r_goto dX6_comeNearer_117 (by decide),
  fun d a0 a1 x st h => fk_w_aloadn 2 [a0, a1, .ref x] dX6_comeNearer_120 rfl,
  fun d L st N y l c hc => fk_g_getI rfl lf_6_73 (by decide) dX6_comeNearer_121 hc,
  fun d L x st h => fk_r_if_eq dX6_comeNearer_124 (by decide),
  fun d a0 a1 x st h => fk_w_aloadn 2 [a0, a1, .ref x] dX6_comeNearer_127 rfl,
  fun d L st N y l c hc => fk_g_getI rfl lf_6_101 (by decide) dX6_comeNearer_128 hc,
  fun d L x st h => fk_r_if_le dX6_comeNearer_131 (by decide),
  fun d a0 a1 x st h => fk_w_aloadn 2 [a0, a1, .ref x] dX6_comeNearer_134 rfl,
  fun d L x st h => fk_r_dup_ref dX6_comeNearer_135,
  fun d L st N y l c hc => fk_g_getI rfl lf_6_101 (by decide) dX6_comeNearer_136 hc,
  fun d L st h => fk_w_iconst dX6_comeNearer_139 (by decide),
  fun d L x y st h => fk_r_isub dX6_comeNearer_140,
  fun d L st N y l c v hc => fk_g_putI rfl lf_6_101 (by decide) dX6_comeNearer_141 rfl hc,
  fun d a0 a2 x st h => fk_w_iinc 1 3 (1) [] [a0, .int x, a2] [a0, .int (x + nI 1), a2] dX6_comeNearer_144 rfl rfl rfl (by decide) rfl,
  fun d L st h => fk_r_goto dX6_comeNearer_147 (by decide),
  fun d L h => fk_r_vret dX6_comeNearer_150 rfl⟩
theorem hX6_comeNearer_2 : ∀ (d : Nat) (a0 a2 : Value) (x : Int32) (st : List Value) (h : fk_H), fk_ev d qX6_comeNearer 2 [a0, .int x, a2] st h = fk_ev d qX6_comeNearer 3 [a0, .int x, a2] (.int x :: st) h := fun d a0 a2 x st h => fk_w_iloadn 1 [a0, .int x, a2] dX6_comeNearer_2 rfl
theorem dX6_meetAgain_0 : decode cX6_meetAgain 0 = .ok (.iconst 0, 1) := by decide +kernel
theorem dX6_meetAgain_1 : decode cX6_meetAgain 1 = .ok (.istore_n 1, 1) := by decide +kernel
theorem dX6_meetAgain_2 : decode cX6_meetAgain 2 = .ok (.iload_n 1, 1) := by decide +kernel
theorem dX6_meetAgain_3 : decode cX6_meetAgain 3 = .ok (.aload_n 0, 1) := by decide +kernel
theorem dX6_meetAgain_4 : decode cX6_meetAgain 4 = .ok (.getfield 32, 3) := by decide +kernel
theorem dX6_meetAgain_7 : decode cX6_meetAgain 7 = .ok (.getfield 60, 3) := by decide +kernel
theorem dX6_meetAgain_10 : decode cX6_meetAgain 10 = .ok (.if_icmp .ge 126, 3) := by decide +kernel
theorem dX6_meetAgain_13 : decode cX6_meetAgain 13 = .ok (.aload_n 0, 1) := by decide +kernel
theorem dX6_meetAgain_14 : decode cX6_meetAgain 14 = .ok (.getfield 32, 3) := by decide +kernel
theorem dX6_meetAgain_17 : decode cX6_meetAgain 17 = .ok (.getfield 63, 3) := by decide +kernel
theorem dX6_meetAgain_20 : decode cX6_meetAgain 20 = .ok (.iload_n 1, 1) := by decide +kernel
theorem dX6_meetAgain_21 : decode cX6_meetAgain 21 = .ok (.aaload, 1) := by decide +kernel
theorem dX6_meetAgain_22 : decode cX6_meetAgain 22 = .ok (.astore_n 2, 1) := by decide +kernel
theorem dX6_meetAgain_23 : decode cX6_meetAgain 23 = .ok (.iload_n 1, 1) := by decide +kernel
theorem dX6_meetAgain_24 : decode cX6_meetAgain 24 = .ok (.iconst 1, 1) := by decide +kernel
theorem dX6_meetAgain_25 : decode cX6_meetAgain 25 = .ok (.iadd, 1) := by decide +kernel
theorem dX6_meetAgain_26 : decode cX6_meetAgain 26 = .ok (.istore_n 3, 1) := by decide +kernel
theorem dX6_meetAgain_27 : decode cX6_meetAgain 27 = .ok (.iload_n 3, 1) := by decide +kernel
theorem dX6_meetAgain_28 : decode cX6_meetAgain 28 = .ok (.aload_n 0, 1) := by decide +kernel
theorem dX6_meetAgain_29 : decode cX6_meetAgain 29 = .ok (.getfield 32, 3) := by decide +kernel
theorem dX6_meetAgain_32 : decode cX6_meetAgain 32 = .ok (.getfield 60, 3) := by decide +kernel
theorem dX6_meetAgain_35 : decode cX6_meetAgain 35 = .ok (.if_icmp .ge 95, 3) := by decide +kernel
theorem dX6_meetAgain_38 : decode cX6_meetAgain 38 = .ok (.aload_n 0, 1) := by decide +kernel
theorem dX6_meetAgain_39 : decode cX6_meetAgain 39 = .ok (.getfield 32, 3) := by decide +kernel
theorem dX6_meetAgain_42 : decode cX6_meetAgain 42 = .ok (.iload_n 1, 1) := by decide +kernel
theorem dX6_meetAgain_43 : decode cX6_meetAgain 43 = .ok (.invokevirtual 104, 3) := by decide +kernel
theorem dX6_meetAgain_46 : decode cX6_meetAgain 46 = .ok (.ifCond .eq 84, 3) := by decide +kernel
theorem dX6_meetAgain_49 : decode cX6_meetAgain 49 = .ok (.aload_n 0, 1) := by decide +kernel
theorem dX6_meetAgain_50 : decode cX6_meetAgain 50 = .ok (.getfield 32, 3) := by decide +kernel
theorem dX6_meetAgain_53 : decode cX6_meetAgain 53 = .ok (.getfield 63, 3) := by decide +kernel
theorem dX6_meetAgain_56 : decode cX6_meetAgain 56 = .ok (.iload_n 3, 1) := by decide +kernel
theorem dX6_meetAgain_57 : decode cX6_meetAgain 57 = .ok (.aaload, 1) := by decide +kernel
theorem dX6_meetAgain_58 : decode cX6_meetAgain 58 = .ok (.astore 4, 2) := by decide +kernel
theorem dX6_meetAgain_60 : decode cX6_meetAgain 60 = .ok (.aload 4, 2) := by decide +kernel
theorem dX6_meetAgain_62 : decode cX6_meetAgain 62 = .ok (.getfield 73, 3) := by decide +kernel
theorem dX6_meetAgain_65 : decode cX6_meetAgain 65 = .ok (.ifCond .eq 59, 3) := by decide +kernel
theorem dX6_meetAgain_68 : decode cX6_meetAgain 68 = .ok (.aload 4, 2) := by decide +kernel
theorem dX6_meetAgain_70 : decode cX6_meetAgain 70 = .ok (.getfield 95, 3) := by decide +kernel
theorem dX6_meetAgain_73 : decode cX6_meetAgain 73 = .ok (.aload_n 2, 1) := by decide +kernel
theorem dX6_meetAgain_74 : decode cX6_meetAgain 74 = .ok (.getfield 95, 3) := by decide +kernel
theorem dX6_meetAgain_77 : decode cX6_meetAgain 77 = .ok (.if_icmp .ne 47, 3) := by decide +kernel
theorem dX6_meetAgain_80 : decode cX6_meetAgain 80 = .ok (.aload 4, 2) := by decide +kernel
theorem dX6_meetAgain_82 : decode cX6_meetAgain 82 = .ok (.getfield 98, 3) := by decide +kernel
theorem dX6_meetAgain_85 : decode cX6_meetAgain 85 = .ok (.aload_n 2, 1) := by decide +kernel
theorem dX6_meetAgain_86 : decode cX6_meetAgain 86 = .ok (.getfield 98, 3) := by decide +kernel
theorem dX6_meetAgain_89 : decode cX6_meetAgain 89 = .ok (.if_icmp .ne 35, 3) := by decide +kernel
theorem dX6_meetAgain_92 : decode cX6_meetAgain 92 = .ok (.aload_n 2, 1) := by decide +kernel
theorem dX6_meetAgain_93 : decode cX6_meetAgain 93 = .ok (.aload 4, 2) := by decide +kernel
theorem dX6_meetAgain_95 : decode cX6_meetAgain 95 = .ok (.invokevirtual 107, 3) := by decide +kernel
theorem dX6_meetAgain_98 : decode cX6_meetAgain 98 = .ok (.istore 5, 2) := by decide +kernel
theorem dX6_meetAgain_100 : decode cX6_meetAgain 100 = .ok (.aload_n 0, 1) := by decide +kernel
theorem dX6_meetAgain_101 : decode cX6_meetAgain 101 = .ok (.getfield 32, 3) := by decide +kernel
theorem dX6_meetAgain_104 : decode cX6_meetAgain 104 = .ok (.aload_n 2, 1) := by decide +kernel
theorem dX6_meetAgain_105 : decode cX6_meetAgain 105 = .ok (.aload 4, 2) := by decide +kernel
theorem dX6_meetAgain_107 : decode cX6_meetAgain 107 = .ok (.iload 5, 2) := by decide +kernel
theorem dX6_meetAgain_109 : decode cX6_meetAgain 109 = .ok (.aload_n 0, 1) := by decide +kernel
theorem dX6_meetAgain_110 : decode cX6_meetAgain 110 = .ok (.aload_n 2, 1) := by decide +kernel
theorem dX6_meetAgain_111 : decode cX6_meetAgain 111 = .ok (.aload 4, 2) := by decide +kernel
theorem dX6_meetAgain_113 : decode cX6_meetAgain 113 = .ok (.iload 5, 2) := by decide +kernel
theorem dX6_meetAgain_115 : decode cX6_meetAgain 115 = .ok (.invokevirtual 111, 3) := by decide +kernel
theorem dX6_meetAgain_118 : decode cX6_meetAgain 118 = .ok (.iconst (-1), 1) := by decide +kernel
theorem dX6_meetAgain_119 : decode cX6_meetAgain 119 = .ok (.ixor, 1) := by decide +kernel
theorem dX6_meetAgain_120 : decode cX6_meetAgain 120 = .ok (.iand, 1) := by decide +kernel
theorem dX6_meetAgain_121 : decode cX6_meetAgain 121 = .ok (.invokevirtual 115, 3) := by decide +kernel
theorem dX6_meetAgain_124 : decode cX6_meetAgain 124 = .ok (.iinc 3 1, 3) := by decide +kernel
theorem dX6_meetAgain_127 : decode cX6_meetAgain 127 = .ok (.goto (-100), 3) := by decide +kernel
theorem dX6_meetAgain_130 : decode cX6_meetAgain 130 = .ok (.iinc 1 1, 3) := by decide +kernel
theorem dX6_meetAgain_133 : decode cX6_meetAgain 133 = .ok (.goto (-131), 3) := by decide +kernel
theorem dX6_meetAgain_136 : decode cX6_meetAgain 136 = .ok (.return_, 1) := by decide +kernel
theorem rX6_meetAgain : (∀ (d : Nat) (L st : List Value) (h : fk_H), fk_ev d qX6_meetAgain 0 L st h = fk_ev d qX6_meetAgain 1 L (.int (nI 0) :: st) h) ∧
  (∀ (d : Nat) (a0 a1 a2 a3 a4 a5 : Value) (x : Int32) (st : List Value) (h : fk_H), fk_ev d qX6_meetAgain 1 [a0, a1, a2, a3, a4, a5] (.int x :: st) h = fk_ev d qX6_meetAgain 2 [a0, .int x, a2, a3, a4, a5] st h) ∧
  (∀ (d : Nat) (a1 a2 a3 a4 a5 : Value) (x : Nat) (st : List Value) (h : fk_H), fk_ev d qX6_meetAgain 3 [.ref x, a1, a2, a3, a4, a5] st h = fk_ev d qX6_meetAgain 4 [.ref x, a1, a2, a3, a4, a5] (.ref x :: st) h) ∧
  (∀ (d : Nat) (L st : List Value) (N : Nat) (y : Nat → Nat → Int32) (l : Nat → Nat → Int64), fk_ev d qX6_meetAgain 4 L (.ref 238 :: st) (fk_E N y l) = fk_ev d qX6_meetAgain 7 L (.ref (y 238 2).toNatClampNeg :: st) (fk_E N y l)) ∧
  (∀ (d : Nat) (L st : List Value) (N : Nat) (y : Nat → Nat → Int32) (l : Nat → Nat → Int64) (c : Nat), fk_at c 8 → fk_ev d qX6_meetAgain 7 L (.ref c :: st) (fk_E N y l) = fk_ev d qX6_meetAgain 10 L (.int (y c 2) :: st) (fk_E N y l)) ∧
  (∀ (d : Nat) (L : List Value) (x y : Int32) (st : List Value) (h : fk_H), fk_ev d qX6_meetAgain 10 L (.int y :: .int x :: st) h = if y ≤ x then fk_ev d qX6_meetAgain 136 L st h else fk_ev d qX6_meetAgain 13 L st h) ∧
  (∀ (d : Nat) (a1 a2 a3 a4 a5 : Value) (x : Nat) (st : List Value) (h : fk_H), fk_ev d qX6_meetAgain 13 [.ref x, a1, a2, a3, a4, a5] st h = fk_ev d qX6_meetAgain 14 [.ref x, a1, a2, a3, a4, a5] (.ref x :: st) h) ∧
  (∀ (d : Nat) (L st : List Value) (N : Nat) (y : Nat → Nat → Int32) (l : Nat → Nat → Int64), fk_ev d qX6_meetAgain 14 L (.ref 238 :: st) (fk_E N y l) = fk_ev d qX6_meetAgain 17 L (.ref (y 238 2).toNatClampNeg :: st) (fk_E N y l)) ∧
  (∀ (d : Nat) (L st : List Value) (N : Nat) (y : Nat → Nat → Int32) (l : Nat → Nat → Int64) (c : Nat), fk_at c 8 → fk_ev d qX6_meetAgain 17 L (.ref c :: st) (fk_E N y l) = fk_ev d qX6_meetAgain 20 L (.ref (fk_cr c 0) :: st) (fk_E N y l)) ∧
  (∀ (d : Nat) (a0 a2 a3 a4 a5 : Value) (x : Int32) (st : List Value) (h : fk_H), fk_ev d qX6_meetAgain 20 [a0, .int x, a2, a3, a4, a5] st h = fk_ev d qX6_meetAgain 21 [a0, .int x, a2, a3, a4, a5] (.int x :: st) h) ∧
  (∀ (d : Nat) (L st : List Value) (N : Nat) (y : Nat → Nat → Int32) (l : Nat → Nat → Int64) (c i : Nat), fk_at c 24 → i < (fk_shp c).2 → (fk_shp c).2 < 2 ^ 31 → fk_ev d qX6_meetAgain 21 L (.int (nI i) :: .ref c :: st) (fk_E N y l) = fk_ev d qX6_meetAgain 22 L (.ref (c + 2 + i) :: st) (fk_E N y l)) ∧
  (∀ (d : Nat) (a0 a1 a2 a3 a4 a5 : Value) (x : Nat) (st : List Value) (h : fk_H), fk_ev d qX6_meetAgain 22 [a0, a1, a2, a3, a4, a5] (.ref x :: st) h = fk_ev d qX6_meetAgain 23 [a0, a1, .ref x, a3, a4, a5] st h) ∧
  (∀ (d : Nat) (a0 a2 a3 a4 a5 : Value) (x : Int32) (st : List Value) (h : fk_H), fk_ev d qX6_meetAgain 23 [a0, .int x, a2, a3, a4, a5] st h = fk_ev d qX6_meetAgain 24 [a0, .int x, a2, a3, a4, a5] (.int x :: st) h) ∧
  (∀ (d : Nat) (L st : List Value) (h : fk_H), fk_ev d qX6_meetAgain 24 L st h = fk_ev d qX6_meetAgain 25 L (.int (nI 1) :: st) h) ∧
  (∀ (d : Nat) (L : List Value) (x y : Int32) (st : List Value) (h : fk_H), fk_ev d qX6_meetAgain 25 L (.int y :: .int x :: st) h = fk_ev d qX6_meetAgain 26 L (.int (x + y) :: st) h) ∧
  (∀ (d : Nat) (a0 a1 a2 a3 a4 a5 : Value) (x : Int32) (st : List Value) (h : fk_H), fk_ev d qX6_meetAgain 26 [a0, a1, a2, a3, a4, a5] (.int x :: st) h = fk_ev d qX6_meetAgain 27 [a0, a1, a2, .int x, a4, a5] st h) ∧
  (∀ (d : Nat) (a1 a2 a3 a4 a5 : Value) (x : Nat) (st : List Value) (h : fk_H), fk_ev d qX6_meetAgain 28 [.ref x, a1, a2, a3, a4, a5] st h = fk_ev d qX6_meetAgain 29 [.ref x, a1, a2, a3, a4, a5] (.ref x :: st) h) ∧
  (∀ (d : Nat) (L st : List Value) (N : Nat) (y : Nat → Nat → Int32) (l : Nat → Nat → Int64), fk_ev d qX6_meetAgain 29 L (.ref 238 :: st) (fk_E N y l) = fk_ev d qX6_meetAgain 32 L (.ref (y 238 2).toNatClampNeg :: st) (fk_E N y l)) ∧
  (∀ (d : Nat) (L st : List Value) (N : Nat) (y : Nat → Nat → Int32) (l : Nat → Nat → Int64) (c : Nat), fk_at c 8 → fk_ev d qX6_meetAgain 32 L (.ref c :: st) (fk_E N y l) = fk_ev d qX6_meetAgain 35 L (.int (y c 2) :: st) (fk_E N y l)) ∧
  (∀ (d : Nat) (L : List Value) (x y : Int32) (st : List Value) (h : fk_H), fk_ev d qX6_meetAgain 35 L (.int y :: .int x :: st) h = if y ≤ x then fk_ev d qX6_meetAgain 130 L st h else fk_ev d qX6_meetAgain 38 L st h) ∧
  (∀ (d : Nat) (a1 a2 a3 a4 a5 : Value) (x : Nat) (st : List Value) (h : fk_H), fk_ev d qX6_meetAgain 38 [.ref x, a1, a2, a3, a4, a5] st h = fk_ev d qX6_meetAgain 39 [.ref x, a1, a2, a3, a4, a5] (.ref x :: st) h) ∧
  (∀ (d : Nat) (L st : List Value) (N : Nat) (y : Nat → Nat → Int32) (l : Nat → Nat → Int64), fk_ev d qX6_meetAgain 39 L (.ref 238 :: st) (fk_E N y l) = fk_ev d qX6_meetAgain 42 L (.ref (y 238 2).toNatClampNeg :: st) (fk_E N y l)) ∧
  (∀ (d : Nat) (a0 a2 a3 a4 a5 : Value) (x : Int32) (st : List Value) (h : fk_H), fk_ev d qX6_meetAgain 42 [a0, .int x, a2, a3, a4, a5] st h = fk_ev d qX6_meetAgain 43 [a0, .int x, a2, a3, a4, a5] (.int x :: st) h) ∧
  (∀ (d : Nat) (L : List Value) (x0 : Int32)  (N : Nat) (y : Nat → Nat → Int32) (l : Nat → Nat → Int64) (c : Nat), fk_at c 8 → fk_ev (d + 1) qX6_meetAgain 43 L (.int x0 :: .ref c :: []) (fk_E N y l) = (fk_ev d qX8_isAtPlace 0 [.ref c, .int x0] [] (fk_E N y l)).bind fun o => fk_ev (d + 1) qX6_meetAgain 46 L (o.1.toList ++ []) o.2) ∧
  (∀ (d : Nat) (L : List Value) (x : Int32) (st : List Value) (h : fk_H), fk_ev d qX6_meetAgain 46 L (.int x :: st) h = if x = nI 0 then fk_ev d qX6_meetAgain 130 L st h else fk_ev d qX6_meetAgain 49 L st h) ∧
  (∀ (d : Nat) (a1 a2 a3 a4 a5 : Value) (x : Nat) (st : List Value) (h : fk_H), fk_ev d qX6_meetAgain 49 [.ref x, a1, a2, a3, a4, a5] st h = fk_ev d qX6_meetAgain 50 [.ref x, a1, a2, a3, a4, a5] (.ref x :: st) h) ∧
  (∀ (d : Nat) (L st : List Value) (N : Nat) (y : Nat → Nat → Int32) (l : Nat → Nat → Int64), fk_ev d qX6_meetAgain 50 L (.ref 238 :: st) (fk_E N y l) = fk_ev d qX6_meetAgain 53 L (.ref (y 238 2).toNatClampNeg :: st) (fk_E N y l)) ∧
  (∀ (d : Nat) (L st : List Value) (N : Nat) (y : Nat → Nat → Int32) (l : Nat → Nat → Int64) (c : Nat), fk_at c 8 → fk_ev d qX6_meetAgain 53 L (.ref c :: st) (fk_E N y l) = fk_ev d qX6_meetAgain 56 L (.ref (fk_cr c 0) :: st) (fk_E N y l)) ∧
  (∀ (d : Nat) (a0 a1 a2 a4 a5 : Value) (x : Int32) (st : List Value) (h : fk_H), fk_ev d qX6_meetAgain 56 [a0, a1, a2, .int x, a4, a5] st h = fk_ev d qX6_meetAgain 57 [a0, a1, a2, .int x, a4, a5] (.int x :: st) h) ∧
  (∀ (d : Nat) (L st : List Value) (N : Nat) (y : Nat → Nat → Int32) (l : Nat → Nat → Int64) (c i : Nat), fk_at c 24 → i < (fk_shp c).2 → (fk_shp c).2 < 2 ^ 31 → fk_ev d qX6_meetAgain 57 L (.int (nI i) :: .ref c :: st) (fk_E N y l) = fk_ev d qX6_meetAgain 58 L (.ref (c + 2 + i) :: st) (fk_E N y l)) ∧
  (∀ (d : Nat) (a0 a1 a2 a3 a4 a5 : Value) (x : Nat) (st : List Value) (h : fk_H), fk_ev d qX6_meetAgain 58 [a0, a1, a2, a3, a4, a5] (.ref x :: st) h = fk_ev d qX6_meetAgain 60 [a0, a1, a2, a3, .ref x, a5] st h) ∧
  (∀ (d : Nat) (a0 a1 a2 a3 a5 : Value) (x : Nat) (st : List Value) (h : fk_H), fk_ev d qX6_meetAgain 60 [a0, a1, a2, a3, .ref x, a5] st h = fk_ev d qX6_meetAgain 62 [a0, a1, a2, a3, .ref x, a5] (.ref x :: st) h) ∧
  (∀ (d : Nat) (L st : List Value) (N : Nat) (y : Nat → Nat → Int32) (l : Nat → Nat → Int64) (c : Nat), fk_at c 0 → fk_ev d qX6_meetAgain 62 L (.ref c :: st) (fk_E N y l) = fk_ev d qX6_meetAgain 65 L (.int (y c 4) :: st) (fk_E N y l)) ∧
  (∀ (d : Nat) (L : List Value) (x : Int32) (st : List Value) (h : fk_H), fk_ev d qX6_meetAgain 65 L (.int x :: st) h = if x = nI 0 then fk_ev d qX6_meetAgain 124 L st h else fk_ev d qX6_meetAgain 68 L st h) ∧
  (∀ (d : Nat) (a0 a1 a2 a3 a5 : Value) (x : Nat) (st : List Value) (h : fk_H), fk_ev d qX6_meetAgain 68 [a0, a1, a2, a3, .ref x, a5] st h = fk_ev d qX6_meetAgain 70 [a0, a1, a2, a3, .ref x, a5] (.ref x :: st) h) ∧
  (∀ (d : Nat) (L st : List Value) (N : Nat) (y : Nat → Nat → Int32) (l : Nat → Nat → Int64) (c : Nat), fk_at c 0 → fk_ev d qX6_meetAgain 70 L (.ref c :: st) (fk_E N y l) = fk_ev d qX6_meetAgain 73 L (.int (y c 1) :: st) (fk_E N y l)) ∧
  (∀ (d : Nat) (a0 a1 a3 a4 a5 : Value) (x : Nat) (st : List Value) (h : fk_H), fk_ev d qX6_meetAgain 73 [a0, a1, .ref x, a3, a4, a5] st h = fk_ev d qX6_meetAgain 74 [a0, a1, .ref x, a3, a4, a5] (.ref x :: st) h) ∧
  (∀ (d : Nat) (L st : List Value) (N : Nat) (y : Nat → Nat → Int32) (l : Nat → Nat → Int64) (c : Nat), fk_at c 0 → fk_ev d qX6_meetAgain 74 L (.ref c :: st) (fk_E N y l) = fk_ev d qX6_meetAgain 77 L (.int (y c 1) :: st) (fk_E N y l)) ∧
  (∀ (d : Nat) (L : List Value) (x y : Int32) (st : List Value) (h : fk_H), fk_ev d qX6_meetAgain 77 L (.int y :: .int x :: st) h = if ¬ x = y then fk_ev d qX6_meetAgain 124 L st h else fk_ev d qX6_meetAgain 80 L st h) ∧
  (∀ (d : Nat) (a0 a1 a2 a3 a5 : Value) (x : Nat) (st : List Value) (h : fk_H), fk_ev d qX6_meetAgain 80 [a0, a1, a2, a3, .ref x, a5] st h = fk_ev d qX6_meetAgain 82 [a0, a1, a2, a3, .ref x, a5] (.ref x :: st) h) ∧
  (∀ (d : Nat) (L st : List Value) (N : Nat) (y : Nat → Nat → Int32) (l : Nat → Nat → Int64) (c : Nat), fk_at c 0 → fk_ev d qX6_meetAgain 82 L (.ref c :: st) (fk_E N y l) = fk_ev d qX6_meetAgain 85 L (.int (y c 6) :: st) (fk_E N y l)) ∧
  (∀ (d : Nat) (a0 a1 a3 a4 a5 : Value) (x : Nat) (st : List Value) (h : fk_H), fk_ev d qX6_meetAgain 85 [a0, a1, .ref x, a3, a4, a5] st h = fk_ev d qX6_meetAgain 86 [a0, a1, .ref x, a3, a4, a5] (.ref x :: st) h) ∧
  (∀ (d : Nat) (L st : List Value) (N : Nat) (y : Nat → Nat → Int32) (l : Nat → Nat → Int64) (c : Nat), fk_at c 0 → fk_ev d qX6_meetAgain 86 L (.ref c :: st) (fk_E N y l) = fk_ev d qX6_meetAgain 89 L (.int (y c 6) :: st) (fk_E N y l)) ∧
  (∀ (d : Nat) (L : List Value) (x y : Int32) (st : List Value) (h : fk_H), fk_ev d qX6_meetAgain 89 L (.int y :: .int x :: st) h = if ¬ x = y then fk_ev d qX6_meetAgain 124 L st h else fk_ev d qX6_meetAgain 92 L st h) ∧
  (∀ (d : Nat) (a0 a1 a3 a4 a5 : Value) (x : Nat) (st : List Value) (h : fk_H), fk_ev d qX6_meetAgain 92 [a0, a1, .ref x, a3, a4, a5] st h = fk_ev d qX6_meetAgain 93 [a0, a1, .ref x, a3, a4, a5] (.ref x :: st) h) ∧
  (∀ (d : Nat) (a0 a1 a2 a3 a5 : Value) (x : Nat) (st : List Value) (h : fk_H), fk_ev d qX6_meetAgain 93 [a0, a1, a2, a3, .ref x, a5] st h = fk_ev d qX6_meetAgain 95 [a0, a1, a2, a3, .ref x, a5] (.ref x :: st) h) ∧
  (∀ (d : Nat) (L : List Value) (x0 : Nat)  (N : Nat) (y : Nat → Nat → Int32) (l : Nat → Nat → Int64) (c : Nat), fk_at c 0 → fk_ev (d + 1) qX6_meetAgain 95 L (.ref x0 :: .ref c :: []) (fk_E N y l) = (fk_ev d qX0_clash 0 [.ref c, .ref x0] [] (fk_E N y l)).bind fun o => fk_ev (d + 1) qX6_meetAgain 98 L (o.1.toList ++ []) o.2) ∧
  (∀ (d : Nat) (a0 a1 a2 a3 a4 a5 : Value) (x : Int32) (st : List Value) (h : fk_H), fk_ev d qX6_meetAgain 98 [a0, a1, a2, a3, a4, a5] (.int x :: st) h = fk_ev d qX6_meetAgain 100 [a0, a1, a2, a3, a4, .int x] st h) ∧
  (∀ (d : Nat) (a1 a2 a3 a4 a5 : Value) (x : Nat) (st : List Value) (h : fk_H), fk_ev d qX6_meetAgain 100 [.ref x, a1, a2, a3, a4, a5] st h = fk_ev d qX6_meetAgain 101 [.ref x, a1, a2, a3, a4, a5] (.ref x :: st) h) ∧
  (∀ (d : Nat) (L st : List Value) (N : Nat) (y : Nat → Nat → Int32) (l : Nat → Nat → Int64), fk_ev d qX6_meetAgain 101 L (.ref 238 :: st) (fk_E N y l) = fk_ev d qX6_meetAgain 104 L (.ref (y 238 2).toNatClampNeg :: st) (fk_E N y l)) ∧
  (∀ (d : Nat) (a0 a1 a3 a4 a5 : Value) (x : Nat) (st : List Value) (h : fk_H), fk_ev d qX6_meetAgain 104 [a0, a1, .ref x, a3, a4, a5] st h = fk_ev d qX6_meetAgain 105 [a0, a1, .ref x, a3, a4, a5] (.ref x :: st) h) ∧
  (∀ (d : Nat) (a0 a1 a2 a3 a5 : Value) (x : Nat) (st : List Value) (h : fk_H), fk_ev d qX6_meetAgain 105 [a0, a1, a2, a3, .ref x, a5] st h = fk_ev d qX6_meetAgain 107 [a0, a1, a2, a3, .ref x, a5] (.ref x :: st) h) ∧
  (∀ (d : Nat) (a0 a1 a2 a3 a4 : Value) (x : Int32) (st : List Value) (h : fk_H), fk_ev d qX6_meetAgain 107 [a0, a1, a2, a3, a4, .int x] st h = fk_ev d qX6_meetAgain 109 [a0, a1, a2, a3, a4, .int x] (.int x :: st) h) ∧
  (∀ (d : Nat) (a1 a2 a3 a4 a5 : Value) (x : Nat) (st : List Value) (h : fk_H), fk_ev d qX6_meetAgain 109 [.ref x, a1, a2, a3, a4, a5] st h = fk_ev d qX6_meetAgain 110 [.ref x, a1, a2, a3, a4, a5] (.ref x :: st) h) ∧
  (∀ (d : Nat) (a0 a1 a3 a4 a5 : Value) (x : Nat) (st : List Value) (h : fk_H), fk_ev d qX6_meetAgain 110 [a0, a1, .ref x, a3, a4, a5] st h = fk_ev d qX6_meetAgain 111 [a0, a1, .ref x, a3, a4, a5] (.ref x :: st) h) ∧
  (∀ (d : Nat) (a0 a1 a2 a3 a5 : Value) (x : Nat) (st : List Value) (h : fk_H), fk_ev d qX6_meetAgain 111 [a0, a1, a2, a3, .ref x, a5] st h = fk_ev d qX6_meetAgain 113 [a0, a1, a2, a3, .ref x, a5] (.ref x :: st) h) ∧
  (∀ (d : Nat) (a0 a1 a2 a3 a4 : Value) (x : Int32) (st : List Value) (h : fk_H), fk_ev d qX6_meetAgain 113 [a0, a1, a2, a3, a4, .int x] st h = fk_ev d qX6_meetAgain 115 [a0, a1, a2, a3, a4, .int x] (.int x :: st) h) ∧
  (∀ (d : Nat) (L : List Value) (x0 : Nat) (x1 : Nat) (x2 : Int32) (w0 w1 w2 w3 : Value) (N : Nat) (y : Nat → Nat → Int32) (l : Nat → Nat → Int64), fk_ev (d + 1) qX6_meetAgain 115 L (.int x2 :: .ref x1 :: .ref x0 :: .ref 238 :: [w0, w1, w2, w3]) (fk_E N y l) = (fk_ev d qX6_believed 0 [.ref 238, .ref x0, .ref x1, .int x2, .null, .null] [] (fk_E N y l)).bind fun o => fk_ev (d + 1) qX6_meetAgain 118 L (o.1.toList ++ [w0, w1, w2, w3]) o.2) ∧
  (∀ (d : Nat) (L st : List Value) (h : fk_H), fk_ev d qX6_meetAgain 118 L st h = fk_ev d qX6_meetAgain 119 L (.int ((-1 : Int32)) :: st) h) ∧
  (∀ (d : Nat) (L : List Value) (x y : Int32) (st : List Value) (h : fk_H), fk_ev d qX6_meetAgain 119 L (.int y :: .int x :: st) h = fk_ev d qX6_meetAgain 120 L (.int (x ^^^ y) :: st) h) ∧
  (∀ (d : Nat) (L : List Value) (x y : Int32) (st : List Value) (h : fk_H), fk_ev d qX6_meetAgain 120 L (.int y :: .int x :: st) h = fk_ev d qX6_meetAgain 121 L (.int (x &&& y) :: st) h) ∧
  (∀ (d : Nat) (L : List Value) (x0 : Nat) (x1 : Nat) (x2 : Int32)  (N : Nat) (y : Nat → Nat → Int32) (l : Nat → Nat → Int64) (c : Nat), fk_at c 8 → fk_ev (d + 1) qX6_meetAgain 121 L (.int x2 :: .ref x1 :: .ref x0 :: .ref c :: []) (fk_E N y l) = (fk_ev d qX8_merge 0 [.ref c, .ref x0, .ref x1, .int x2] [] (fk_E N y l)).bind fun o => fk_ev (d + 1) qX6_meetAgain 124 L (o.1.toList ++ []) o.2) ∧
  (∀ (d : Nat) (a0 a1 a2 a4 a5 : Value) (x : Int32) (st : List Value) (h : fk_H), fk_ev d qX6_meetAgain 124 [a0, a1, a2, .int x, a4, a5] st h = fk_ev d qX6_meetAgain 127 [a0, a1, a2, .int (x + nI 1), a4, a5] st h) ∧
  (∀ (d : Nat) (L st : List Value) (h : fk_H), fk_ev d qX6_meetAgain 127 L st h = fk_ev d qX6_meetAgain 27 L st h) ∧
  (∀ (d : Nat) (a0 a2 a3 a4 a5 : Value) (x : Int32) (st : List Value) (h : fk_H), fk_ev d qX6_meetAgain 130 [a0, .int x, a2, a3, a4, a5] st h = fk_ev d qX6_meetAgain 133 [a0, .int (x + nI 1), a2, a3, a4, a5] st h) ∧
  (∀ (d : Nat) (L st : List Value) (h : fk_H), fk_ev d qX6_meetAgain 133 L st h = fk_ev d qX6_meetAgain 2 L st h) ∧
  (∀ (d : Nat) (L : List Value) (h : fk_H), fk_ev d qX6_meetAgain 136 L [] h = some (none, h)) := ⟨fun d L st h => fk_w_iconst dX6_meetAgain_0 (by decide),
  fun d a0 a1 a2 a3 a4 a5 x st h => fk_w_istoren 1 6 [] [a0, a1, a2, a3, a4, a5] [a0, .int x, a2, a3, a4, a5] dX6_meetAgain_1 rfl rfl (by decide) rfl,
  fun d a1 a2 a3 a4 a5 x st h => fk_w_aloadn 0 [.ref x, a1, a2, a3, a4, a5] dX6_meetAgain_3 rfl,
  fun d L st N y l => fk_g_getM rfl lf_6_32 (by decide) dX6_meetAgain_4 fk_at_238,
  fun d L st N y l c hc => fk_g_getI rfl lf_6_60 (by decide) dX6_meetAgain_7 hc,
  fun d L x y st h => fk_r_icmp_ge dX6_meetAgain_10 (by decide),
  fun d a1 a2 a3 a4 a5 x st h => fk_w_aloadn 0 [.ref x, a1, a2, a3, a4, a5] dX6_meetAgain_13 rfl,
  fun d L st N y l => fk_g_getM rfl lf_6_32 (by decide) dX6_meetAgain_14 fk_at_238,
  fun d L st N y l c hc => fk_g_getC rfl lf_6_63 (by decide) rfl dX6_meetAgain_17 hc,
  fun d a0 a2 a3 a4 a5 x st h => fk_w_iloadn 1 [a0, .int x, a2, a3, a4, a5] dX6_meetAgain_20 rfl,
  fun d L st N y l c i hc hi hl => fk_h_aald dX6_meetAgain_21 hc hi hl,
  fun d a0 a1 a2 a3 a4 a5 x st h => fk_w_astoren 2 6 [] [a0, a1, a2, a3, a4, a5] [a0, a1, .ref x, a3, a4, a5] dX6_meetAgain_22 rfl rfl (by decide) rfl,
  fun d a0 a2 a3 a4 a5 x st h => fk_w_iloadn 1 [a0, .int x, a2, a3, a4, a5] dX6_meetAgain_23 rfl,
  fun d L st h => fk_w_iconst dX6_meetAgain_24 (by decide),
  fun d L x y st h => fk_r_iadd dX6_meetAgain_25,
  fun d a0 a1 a2 a3 a4 a5 x st h => fk_w_istoren 3 6 [] [a0, a1, a2, a3, a4, a5] [a0, a1, a2, .int x, a4, a5] dX6_meetAgain_26 rfl rfl (by decide) rfl,
  fun d a1 a2 a3 a4 a5 x st h => fk_w_aloadn 0 [.ref x, a1, a2, a3, a4, a5] dX6_meetAgain_28 rfl,
  fun d L st N y l => fk_g_getM rfl lf_6_32 (by decide) dX6_meetAgain_29 fk_at_238,
  fun d L st N y l c hc => fk_g_getI rfl lf_6_60 (by decide) dX6_meetAgain_32 hc,
  fun d L x y st h => fk_r_icmp_ge dX6_meetAgain_35 (by decide),
  fun d a1 a2 a3 a4 a5 x st h => fk_w_aloadn 0 [.ref x, a1, a2, a3, a4, a5] dX6_meetAgain_38 rfl,
  fun d L st N y l => fk_g_getM rfl lf_6_32 (by decide) dX6_meetAgain_39 fk_at_238,
  fun d a0 a2 a3 a4 a5 x st h => fk_w_iloadn 1 [a0, .int x, a2, a3, a4, a5] dX6_meetAgain_42 rfl,
  fun d L x0 N y l c hc => fk_g_call [.int x0] [] rfl lm_6_104 dX6_meetAgain_43 rfl ⟨rfl, by decide⟩ (by simp) hc,
  fun d L x st h => fk_r_if_eq dX6_meetAgain_46 (by decide),
  fun d a1 a2 a3 a4 a5 x st h => fk_w_aloadn 0 [.ref x, a1, a2, a3, a4, a5] dX6_meetAgain_49 rfl,
  fun d L st N y l => fk_g_getM rfl lf_6_32 (by decide) dX6_meetAgain_50 fk_at_238,
  fun d L st N y l c hc => fk_g_getC rfl lf_6_63 (by decide) rfl dX6_meetAgain_53 hc,
  fun d a0 a1 a2 a4 a5 x st h => fk_w_iloadn 3 [a0, a1, a2, .int x, a4, a5] dX6_meetAgain_56 rfl,
  fun d L st N y l c i hc hi hl => fk_h_aald dX6_meetAgain_57 hc hi hl,
  fun d a0 a1 a2 a3 a4 a5 x st h => fk_w_astore 4 6 [] [a0, a1, a2, a3, a4, a5] [a0, a1, a2, a3, .ref x, a5] dX6_meetAgain_58 rfl rfl (by decide) rfl,
  fun d a0 a1 a2 a3 a5 x st h => fk_w_aload 4 [a0, a1, a2, a3, .ref x, a5] dX6_meetAgain_60 rfl,
  fun d L st N y l c hc => fk_g_getI rfl lf_6_73 (by decide) dX6_meetAgain_62 hc,
  fun d L x st h => fk_r_if_eq dX6_meetAgain_65 (by decide),
  fun d a0 a1 a2 a3 a5 x st h => fk_w_aload 4 [a0, a1, a2, a3, .ref x, a5] dX6_meetAgain_68 rfl,
  fun d L st N y l c hc => fk_g_getI rfl lf_6_95 (by decide) dX6_meetAgain_70 hc,
  fun d a0 a1 a3 a4 a5 x st h => fk_w_aloadn 2 [a0, a1, .ref x, a3, a4, a5] dX6_meetAgain_73 rfl,
  fun d L st N y l c hc => fk_g_getI rfl lf_6_95 (by decide) dX6_meetAgain_74 hc,
  fun d L x y st h => fk_r_icmp_ne dX6_meetAgain_77 (by decide),
  fun d a0 a1 a2 a3 a5 x st h => fk_w_aload 4 [a0, a1, a2, a3, .ref x, a5] dX6_meetAgain_80 rfl,
  fun d L st N y l c hc => fk_g_getI rfl lf_6_98 (by decide) dX6_meetAgain_82 hc,
  fun d a0 a1 a3 a4 a5 x st h => fk_w_aloadn 2 [a0, a1, .ref x, a3, a4, a5] dX6_meetAgain_85 rfl,
  fun d L st N y l c hc => fk_g_getI rfl lf_6_98 (by decide) dX6_meetAgain_86 hc,
  fun d L x y st h => fk_r_icmp_ne dX6_meetAgain_89 (by decide),
  fun d a0 a1 a3 a4 a5 x st h => fk_w_aloadn 2 [a0, a1, .ref x, a3, a4, a5] dX6_meetAgain_92 rfl,
  fun d a0 a1 a2 a3 a5 x st h => fk_w_aload 4 [a0, a1, a2, a3, .ref x, a5] dX6_meetAgain_93 rfl,
  fun d L x0 N y l c hc => fk_g_call [.ref x0] [] rfl lm_6_107 dX6_meetAgain_95 rfl ⟨rfl, by decide⟩ (by simp) hc,
  fun d a0 a1 a2 a3 a4 a5 x st h => fk_w_istore 5 6 [] [a0, a1, a2, a3, a4, a5] [a0, a1, a2, a3, a4, .int x] dX6_meetAgain_98 rfl rfl (by decide) rfl,
  fun d a1 a2 a3 a4 a5 x st h => fk_w_aloadn 0 [.ref x, a1, a2, a3, a4, a5] dX6_meetAgain_100 rfl,
  fun d L st N y l => fk_g_getM rfl lf_6_32 (by decide) dX6_meetAgain_101 fk_at_238,
  fun d a0 a1 a3 a4 a5 x st h => fk_w_aloadn 2 [a0, a1, .ref x, a3, a4, a5] dX6_meetAgain_104 rfl,
  fun d a0 a1 a2 a3 a5 x st h => fk_w_aload 4 [a0, a1, a2, a3, .ref x, a5] dX6_meetAgain_105 rfl,
  fun d a0 a1 a2 a3 a4 x st h => fk_w_iload 5 [a0, a1, a2, a3, a4, .int x] dX6_meetAgain_107 rfl,
  fun d a1 a2 a3 a4 a5 x st h => fk_w_aloadn 0 [.ref x, a1, a2, a3, a4, a5] dX6_meetAgain_109 rfl,
  fun d a0 a1 a3 a4 a5 x st h => fk_w_aloadn 2 [a0, a1, .ref x, a3, a4, a5] dX6_meetAgain_110 rfl,
  fun d a0 a1 a2 a3 a5 x st h => fk_w_aload 4 [a0, a1, a2, a3, .ref x, a5] dX6_meetAgain_111 rfl,
  fun d a0 a1 a2 a3 a4 x st h => fk_w_iload 5 [a0, a1, a2, a3, a4, .int x] dX6_meetAgain_113 rfl,
  fun d L x0 x1 x2 w0 w1 w2 w3 N y l  => fk_g_call [.ref x0, .ref x1, .int x2] [w0, w1, w2, w3] rfl lm_6_111 dX6_meetAgain_115 rfl ⟨rfl, by decide⟩ (by simp) fk_at_238,
  fun d L st h => fk_w_iconst dX6_meetAgain_118 (by decide),
  fun d L x y st h => fk_r_ixor dX6_meetAgain_119,
  fun d L x y st h => fk_r_iand dX6_meetAgain_120,
  fun d L x0 x1 x2 N y l c hc => fk_g_call [.ref x0, .ref x1, .int x2] [] rfl lm_6_115 dX6_meetAgain_121 rfl ⟨rfl, by decide⟩ (by simp) hc,
  fun d a0 a1 a2 a4 a5 x st h => fk_w_iinc 3 6 (1) [] [a0, a1, a2, .int x, a4, a5] [a0, a1, a2, .int (x + nI 1), a4, a5] dX6_meetAgain_124 rfl rfl rfl (by decide) rfl,
  fun d L st h => fk_r_goto dX6_meetAgain_127 (by decide),
  fun d a0 a2 a3 a4 a5 x st h => fk_w_iinc 1 6 (1) [] [a0, .int x, a2, a3, a4, a5] [a0, .int (x + nI 1), a2, a3, a4, a5] dX6_meetAgain_130 rfl rfl rfl (by decide) rfl,
  fun d L st h => fk_r_goto dX6_meetAgain_133 (by decide),
  fun d L h => fk_r_vret dX6_meetAgain_136 rfl⟩
theorem hX6_meetAgain_2 : ∀ (d : Nat) (a0 a2 a3 a4 a5 : Value) (x : Int32) (st : List Value) (h : fk_H), fk_ev d qX6_meetAgain 2 [a0, .int x, a2, a3, a4, a5] st h = fk_ev d qX6_meetAgain 3 [a0, .int x, a2, a3, a4, a5] (.int x :: st) h := fun d a0 a2 a3 a4 a5 x st h => fk_w_iloadn 1 [a0, .int x, a2, a3, a4, a5] dX6_meetAgain_2 rfl
theorem hX6_meetAgain_27 : ∀ (d : Nat) (a0 a1 a2 a4 a5 : Value) (x : Int32) (st : List Value) (h : fk_H), fk_ev d qX6_meetAgain 27 [a0, a1, a2, .int x, a4, a5] st h = fk_ev d qX6_meetAgain 28 [a0, a1, a2, .int x, a4, a5] (.int x :: st) h := fun d a0 a1 a2 a4 a5 x st h => fk_w_iloadn 3 [a0, a1, a2, .int x, a4, a5] dX6_meetAgain_27 rfl
theorem dX6_arrive_0 : decode cX6_arrive 0 = .ok (.iconst 0, 1) := by decide +kernel
theorem dX6_arrive_1 : decode cX6_arrive 1 = .ok (.istore_n 1, 1) := by decide +kernel
theorem dX6_arrive_2 : decode cX6_arrive 2 = .ok (.iload_n 1, 1) := by decide +kernel
theorem dX6_arrive_3 : decode cX6_arrive 3 = .ok (.aload_n 0, 1) := by decide +kernel
theorem dX6_arrive_4 : decode cX6_arrive 4 = .ok (.getfield 32, 3) := by decide +kernel
theorem dX6_arrive_7 : decode cX6_arrive 7 = .ok (.getfield 60, 3) := by decide +kernel
theorem dX6_arrive_10 : decode cX6_arrive 10 = .ok (.if_icmp .ge 154, 3) := by decide +kernel
theorem dX6_arrive_13 : decode cX6_arrive 13 = .ok (.aload_n 0, 1) := by decide +kernel
theorem dX6_arrive_14 : decode cX6_arrive 14 = .ok (.getfield 32, 3) := by decide +kernel
theorem dX6_arrive_17 : decode cX6_arrive 17 = .ok (.getfield 63, 3) := by decide +kernel
theorem dX6_arrive_20 : decode cX6_arrive 20 = .ok (.iload_n 1, 1) := by decide +kernel
theorem dX6_arrive_21 : decode cX6_arrive 21 = .ok (.aaload, 1) := by decide +kernel
theorem dX6_arrive_22 : decode cX6_arrive 22 = .ok (.astore_n 2, 1) := by decide +kernel
theorem dX6_arrive_23 : decode cX6_arrive 23 = .ok (.aload_n 0, 1) := by decide +kernel
theorem dX6_arrive_24 : decode cX6_arrive 24 = .ok (.getfield 32, 3) := by decide +kernel
theorem dX6_arrive_27 : decode cX6_arrive 27 = .ok (.iload_n 1, 1) := by decide +kernel
theorem dX6_arrive_28 : decode cX6_arrive 28 = .ok (.invokevirtual 104, 3) := by decide +kernel
theorem dX6_arrive_31 : decode cX6_arrive 31 = .ok (.ifCond .eq 127, 3) := by decide +kernel
theorem dX6_arrive_34 : decode cX6_arrive 34 = .ok (.aload_n 2, 1) := by decide +kernel
theorem dX6_arrive_35 : decode cX6_arrive 35 = .ok (.getfield 67, 3) := by decide +kernel
theorem dX6_arrive_38 : decode cX6_arrive 38 = .ok (.ifCond .eq 120, 3) := by decide +kernel
theorem dX6_arrive_41 : decode cX6_arrive 41 = .ok (.aload_n 0, 1) := by decide +kernel
theorem dX6_arrive_42 : decode cX6_arrive 42 = .ok (.getfield 28, 3) := by decide +kernel
theorem dX6_arrive_45 : decode cX6_arrive 45 = .ok (.getfield 119, 3) := by decide +kernel
theorem dX6_arrive_48 : decode cX6_arrive 48 = .ok (.aload_n 2, 1) := by decide +kernel
theorem dX6_arrive_49 : decode cX6_arrive 49 = .ok (.getfield 98, 3) := by decide +kernel
theorem dX6_arrive_52 : decode cX6_arrive 52 = .ok (.iaload, 1) := by decide +kernel
theorem dX6_arrive_53 : decode cX6_arrive 53 = .ok (.ifCond .lt 39, 3) := by decide +kernel
theorem dX6_arrive_56 : decode cX6_arrive 56 = .ok (.aload_n 2, 1) := by decide +kernel
theorem dX6_arrive_57 : decode cX6_arrive 57 = .ok (.aload_n 0, 1) := by decide +kernel
theorem dX6_arrive_58 : decode cX6_arrive 58 = .ok (.getfield 28, 3) := by decide +kernel
theorem dX6_arrive_61 : decode cX6_arrive 61 = .ok (.getfield 119, 3) := by decide +kernel
theorem dX6_arrive_64 : decode cX6_arrive 64 = .ok (.aload_n 2, 1) := by decide +kernel
theorem dX6_arrive_65 : decode cX6_arrive 65 = .ok (.getfield 98, 3) := by decide +kernel
theorem dX6_arrive_68 : decode cX6_arrive 68 = .ok (.iaload, 1) := by decide +kernel
theorem dX6_arrive_69 : decode cX6_arrive 69 = .ok (.aload_n 0, 1) := by decide +kernel
theorem dX6_arrive_70 : decode cX6_arrive 70 = .ok (.getfield 28, 3) := by decide +kernel
theorem dX6_arrive_73 : decode cX6_arrive 73 = .ok (.getfield 122, 3) := by decide +kernel
theorem dX6_arrive_76 : decode cX6_arrive 76 = .ok (.aload_n 2, 1) := by decide +kernel
theorem dX6_arrive_77 : decode cX6_arrive 77 = .ok (.getfield 98, 3) := by decide +kernel
theorem dX6_arrive_80 : decode cX6_arrive 80 = .ok (.iaload, 1) := by decide +kernel
theorem dX6_arrive_81 : decode cX6_arrive 81 = .ok (.ifCond .eq 7, 3) := by decide +kernel
theorem dX6_arrive_84 : decode cX6_arrive 84 = .ok (.iconst 1, 1) := by decide +kernel
theorem dX6_arrive_85 : decode cX6_arrive 85 = .ok (.goto 4, 3) := by decide +kernel
theorem dX6_arrive_88 : decode cX6_arrive 88 = .ok (.iconst 0, 1) := by decide +kernel
theorem dX6_arrive_89 : decode cX6_arrive 89 = .ok (.invokevirtual 125, 3) := by decide +kernel
theorem dX6_arrive_92 : decode cX6_arrive 92 = .ok (.aload_n 0, 1) := by decide +kernel
theorem dX6_arrive_93 : decode cX6_arrive 93 = .ok (.aload_n 2, 1) := by decide +kernel
theorem dX6_arrive_94 : decode cX6_arrive 94 = .ok (.invokevirtual 129, 3) := by decide +kernel
theorem dX6_arrive_97 : decode cX6_arrive 97 = .ok (.aload_n 2, 1) := by decide +kernel
theorem dX6_arrive_98 : decode cX6_arrive 98 = .ok (.ldc 133, 2) := by decide +kernel
theorem dX6_arrive_100 : decode cX6_arrive 100 = .ok (.aload_n 2, 1) := by decide +kernel
theorem dX6_arrive_101 : decode cX6_arrive 101 = .ok (.getfield 134, 3) := by decide +kernel
theorem dX6_arrive_104 : decode cX6_arrive 104 = .ok (.aload_n 0, 1) := by decide +kernel
theorem dX6_arrive_105 : decode cX6_arrive 105 = .ok (.getfield 36, 3) := by decide +kernel
theorem dX6_arrive_108 : decode cX6_arrive 108 = .ok (.bipush 98, 2) := by decide +kernel
theorem dX6_arrive_110 : decode cX6_arrive 110 = .ok (.sipush 999, 3) := by decide +kernel
theorem dX6_arrive_113 : decode cX6_arrive 113 = .ok (.aload_n 0, 1) := by decide +kernel
theorem dX6_arrive_114 : decode cX6_arrive 114 = .ok (.getfield 9, 3) := by decide +kernel
theorem dX6_arrive_117 : decode cX6_arrive 117 = .ok (.invokevirtual 137, 3) := by decide +kernel
theorem dX6_arrive_120 : decode cX6_arrive 120 = .ok (.iadd, 1) := by decide +kernel
theorem dX6_arrive_121 : decode cX6_arrive 121 = .ok (.invokestatic 143, 3) := by decide +kernel
theorem dX6_arrive_124 : decode cX6_arrive 124 = .ok (.putfield 134, 3) := by decide +kernel
theorem dX6_arrive_127 : decode cX6_arrive 127 = .ok (.aload_n 0, 1) := by decide +kernel
theorem dX6_arrive_128 : decode cX6_arrive 128 = .ok (.aload_n 2, 1) := by decide +kernel
theorem dX6_arrive_129 : decode cX6_arrive 129 = .ok (.invokevirtual 129, 3) := by decide +kernel
theorem dX6_arrive_132 : decode cX6_arrive 132 = .ok (.aload_n 2, 1) := by decide +kernel
theorem dX6_arrive_133 : decode cX6_arrive 133 = .ok (.aload_n 2, 1) := by decide +kernel
theorem dX6_arrive_134 : decode cX6_arrive 134 = .ok (.getfield 101, 3) := by decide +kernel
theorem dX6_arrive_137 : decode cX6_arrive 137 = .ok (.aload_n 0, 1) := by decide +kernel
theorem dX6_arrive_138 : decode cX6_arrive 138 = .ok (.getfield 36, 3) := by decide +kernel
theorem dX6_arrive_141 : decode cX6_arrive 141 = .ok (.bipush 119, 2) := by decide +kernel
theorem dX6_arrive_143 : decode cX6_arrive 143 = .ok (.bipush 9, 2) := by decide +kernel
theorem dX6_arrive_145 : decode cX6_arrive 145 = .ok (.aload_n 0, 1) := by decide +kernel
theorem dX6_arrive_146 : decode cX6_arrive 146 = .ok (.getfield 9, 3) := by decide +kernel
theorem dX6_arrive_149 : decode cX6_arrive 149 = .ok (.invokevirtual 137, 3) := by decide +kernel
theorem dX6_arrive_152 : decode cX6_arrive 152 = .ok (.invokestatic 149, 3) := by decide +kernel
theorem dX6_arrive_155 : decode cX6_arrive 155 = .ok (.putfield 101, 3) := by decide +kernel
theorem dX6_arrive_158 : decode cX6_arrive 158 = .ok (.iinc 1 1, 3) := by decide +kernel
theorem dX6_arrive_161 : decode cX6_arrive 161 = .ok (.goto (-159), 3) := by decide +kernel
theorem dX6_arrive_164 : decode cX6_arrive 164 = .ok (.return_, 1) := by decide +kernel
theorem rX6_arrive : (∀ (d : Nat) (L st : List Value) (h : fk_H), fk_ev d qX6_arrive 0 L st h = fk_ev d qX6_arrive 1 L (.int (nI 0) :: st) h) ∧
  (∀ (d : Nat) (a0 a1 a2 : Value) (x : Int32) (st : List Value) (h : fk_H), fk_ev d qX6_arrive 1 [a0, a1, a2] (.int x :: st) h = fk_ev d qX6_arrive 2 [a0, .int x, a2] st h) ∧
  (∀ (d : Nat) (a1 a2 : Value) (x : Nat) (st : List Value) (h : fk_H), fk_ev d qX6_arrive 3 [.ref x, a1, a2] st h = fk_ev d qX6_arrive 4 [.ref x, a1, a2] (.ref x :: st) h) ∧
  (∀ (d : Nat) (L st : List Value) (N : Nat) (y : Nat → Nat → Int32) (l : Nat → Nat → Int64), fk_ev d qX6_arrive 4 L (.ref 238 :: st) (fk_E N y l) = fk_ev d qX6_arrive 7 L (.ref (y 238 2).toNatClampNeg :: st) (fk_E N y l)) ∧
  (∀ (d : Nat) (L st : List Value) (N : Nat) (y : Nat → Nat → Int32) (l : Nat → Nat → Int64) (c : Nat), fk_at c 8 → fk_ev d qX6_arrive 7 L (.ref c :: st) (fk_E N y l) = fk_ev d qX6_arrive 10 L (.int (y c 2) :: st) (fk_E N y l)) ∧
  (∀ (d : Nat) (L : List Value) (x y : Int32) (st : List Value) (h : fk_H), fk_ev d qX6_arrive 10 L (.int y :: .int x :: st) h = if y ≤ x then fk_ev d qX6_arrive 164 L st h else fk_ev d qX6_arrive 13 L st h) ∧
  (∀ (d : Nat) (a1 a2 : Value) (x : Nat) (st : List Value) (h : fk_H), fk_ev d qX6_arrive 13 [.ref x, a1, a2] st h = fk_ev d qX6_arrive 14 [.ref x, a1, a2] (.ref x :: st) h) ∧
  (∀ (d : Nat) (L st : List Value) (N : Nat) (y : Nat → Nat → Int32) (l : Nat → Nat → Int64), fk_ev d qX6_arrive 14 L (.ref 238 :: st) (fk_E N y l) = fk_ev d qX6_arrive 17 L (.ref (y 238 2).toNatClampNeg :: st) (fk_E N y l)) ∧
  (∀ (d : Nat) (L st : List Value) (N : Nat) (y : Nat → Nat → Int32) (l : Nat → Nat → Int64) (c : Nat), fk_at c 8 → fk_ev d qX6_arrive 17 L (.ref c :: st) (fk_E N y l) = fk_ev d qX6_arrive 20 L (.ref (fk_cr c 0) :: st) (fk_E N y l)) ∧
  (∀ (d : Nat) (a0 a2 : Value) (x : Int32) (st : List Value) (h : fk_H), fk_ev d qX6_arrive 20 [a0, .int x, a2] st h = fk_ev d qX6_arrive 21 [a0, .int x, a2] (.int x :: st) h) ∧
  (∀ (d : Nat) (L st : List Value) (N : Nat) (y : Nat → Nat → Int32) (l : Nat → Nat → Int64) (c i : Nat), fk_at c 24 → i < (fk_shp c).2 → (fk_shp c).2 < 2 ^ 31 → fk_ev d qX6_arrive 21 L (.int (nI i) :: .ref c :: st) (fk_E N y l) = fk_ev d qX6_arrive 22 L (.ref (c + 2 + i) :: st) (fk_E N y l)) ∧
  (∀ (d : Nat) (a0 a1 a2 : Value) (x : Nat) (st : List Value) (h : fk_H), fk_ev d qX6_arrive 22 [a0, a1, a2] (.ref x :: st) h = fk_ev d qX6_arrive 23 [a0, a1, .ref x] st h) ∧
  (∀ (d : Nat) (a1 a2 : Value) (x : Nat) (st : List Value) (h : fk_H), fk_ev d qX6_arrive 23 [.ref x, a1, a2] st h = fk_ev d qX6_arrive 24 [.ref x, a1, a2] (.ref x :: st) h) ∧
  (∀ (d : Nat) (L st : List Value) (N : Nat) (y : Nat → Nat → Int32) (l : Nat → Nat → Int64), fk_ev d qX6_arrive 24 L (.ref 238 :: st) (fk_E N y l) = fk_ev d qX6_arrive 27 L (.ref (y 238 2).toNatClampNeg :: st) (fk_E N y l)) ∧
  (∀ (d : Nat) (a0 a2 : Value) (x : Int32) (st : List Value) (h : fk_H), fk_ev d qX6_arrive 27 [a0, .int x, a2] st h = fk_ev d qX6_arrive 28 [a0, .int x, a2] (.int x :: st) h) ∧
  (∀ (d : Nat) (L : List Value) (x0 : Int32)  (N : Nat) (y : Nat → Nat → Int32) (l : Nat → Nat → Int64) (c : Nat), fk_at c 8 → fk_ev (d + 1) qX6_arrive 28 L (.int x0 :: .ref c :: []) (fk_E N y l) = (fk_ev d qX8_isAtPlace 0 [.ref c, .int x0] [] (fk_E N y l)).bind fun o => fk_ev (d + 1) qX6_arrive 31 L (o.1.toList ++ []) o.2) ∧
  (∀ (d : Nat) (L : List Value) (x : Int32) (st : List Value) (h : fk_H), fk_ev d qX6_arrive 31 L (.int x :: st) h = if x = nI 0 then fk_ev d qX6_arrive 158 L st h else fk_ev d qX6_arrive 34 L st h) ∧
  (∀ (d : Nat) (a0 a1 : Value) (x : Nat) (st : List Value) (h : fk_H), fk_ev d qX6_arrive 34 [a0, a1, .ref x] st h = fk_ev d qX6_arrive 35 [a0, a1, .ref x] (.ref x :: st) h) ∧
  (∀ (d : Nat) (L st : List Value) (N : Nat) (y : Nat → Nat → Int32) (l : Nat → Nat → Int64) (c : Nat), fk_at c 0 → fk_ev d qX6_arrive 35 L (.ref c :: st) (fk_E N y l) = fk_ev d qX6_arrive 38 L (.int (y c 14) :: st) (fk_E N y l)) ∧
  (∀ (d : Nat) (L : List Value) (x : Int32) (st : List Value) (h : fk_H), fk_ev d qX6_arrive 38 L (.int x :: st) h = if x = nI 0 then fk_ev d qX6_arrive 158 L st h else fk_ev d qX6_arrive 41 L st h) ∧
  (∀ (d : Nat) (a1 a2 : Value) (x : Nat) (st : List Value) (h : fk_H), fk_ev d qX6_arrive 41 [.ref x, a1, a2] st h = fk_ev d qX6_arrive 42 [.ref x, a1, a2] (.ref x :: st) h) ∧
  (∀ (d : Nat) (L st : List Value) (N : Nat) (y : Nat → Nat → Int32) (l : Nat → Nat → Int64), fk_ev d qX6_arrive 42 L (.ref 238 :: st) (fk_E N y l) = fk_ev d qX6_arrive 45 L (.ref 18 :: st) (fk_E N y l)) ∧
  (∀ (d : Nat) (L st : List Value) (N : Nat) (y : Nat → Nat → Int32) (l : Nat → Nat → Int64), fk_ev d qX6_arrive 45 L (.ref 18 :: st) (fk_E N y l) = fk_ev d qX6_arrive 48 L (.ref 22 :: st) (fk_E N y l)) ∧
  (∀ (d : Nat) (a0 a1 : Value) (x : Nat) (st : List Value) (h : fk_H), fk_ev d qX6_arrive 48 [a0, a1, .ref x] st h = fk_ev d qX6_arrive 49 [a0, a1, .ref x] (.ref x :: st) h) ∧
  (∀ (d : Nat) (L st : List Value) (N : Nat) (y : Nat → Nat → Int32) (l : Nat → Nat → Int64) (c : Nat), fk_at c 0 → fk_ev d qX6_arrive 49 L (.ref c :: st) (fk_E N y l) = fk_ev d qX6_arrive 52 L (.int (y c 6) :: st) (fk_E N y l)) ∧
  (∀ (d : Nat) (L st : List Value) (N : Nat) (y : Nat → Nat → Int32) (l : Nat → Nat → Int64) (i : Nat), i < 16 → fk_ev d qX6_arrive 52 L (.int (nI i) :: .ref 22 :: st) (fk_E N y l) = fk_ev d qX6_arrive 53 L (.int (y 22 i) :: st) (fk_E N y l)) ∧
  (∀ (d : Nat) (L : List Value) (x : Int32) (st : List Value) (h : fk_H), fk_ev d qX6_arrive 53 L (.int x :: st) h = if x < nI 0 then fk_ev d qX6_arrive 92 L st h else fk_ev d qX6_arrive 56 L st h) ∧
  (∀ (d : Nat) (a0 a1 : Value) (x : Nat) (st : List Value) (h : fk_H), fk_ev d qX6_arrive 56 [a0, a1, .ref x] st h = fk_ev d qX6_arrive 57 [a0, a1, .ref x] (.ref x :: st) h) ∧
  (∀ (d : Nat) (a1 a2 : Value) (x : Nat) (st : List Value) (h : fk_H), fk_ev d qX6_arrive 57 [.ref x, a1, a2] st h = fk_ev d qX6_arrive 58 [.ref x, a1, a2] (.ref x :: st) h) ∧
  (∀ (d : Nat) (L st : List Value) (N : Nat) (y : Nat → Nat → Int32) (l : Nat → Nat → Int64), fk_ev d qX6_arrive 58 L (.ref 238 :: st) (fk_E N y l) = fk_ev d qX6_arrive 61 L (.ref 18 :: st) (fk_E N y l)) ∧
  (∀ (d : Nat) (L st : List Value) (N : Nat) (y : Nat → Nat → Int32) (l : Nat → Nat → Int64), fk_ev d qX6_arrive 61 L (.ref 18 :: st) (fk_E N y l) = fk_ev d qX6_arrive 64 L (.ref 22 :: st) (fk_E N y l)) ∧
  (∀ (d : Nat) (a0 a1 : Value) (x : Nat) (st : List Value) (h : fk_H), fk_ev d qX6_arrive 64 [a0, a1, .ref x] st h = fk_ev d qX6_arrive 65 [a0, a1, .ref x] (.ref x :: st) h) ∧
  (∀ (d : Nat) (L st : List Value) (N : Nat) (y : Nat → Nat → Int32) (l : Nat → Nat → Int64) (c : Nat), fk_at c 0 → fk_ev d qX6_arrive 65 L (.ref c :: st) (fk_E N y l) = fk_ev d qX6_arrive 68 L (.int (y c 6) :: st) (fk_E N y l)) ∧
  (∀ (d : Nat) (L st : List Value) (N : Nat) (y : Nat → Nat → Int32) (l : Nat → Nat → Int64) (i : Nat), i < 16 → fk_ev d qX6_arrive 68 L (.int (nI i) :: .ref 22 :: st) (fk_E N y l) = fk_ev d qX6_arrive 69 L (.int (y 22 i) :: st) (fk_E N y l)) ∧
  (∀ (d : Nat) (a1 a2 : Value) (x : Nat) (st : List Value) (h : fk_H), fk_ev d qX6_arrive 69 [.ref x, a1, a2] st h = fk_ev d qX6_arrive 70 [.ref x, a1, a2] (.ref x :: st) h) ∧
  (∀ (d : Nat) (L st : List Value) (N : Nat) (y : Nat → Nat → Int32) (l : Nat → Nat → Int64), fk_ev d qX6_arrive 70 L (.ref 238 :: st) (fk_E N y l) = fk_ev d qX6_arrive 73 L (.ref 18 :: st) (fk_E N y l)) ∧
  (∀ (d : Nat) (L st : List Value) (N : Nat) (y : Nat → Nat → Int32) (l : Nat → Nat → Int64), fk_ev d qX6_arrive 73 L (.ref 18 :: st) (fk_E N y l) = fk_ev d qX6_arrive 76 L (.ref 23 :: st) (fk_E N y l)) ∧
  (∀ (d : Nat) (a0 a1 : Value) (x : Nat) (st : List Value) (h : fk_H), fk_ev d qX6_arrive 76 [a0, a1, .ref x] st h = fk_ev d qX6_arrive 77 [a0, a1, .ref x] (.ref x :: st) h) ∧
  (∀ (d : Nat) (L st : List Value) (N : Nat) (y : Nat → Nat → Int32) (l : Nat → Nat → Int64) (c : Nat), fk_at c 0 → fk_ev d qX6_arrive 77 L (.ref c :: st) (fk_E N y l) = fk_ev d qX6_arrive 80 L (.int (y c 6) :: st) (fk_E N y l)) ∧
  (∀ (d : Nat) (L st : List Value) (N : Nat) (y : Nat → Nat → Int32) (l : Nat → Nat → Int64) (i : Nat), i < 16 → fk_ev d qX6_arrive 80 L (.int (nI i) :: .ref 23 :: st) (fk_E N y l) = fk_ev d qX6_arrive 81 L (.int (y 23 i) :: st) (fk_E N y l)) ∧
  (∀ (d : Nat) (L : List Value) (x : Int32) (st : List Value) (h : fk_H), fk_ev d qX6_arrive 81 L (.int x :: st) h = if x = nI 0 then fk_ev d qX6_arrive 88 L st h else fk_ev d qX6_arrive 84 L st h) ∧
  (∀ (d : Nat) (L st : List Value) (h : fk_H), fk_ev d qX6_arrive 84 L st h = fk_ev d qX6_arrive 85 L (.int (nI 1) :: st) h) ∧
  (∀ (d : Nat) (L st : List Value) (h : fk_H), fk_ev d qX6_arrive 85 L st h = fk_ev d qX6_arrive 89 L st h) ∧
  (∀ (d : Nat) (L st : List Value) (h : fk_H), fk_ev d qX6_arrive 88 L st h = fk_ev d qX6_arrive 89 L (.int (nI 0) :: st) h) ∧
  (∀ (d : Nat) (L : List Value) (x0 : Int32) (x1 : Int32)  (N : Nat) (y : Nat → Nat → Int32) (l : Nat → Nat → Int64) (c : Nat), fk_at c 0 → fk_ev (d + 1) qX6_arrive 89 L (.int x1 :: .int x0 :: .ref c :: []) (fk_E N y l) = (fk_ev d qX0_know 0 [.ref c, .int x0, .int x1, .null] [] (fk_E N y l)).bind fun o => fk_ev (d + 1) qX6_arrive 92 L (o.1.toList ++ []) o.2) ∧
  (∀ (d : Nat) (a1 a2 : Value) (x : Nat) (st : List Value) (h : fk_H), fk_ev d qX6_arrive 92 [.ref x, a1, a2] st h = fk_ev d qX6_arrive 93 [.ref x, a1, a2] (.ref x :: st) h) ∧
  (∀ (d : Nat) (a0 a1 : Value) (x : Nat) (st : List Value) (h : fk_H), fk_ev d qX6_arrive 93 [a0, a1, .ref x] st h = fk_ev d qX6_arrive 94 [a0, a1, .ref x] (.ref x :: st) h) ∧
  (∀ (d : Nat) (L : List Value) (x0 : Nat)  (N : Nat) (y : Nat → Nat → Int32) (l : Nat → Nat → Int64), fk_ev (d + 1) qX6_arrive 94 L (.ref x0 :: .ref 238 :: []) (fk_E N y l) = (fk_ev d qX6_speakOf 0 [.ref 238, .ref x0] [] (fk_E N y l)).bind fun o => fk_ev (d + 1) qX6_arrive 97 L (o.1.toList ++ []) o.2) ∧
  (∀ (d : Nat) (a0 a1 : Value) (x : Nat) (st : List Value) (h : fk_H), fk_ev d qX6_arrive 97 [a0, a1, .ref x] st h = fk_ev d qX6_arrive 98 [a0, a1, .ref x] (.ref x :: st) h) ∧
  (∀ (d : Nat) (L st : List Value) (h : fk_H), fk_ev d qX6_arrive 98 L st h = fk_ev d qX6_arrive 100 L (.int (nI 99999) :: st) h) ∧
  (∀ (d : Nat) (a0 a1 : Value) (x : Nat) (st : List Value) (h : fk_H), fk_ev d qX6_arrive 100 [a0, a1, .ref x] st h = fk_ev d qX6_arrive 101 [a0, a1, .ref x] (.ref x :: st) h) ∧
  (∀ (d : Nat) (L st : List Value) (N : Nat) (y : Nat → Nat → Int32) (l : Nat → Nat → Int64) (c : Nat), fk_at c 0 → fk_ev d qX6_arrive 101 L (.ref c :: st) (fk_E N y l) = fk_ev d qX6_arrive 104 L (.int (y c 10) :: st) (fk_E N y l)) ∧
  (∀ (d : Nat) (a1 a2 : Value) (x : Nat) (st : List Value) (h : fk_H), fk_ev d qX6_arrive 104 [.ref x, a1, a2] st h = fk_ev d qX6_arrive 105 [.ref x, a1, a2] (.ref x :: st) h) ∧
  (∀ (d : Nat) (L st : List Value) (N : Nat) (y : Nat → Nat → Int32) (l : Nat → Nat → Int64), fk_ev d qX6_arrive 105 L (.ref 238 :: st) (fk_E N y l) = fk_ev d qX6_arrive 108 L (.ref (y 238 3).toNatClampNeg :: st) (fk_E N y l)) ∧
  (∀ (d : Nat) (L st : List Value) (h : fk_H), fk_ev d qX6_arrive 108 L st h = fk_ev d qX6_arrive 110 L (.int (nI 98) :: st) h) ∧
  (∀ (d : Nat) (L st : List Value) (h : fk_H), fk_ev d qX6_arrive 110 L st h = fk_ev d qX6_arrive 113 L (.int (nI 999) :: st) h) ∧
  (∀ (d : Nat) (a1 a2 : Value) (x : Nat) (st : List Value) (h : fk_H), fk_ev d qX6_arrive 113 [.ref x, a1, a2] st h = fk_ev d qX6_arrive 114 [.ref x, a1, a2] (.ref x :: st) h) ∧
  (∀ (d : Nat) (L st : List Value) (N : Nat) (y : Nat → Nat → Int32) (l : Nat → Nat → Int64), fk_ev d qX6_arrive 114 L (.ref 238 :: st) (fk_E N y l) = fk_ev d qX6_arrive 117 L (.ref 239 :: st) (fk_E N y l)) ∧
  (∀ (d : Nat) (L : List Value) (x0 : Int32) (x1 : Int32) (x2 : Nat) (w0 w1 w2 : Value) (N : Nat) (y : Nat → Nat → Int32) (l : Nat → Nat → Int64) (c : Nat), fk_at c 3 → fk_ev (d + 1) qX6_arrive 117 L (.ref x2 :: .int x1 :: .int x0 :: .ref c :: [w0, w1, w2]) (fk_E N y l) = (fk_ev d qX3_value 0 [.ref c, .int x0, .int x1, .ref x2, .null] [] (fk_E N y l)).bind fun o => fk_ev (d + 1) qX6_arrive 120 L (o.1.toList ++ [w0, w1, w2]) o.2) ∧
  (∀ (d : Nat) (L : List Value) (x y : Int32) (st : List Value) (h : fk_H), fk_ev d qX6_arrive 120 L (.int y :: .int x :: st) h = fk_ev d qX6_arrive 121 L (.int (x + y) :: st) h) ∧
  (∀ (d : Nat) (L : List Value) (x y : Int32) (w0 : Value) (h : fk_H), fk_ev d qX6_arrive 121 L (.int y :: .int x :: [w0]) h = fk_ev d qX6_arrive 124 L (.int (if y < x then y else x) :: [w0]) h) ∧
  (∀ (d : Nat) (L st : List Value) (N : Nat) (y : Nat → Nat → Int32) (l : Nat → Nat → Int64) (c : Nat) (v : Int32), fk_at c 0 → fk_ev d qX6_arrive 124 L (.int v :: .ref c :: st) (fk_E N y l) = fk_ev d qX6_arrive 127 L st (fk_E N (fk_u y c 10 v) l)) ∧
  (∀ (d : Nat) (a1 a2 : Value) (x : Nat) (st : List Value) (h : fk_H), fk_ev d qX6_arrive 127 [.ref x, a1, a2] st h = fk_ev d qX6_arrive 128 [.ref x, a1, a2] (.ref x :: st) h) ∧
  (∀ (d : Nat) (a0 a1 : Value) (x : Nat) (st : List Value) (h : fk_H), fk_ev d qX6_arrive 128 [a0, a1, .ref x] st h = fk_ev d qX6_arrive 129 [a0, a1, .ref x] (.ref x :: st) h) ∧
  (∀ (d : Nat) (L : List Value) (x0 : Nat)  (N : Nat) (y : Nat → Nat → Int32) (l : Nat → Nat → Int64), fk_ev (d + 1) qX6_arrive 129 L (.ref x0 :: .ref 238 :: []) (fk_E N y l) = (fk_ev d qX6_speakOf 0 [.ref 238, .ref x0] [] (fk_E N y l)).bind fun o => fk_ev (d + 1) qX6_arrive 132 L (o.1.toList ++ []) o.2) ∧
  (∀ (d : Nat) (a0 a1 : Value) (x : Nat) (st : List Value) (h : fk_H), fk_ev d qX6_arrive 132 [a0, a1, .ref x] st h = fk_ev d qX6_arrive 133 [a0, a1, .ref x] (.ref x :: st) h) ∧
  (∀ (d : Nat) (a0 a1 : Value) (x : Nat) (st : List Value) (h : fk_H), fk_ev d qX6_arrive 133 [a0, a1, .ref x] st h = fk_ev d qX6_arrive 134 [a0, a1, .ref x] (.ref x :: st) h) ∧
  (∀ (d : Nat) (L st : List Value) (N : Nat) (y : Nat → Nat → Int32) (l : Nat → Nat → Int64) (c : Nat), fk_at c 0 → fk_ev d qX6_arrive 134 L (.ref c :: st) (fk_E N y l) = fk_ev d qX6_arrive 137 L (.int (y c 9) :: st) (fk_E N y l)) ∧
  (∀ (d : Nat) (a1 a2 : Value) (x : Nat) (st : List Value) (h : fk_H), fk_ev d qX6_arrive 137 [.ref x, a1, a2] st h = fk_ev d qX6_arrive 138 [.ref x, a1, a2] (.ref x :: st) h) ∧
  (∀ (d : Nat) (L st : List Value) (N : Nat) (y : Nat → Nat → Int32) (l : Nat → Nat → Int64), fk_ev d qX6_arrive 138 L (.ref 238 :: st) (fk_E N y l) = fk_ev d qX6_arrive 141 L (.ref (y 238 3).toNatClampNeg :: st) (fk_E N y l)) ∧
  (∀ (d : Nat) (L st : List Value) (h : fk_H), fk_ev d qX6_arrive 141 L st h = fk_ev d qX6_arrive 143 L (.int (nI 119) :: st) h) ∧
  (∀ (d : Nat) (L st : List Value) (h : fk_H), fk_ev d qX6_arrive 143 L st h = fk_ev d qX6_arrive 145 L (.int (nI 9) :: st) h) ∧
  (∀ (d : Nat) (a1 a2 : Value) (x : Nat) (st : List Value) (h : fk_H), fk_ev d qX6_arrive 145 [.ref x, a1, a2] st h = fk_ev d qX6_arrive 146 [.ref x, a1, a2] (.ref x :: st) h) ∧
  (∀ (d : Nat) (L st : List Value) (N : Nat) (y : Nat → Nat → Int32) (l : Nat → Nat → Int64), fk_ev d qX6_arrive 146 L (.ref 238 :: st) (fk_E N y l) = fk_ev d qX6_arrive 149 L (.ref 239 :: st) (fk_E N y l)) ∧
  (∀ (d : Nat) (L : List Value) (x0 : Int32) (x1 : Int32) (x2 : Nat) (w0 w1 : Value) (N : Nat) (y : Nat → Nat → Int32) (l : Nat → Nat → Int64) (c : Nat), fk_at c 3 → fk_ev (d + 1) qX6_arrive 149 L (.ref x2 :: .int x1 :: .int x0 :: .ref c :: [w0, w1]) (fk_E N y l) = (fk_ev d qX3_value 0 [.ref c, .int x0, .int x1, .ref x2, .null] [] (fk_E N y l)).bind fun o => fk_ev (d + 1) qX6_arrive 152 L (o.1.toList ++ [w0, w1]) o.2) ∧
  (∀ (d : Nat) (L : List Value) (x y : Int32) (w0 : Value) (h : fk_H), fk_ev d qX6_arrive 152 L (.int y :: .int x :: [w0]) h = fk_ev d qX6_arrive 155 L (.int (if x < y then y else x) :: [w0]) h) ∧
  (∀ (d : Nat) (L st : List Value) (N : Nat) (y : Nat → Nat → Int32) (l : Nat → Nat → Int64) (c : Nat) (v : Int32), fk_at c 0 → fk_ev d qX6_arrive 155 L (.int v :: .ref c :: st) (fk_E N y l) = fk_ev d qX6_arrive 158 L st (fk_E N (fk_u y c 9 v) l)) ∧
  (∀ (d : Nat) (a0 a2 : Value) (x : Int32) (st : List Value) (h : fk_H), fk_ev d qX6_arrive 158 [a0, .int x, a2] st h = fk_ev d qX6_arrive 161 [a0, .int (x + nI 1), a2] st h) ∧
  (∀ (d : Nat) (L st : List Value) (h : fk_H), fk_ev d qX6_arrive 161 L st h = fk_ev d qX6_arrive 2 L st h) ∧
  (∀ (d : Nat) (L : List Value) (h : fk_H), fk_ev d qX6_arrive 164 L [] h = some (none, h)) := ⟨fun d L st h => fk_w_iconst dX6_arrive_0 (by decide),
  fun d a0 a1 a2 x st h => fk_w_istoren 1 3 [] [a0, a1, a2] [a0, .int x, a2] dX6_arrive_1 rfl rfl (by decide) rfl,
  fun d a1 a2 x st h => fk_w_aloadn 0 [.ref x, a1, a2] dX6_arrive_3 rfl,
  fun d L st N y l => fk_g_getM rfl lf_6_32 (by decide) dX6_arrive_4 fk_at_238,
  fun d L st N y l c hc => fk_g_getI rfl lf_6_60 (by decide) dX6_arrive_7 hc,
  fun d L x y st h => fk_r_icmp_ge dX6_arrive_10 (by decide),
  fun d a1 a2 x st h => fk_w_aloadn 0 [.ref x, a1, a2] dX6_arrive_13 rfl,
  fun d L st N y l => fk_g_getM rfl lf_6_32 (by decide) dX6_arrive_14 fk_at_238,
  fun d L st N y l c hc => fk_g_getC rfl lf_6_63 (by decide) rfl dX6_arrive_17 hc,
  fun d a0 a2 x st h => fk_w_iloadn 1 [a0, .int x, a2] dX6_arrive_20 rfl,
  fun d L st N y l c i hc hi hl => fk_h_aald dX6_arrive_21 hc hi hl,
  fun d a0 a1 a2 x st h => fk_w_astoren 2 3 [] [a0, a1, a2] [a0, a1, .ref x] dX6_arrive_22 rfl rfl (by decide) rfl,
  fun d a1 a2 x st h => fk_w_aloadn 0 [.ref x, a1, a2] dX6_arrive_23 rfl,
  fun d L st N y l => fk_g_getM rfl lf_6_32 (by decide) dX6_arrive_24 fk_at_238,
  fun d a0 a2 x st h => fk_w_iloadn 1 [a0, .int x, a2] dX6_arrive_27 rfl,
  fun d L x0 N y l c hc => fk_g_call [.int x0] [] rfl lm_6_104 dX6_arrive_28 rfl ⟨rfl, by decide⟩ (by simp) hc,
  fun d L x st h => fk_r_if_eq dX6_arrive_31 (by decide),
  fun d a0 a1 x st h => fk_w_aloadn 2 [a0, a1, .ref x] dX6_arrive_34 rfl,
  fun d L st N y l c hc => fk_g_getI rfl lf_6_67 (by decide) dX6_arrive_35 hc,
  fun d L x st h => fk_r_if_eq dX6_arrive_38 (by decide),
  fun d a1 a2 x st h => fk_w_aloadn 0 [.ref x, a1, a2] dX6_arrive_41 rfl,
  fun d L st N y l => fk_g_getC rfl lf_6_28 (by decide) rfl dX6_arrive_42 fk_at_238,
  fun d L st N y l => fk_g_getC rfl lf_6_119 (by decide) rfl dX6_arrive_45 fk_at_18,
  fun d a0 a1 x st h => fk_w_aloadn 2 [a0, a1, .ref x] dX6_arrive_48 rfl,
  fun d L st N y l c hc => fk_g_getI rfl lf_6_98 (by decide) dX6_arrive_49 hc,
  fun d L st N y l i hi => fk_g_iald fk_at_22 fk_ln_22 (by decide) dX6_arrive_52 hi,
  fun d L x st h => fk_r_if_lt dX6_arrive_53 (by decide),
  fun d a0 a1 x st h => fk_w_aloadn 2 [a0, a1, .ref x] dX6_arrive_56 rfl,
  fun d a1 a2 x st h => fk_w_aloadn 0 [.ref x, a1, a2] dX6_arrive_57 rfl,
  fun d L st N y l => fk_g_getC rfl lf_6_28 (by decide) rfl dX6_arrive_58 fk_at_238,
  fun d L st N y l => fk_g_getC rfl lf_6_119 (by decide) rfl dX6_arrive_61 fk_at_18,
  fun d a0 a1 x st h => fk_w_aloadn 2 [a0, a1, .ref x] dX6_arrive_64 rfl,
  fun d L st N y l c hc => fk_g_getI rfl lf_6_98 (by decide) dX6_arrive_65 hc,
  fun d L st N y l i hi => fk_g_iald fk_at_22 fk_ln_22 (by decide) dX6_arrive_68 hi,
  fun d a1 a2 x st h => fk_w_aloadn 0 [.ref x, a1, a2] dX6_arrive_69 rfl,
  fun d L st N y l => fk_g_getC rfl lf_6_28 (by decide) rfl dX6_arrive_70 fk_at_238,
  fun d L st N y l => fk_g_getC rfl lf_6_122 (by decide) rfl dX6_arrive_73 fk_at_18,
  fun d a0 a1 x st h => fk_w_aloadn 2 [a0, a1, .ref x] dX6_arrive_76 rfl,
  fun d L st N y l c hc => fk_g_getI rfl lf_6_98 (by decide) dX6_arrive_77 hc,
  fun d L st N y l i hi => fk_g_iald fk_at_23 fk_ln_23 (by decide) dX6_arrive_80 hi,
  fun d L x st h => fk_r_if_eq dX6_arrive_81 (by decide),
  fun d L st h => fk_w_iconst dX6_arrive_84 (by decide),
  fun d L st h => fk_r_goto dX6_arrive_85 (by decide),
  fun d L st h => fk_w_iconst dX6_arrive_88 (by decide),
  fun d L x0 x1 N y l c hc => fk_g_call [.int x0, .int x1] [] rfl lm_6_125 dX6_arrive_89 rfl ⟨rfl, by decide⟩ (by simp) hc,
  fun d a1 a2 x st h => fk_w_aloadn 0 [.ref x, a1, a2] dX6_arrive_92 rfl,
  fun d a0 a1 x st h => fk_w_aloadn 2 [a0, a1, .ref x] dX6_arrive_93 rfl,
  fun d L x0 N y l  => fk_g_call [.ref x0] [] rfl lm_6_129 dX6_arrive_94 rfl ⟨rfl, by decide⟩ (by simp) fk_at_238,
  fun d a0 a1 x st h => fk_w_aloadn 2 [a0, a1, .ref x] dX6_arrive_97 rfl,
  fun d L st h => fk_g_ldc rfl lc_6_133 (by decide) dX6_arrive_98,
  fun d a0 a1 x st h => fk_w_aloadn 2 [a0, a1, .ref x] dX6_arrive_100 rfl,
  fun d L st N y l c hc => fk_g_getI rfl lf_6_134 (by decide) dX6_arrive_101 hc,
  fun d a1 a2 x st h => fk_w_aloadn 0 [.ref x, a1, a2] dX6_arrive_104 rfl,
  fun d L st N y l => fk_g_getM rfl lf_6_36 (by decide) dX6_arrive_105 fk_at_238,
  fun d L st h => fk_w_bipush dX6_arrive_108 (by decide),
  fun d L st h => fk_w_sipush dX6_arrive_110 (by decide),
  fun d a1 a2 x st h => fk_w_aloadn 0 [.ref x, a1, a2] dX6_arrive_113 rfl,
  fun d L st N y l => fk_g_getC rfl lf_6_9 (by decide) rfl dX6_arrive_114 fk_at_238,
  fun d L x0 x1 x2 w0 w1 w2 N y l c hc => fk_g_call [.int x0, .int x1, .ref x2] [w0, w1, w2] rfl lm_6_137 dX6_arrive_117 rfl ⟨rfl, by decide⟩ (by simp) hc,
  fun d L x y st h => fk_r_iadd dX6_arrive_120,
  fun d L x y w0 h => fk_p_min dX6_arrive_121 ln_6_143 lp_6_143 (by simp),
  fun d L st N y l c v hc => fk_g_putI rfl lf_6_134 (by decide) dX6_arrive_124 rfl hc,
  fun d a1 a2 x st h => fk_w_aloadn 0 [.ref x, a1, a2] dX6_arrive_127 rfl,
  fun d a0 a1 x st h => fk_w_aloadn 2 [a0, a1, .ref x] dX6_arrive_128 rfl,
  fun d L x0 N y l  => fk_g_call [.ref x0] [] rfl lm_6_129 dX6_arrive_129 rfl ⟨rfl, by decide⟩ (by simp) fk_at_238,
  fun d a0 a1 x st h => fk_w_aloadn 2 [a0, a1, .ref x] dX6_arrive_132 rfl,
  fun d a0 a1 x st h => fk_w_aloadn 2 [a0, a1, .ref x] dX6_arrive_133 rfl,
  fun d L st N y l c hc => fk_g_getI rfl lf_6_101 (by decide) dX6_arrive_134 hc,
  fun d a1 a2 x st h => fk_w_aloadn 0 [.ref x, a1, a2] dX6_arrive_137 rfl,
  fun d L st N y l => fk_g_getM rfl lf_6_36 (by decide) dX6_arrive_138 fk_at_238,
  fun d L st h => fk_w_bipush dX6_arrive_141 (by decide),
  fun d L st h => fk_w_bipush dX6_arrive_143 (by decide),
  fun d a1 a2 x st h => fk_w_aloadn 0 [.ref x, a1, a2] dX6_arrive_145 rfl,
  fun d L st N y l => fk_g_getC rfl lf_6_9 (by decide) rfl dX6_arrive_146 fk_at_238,
  fun d L x0 x1 x2 w0 w1 N y l c hc => fk_g_call [.int x0, .int x1, .ref x2] [w0, w1] rfl lm_6_137 dX6_arrive_149 rfl ⟨rfl, by decide⟩ (by simp) hc,
  fun d L x y w0 h => fk_p_max dX6_arrive_152 ln_6_149 lp_6_149 (by simp),
  fun d L st N y l c v hc => fk_g_putI rfl lf_6_101 (by decide) dX6_arrive_155 rfl hc,
  fun d a0 a2 x st h => fk_w_iinc 1 3 (1) [] [a0, .int x, a2] [a0, .int (x + nI 1), a2] dX6_arrive_158 rfl rfl rfl (by decide) rfl,
  fun d L st h => fk_r_goto dX6_arrive_161 (by decide),
  fun d L h => fk_r_vret dX6_arrive_164 rfl⟩
theorem hX6_arrive_2 : ∀ (d : Nat) (a0 a2 : Value) (x : Int32) (st : List Value) (h : fk_H), fk_ev d qX6_arrive 2 [a0, .int x, a2] st h = fk_ev d qX6_arrive 3 [a0, .int x, a2] (.int x :: st) h := fun d a0 a2 x st h => fk_w_iloadn 1 [a0, .int x, a2] dX6_arrive_2 rfl
theorem dX6_die_0 : decode cX6_die 0 = .ok (.iconst 0, 1) := by decide +kernel
theorem dX6_die_1 : decode cX6_die 1 = .ok (.istore_n 1, 1) := by decide +kernel
theorem dX6_die_2 : decode cX6_die 2 = .ok (.iload_n 1, 1) := by decide +kernel
theorem dX6_die_3 : decode cX6_die 3 = .ok (.aload_n 0, 1) := by decide +kernel
theorem dX6_die_4 : decode cX6_die 4 = .ok (.getfield 32, 3) := by decide +kernel
theorem dX6_die_7 : decode cX6_die 7 = .ok (.getfield 60, 3) := by decide +kernel
theorem dX6_die_10 : decode cX6_die 10 = .ok (.if_icmp .ge 76, 3) := by decide +kernel
theorem dX6_die_13 : decode cX6_die 13 = .ok (.aload_n 0, 1) := by decide +kernel
theorem dX6_die_14 : decode cX6_die 14 = .ok (.getfield 32, 3) := by decide +kernel
theorem dX6_die_17 : decode cX6_die 17 = .ok (.iload_n 1, 1) := by decide +kernel
theorem dX6_die_18 : decode cX6_die 18 = .ok (.invokevirtual 104, 3) := by decide +kernel
theorem dX6_die_21 : decode cX6_die 21 = .ok (.ifCond .eq 59, 3) := by decide +kernel
theorem dX6_die_24 : decode cX6_die 24 = .ok (.aload_n 0, 1) := by decide +kernel
theorem dX6_die_25 : decode cX6_die 25 = .ok (.getfield 32, 3) := by decide +kernel
theorem dX6_die_28 : decode cX6_die 28 = .ok (.invokevirtual 152, 3) := by decide +kernel
theorem dX6_die_31 : decode cX6_die 31 = .ok (.istore_n 2, 1) := by decide +kernel
theorem dX6_die_32 : decode cX6_die 32 = .ok (.aload_n 0, 1) := by decide +kernel
theorem dX6_die_33 : decode cX6_die 33 = .ok (.aload_n 0, 1) := by decide +kernel
theorem dX6_die_34 : decode cX6_die 34 = .ok (.getfield 32, 3) := by decide +kernel
theorem dX6_die_37 : decode cX6_die 37 = .ok (.getfield 63, 3) := by decide +kernel
theorem dX6_die_40 : decode cX6_die 40 = .ok (.iload_n 1, 1) := by decide +kernel
theorem dX6_die_41 : decode cX6_die 41 = .ok (.aaload, 1) := by decide +kernel
theorem dX6_die_42 : decode cX6_die 42 = .ok (.invokevirtual 129, 3) := by decide +kernel
theorem dX6_die_45 : decode cX6_die 45 = .ok (.iload_n 2, 1) := by decide +kernel
theorem dX6_die_46 : decode cX6_die 46 = .ok (.aload_n 0, 1) := by decide +kernel
theorem dX6_die_47 : decode cX6_die 47 = .ok (.getfield 36, 3) := by decide +kernel
theorem dX6_die_50 : decode cX6_die 50 = .ok (.bipush 120, 2) := by decide +kernel
theorem dX6_die_52 : decode cX6_die 52 = .ok (.bipush 10, 2) := by decide +kernel
theorem dX6_die_54 : decode cX6_die 54 = .ok (.aload_n 0, 1) := by decide +kernel
theorem dX6_die_55 : decode cX6_die 55 = .ok (.getfield 9, 3) := by decide +kernel
theorem dX6_die_58 : decode cX6_die 58 = .ok (.invokevirtual 137, 3) := by decide +kernel
theorem dX6_die_61 : decode cX6_die 61 = .ok (.if_icmp .ge 19, 3) := by decide +kernel
theorem dX6_die_64 : decode cX6_die 64 = .ok (.aload_n 0, 1) := by decide +kernel
theorem dX6_die_65 : decode cX6_die 65 = .ok (.getfield 32, 3) := by decide +kernel
theorem dX6_die_68 : decode cX6_die 68 = .ok (.aload_n 0, 1) := by decide +kernel
theorem dX6_die_69 : decode cX6_die 69 = .ok (.getfield 32, 3) := by decide +kernel
theorem dX6_die_72 : decode cX6_die 72 = .ok (.getfield 63, 3) := by decide +kernel
theorem dX6_die_75 : decode cX6_die 75 = .ok (.iload_n 1, 1) := by decide +kernel
theorem dX6_die_76 : decode cX6_die 76 = .ok (.aaload, 1) := by decide +kernel
theorem dX6_die_77 : decode cX6_die 77 = .ok (.invokevirtual 156, 3) := by decide +kernel
theorem dX6_die_80 : decode cX6_die 80 = .ok (.iinc 1 1, 3) := by decide +kernel
theorem dX6_die_83 : decode cX6_die 83 = .ok (.goto (-81), 3) := by decide +kernel
theorem dX6_die_86 : decode cX6_die 86 = .ok (.return_, 1) := by decide +kernel
theorem rX6_die : (∀ (d : Nat) (L st : List Value) (h : fk_H), fk_ev d qX6_die 0 L st h = fk_ev d qX6_die 1 L (.int (nI 0) :: st) h) ∧
  (∀ (d : Nat) (a0 a1 a2 : Value) (x : Int32) (st : List Value) (h : fk_H), fk_ev d qX6_die 1 [a0, a1, a2] (.int x :: st) h = fk_ev d qX6_die 2 [a0, .int x, a2] st h) ∧
  (∀ (d : Nat) (a1 a2 : Value) (x : Nat) (st : List Value) (h : fk_H), fk_ev d qX6_die 3 [.ref x, a1, a2] st h = fk_ev d qX6_die 4 [.ref x, a1, a2] (.ref x :: st) h) ∧
  (∀ (d : Nat) (L st : List Value) (N : Nat) (y : Nat → Nat → Int32) (l : Nat → Nat → Int64), fk_ev d qX6_die 4 L (.ref 238 :: st) (fk_E N y l) = fk_ev d qX6_die 7 L (.ref (y 238 2).toNatClampNeg :: st) (fk_E N y l)) ∧
  (∀ (d : Nat) (L st : List Value) (N : Nat) (y : Nat → Nat → Int32) (l : Nat → Nat → Int64) (c : Nat), fk_at c 8 → fk_ev d qX6_die 7 L (.ref c :: st) (fk_E N y l) = fk_ev d qX6_die 10 L (.int (y c 2) :: st) (fk_E N y l)) ∧
  (∀ (d : Nat) (L : List Value) (x y : Int32) (st : List Value) (h : fk_H), fk_ev d qX6_die 10 L (.int y :: .int x :: st) h = if y ≤ x then fk_ev d qX6_die 86 L st h else fk_ev d qX6_die 13 L st h) ∧
  (∀ (d : Nat) (a1 a2 : Value) (x : Nat) (st : List Value) (h : fk_H), fk_ev d qX6_die 13 [.ref x, a1, a2] st h = fk_ev d qX6_die 14 [.ref x, a1, a2] (.ref x :: st) h) ∧
  (∀ (d : Nat) (L st : List Value) (N : Nat) (y : Nat → Nat → Int32) (l : Nat → Nat → Int64), fk_ev d qX6_die 14 L (.ref 238 :: st) (fk_E N y l) = fk_ev d qX6_die 17 L (.ref (y 238 2).toNatClampNeg :: st) (fk_E N y l)) ∧
  (∀ (d : Nat) (a0 a2 : Value) (x : Int32) (st : List Value) (h : fk_H), fk_ev d qX6_die 17 [a0, .int x, a2] st h = fk_ev d qX6_die 18 [a0, .int x, a2] (.int x :: st) h) ∧
  (∀ (d : Nat) (L : List Value) (x0 : Int32)  (N : Nat) (y : Nat → Nat → Int32) (l : Nat → Nat → Int64) (c : Nat), fk_at c 8 → fk_ev (d + 1) qX6_die 18 L (.int x0 :: .ref c :: []) (fk_E N y l) = (fk_ev d qX8_isAtPlace 0 [.ref c, .int x0] [] (fk_E N y l)).bind fun o => fk_ev (d + 1) qX6_die 21 L (o.1.toList ++ []) o.2) ∧
  (∀ (d : Nat) (L : List Value) (x : Int32) (st : List Value) (h : fk_H), fk_ev d qX6_die 21 L (.int x :: st) h = if x = nI 0 then fk_ev d qX6_die 80 L st h else fk_ev d qX6_die 24 L st h) ∧
  (∀ (d : Nat) (a1 a2 : Value) (x : Nat) (st : List Value) (h : fk_H), fk_ev d qX6_die 24 [.ref x, a1, a2] st h = fk_ev d qX6_die 25 [.ref x, a1, a2] (.ref x :: st) h) ∧
  (∀ (d : Nat) (L st : List Value) (N : Nat) (y : Nat → Nat → Int32) (l : Nat → Nat → Int64), fk_ev d qX6_die 25 L (.ref 238 :: st) (fk_E N y l) = fk_ev d qX6_die 28 L (.ref (y 238 2).toNatClampNeg :: st) (fk_E N y l)) ∧
  (∀ (d : Nat) (L : List Value)   (N : Nat) (y : Nat → Nat → Int32) (l : Nat → Nat → Int64) (c : Nat), fk_at c 8 → fk_ev (d + 1) qX6_die 28 L (.ref c :: []) (fk_E N y l) = (fk_ev d qX8_draw 0 [.ref c] [] (fk_E N y l)).bind fun o => fk_ev (d + 1) qX6_die 31 L (o.1.toList ++ []) o.2) ∧
  (∀ (d : Nat) (a0 a1 a2 : Value) (x : Int32) (st : List Value) (h : fk_H), fk_ev d qX6_die 31 [a0, a1, a2] (.int x :: st) h = fk_ev d qX6_die 32 [a0, a1, .int x] st h) ∧
  (∀ (d : Nat) (a1 a2 : Value) (x : Nat) (st : List Value) (h : fk_H), fk_ev d qX6_die 32 [.ref x, a1, a2] st h = fk_ev d qX6_die 33 [.ref x, a1, a2] (.ref x :: st) h) ∧
  (∀ (d : Nat) (a1 a2 : Value) (x : Nat) (st : List Value) (h : fk_H), fk_ev d qX6_die 33 [.ref x, a1, a2] st h = fk_ev d qX6_die 34 [.ref x, a1, a2] (.ref x :: st) h) ∧
  (∀ (d : Nat) (L st : List Value) (N : Nat) (y : Nat → Nat → Int32) (l : Nat → Nat → Int64), fk_ev d qX6_die 34 L (.ref 238 :: st) (fk_E N y l) = fk_ev d qX6_die 37 L (.ref (y 238 2).toNatClampNeg :: st) (fk_E N y l)) ∧
  (∀ (d : Nat) (L st : List Value) (N : Nat) (y : Nat → Nat → Int32) (l : Nat → Nat → Int64) (c : Nat), fk_at c 8 → fk_ev d qX6_die 37 L (.ref c :: st) (fk_E N y l) = fk_ev d qX6_die 40 L (.ref (fk_cr c 0) :: st) (fk_E N y l)) ∧
  (∀ (d : Nat) (a0 a2 : Value) (x : Int32) (st : List Value) (h : fk_H), fk_ev d qX6_die 40 [a0, .int x, a2] st h = fk_ev d qX6_die 41 [a0, .int x, a2] (.int x :: st) h) ∧
  (∀ (d : Nat) (L st : List Value) (N : Nat) (y : Nat → Nat → Int32) (l : Nat → Nat → Int64) (c i : Nat), fk_at c 24 → i < (fk_shp c).2 → (fk_shp c).2 < 2 ^ 31 → fk_ev d qX6_die 41 L (.int (nI i) :: .ref c :: st) (fk_E N y l) = fk_ev d qX6_die 42 L (.ref (c + 2 + i) :: st) (fk_E N y l)) ∧
  (∀ (d : Nat) (L : List Value) (x0 : Nat)  (N : Nat) (y : Nat → Nat → Int32) (l : Nat → Nat → Int64), fk_ev (d + 1) qX6_die 42 L (.ref x0 :: .ref 238 :: []) (fk_E N y l) = (fk_ev d qX6_speakOf 0 [.ref 238, .ref x0] [] (fk_E N y l)).bind fun o => fk_ev (d + 1) qX6_die 45 L (o.1.toList ++ []) o.2) ∧
  (∀ (d : Nat) (a0 a1 : Value) (x : Int32) (st : List Value) (h : fk_H), fk_ev d qX6_die 45 [a0, a1, .int x] st h = fk_ev d qX6_die 46 [a0, a1, .int x] (.int x :: st) h) ∧
  (∀ (d : Nat) (a1 a2 : Value) (x : Nat) (st : List Value) (h : fk_H), fk_ev d qX6_die 46 [.ref x, a1, a2] st h = fk_ev d qX6_die 47 [.ref x, a1, a2] (.ref x :: st) h) ∧
  (∀ (d : Nat) (L st : List Value) (N : Nat) (y : Nat → Nat → Int32) (l : Nat → Nat → Int64), fk_ev d qX6_die 47 L (.ref 238 :: st) (fk_E N y l) = fk_ev d qX6_die 50 L (.ref (y 238 3).toNatClampNeg :: st) (fk_E N y l)) ∧
  (∀ (d : Nat) (L st : List Value) (h : fk_H), fk_ev d qX6_die 50 L st h = fk_ev d qX6_die 52 L (.int (nI 120) :: st) h) ∧
  (∀ (d : Nat) (L st : List Value) (h : fk_H), fk_ev d qX6_die 52 L st h = fk_ev d qX6_die 54 L (.int (nI 10) :: st) h) ∧
  (∀ (d : Nat) (a1 a2 : Value) (x : Nat) (st : List Value) (h : fk_H), fk_ev d qX6_die 54 [.ref x, a1, a2] st h = fk_ev d qX6_die 55 [.ref x, a1, a2] (.ref x :: st) h) ∧
  (∀ (d : Nat) (L st : List Value) (N : Nat) (y : Nat → Nat → Int32) (l : Nat → Nat → Int64), fk_ev d qX6_die 55 L (.ref 238 :: st) (fk_E N y l) = fk_ev d qX6_die 58 L (.ref 239 :: st) (fk_E N y l)) ∧
  (∀ (d : Nat) (L : List Value) (x0 : Int32) (x1 : Int32) (x2 : Nat) (w0 : Value) (N : Nat) (y : Nat → Nat → Int32) (l : Nat → Nat → Int64) (c : Nat), fk_at c 3 → fk_ev (d + 1) qX6_die 58 L (.ref x2 :: .int x1 :: .int x0 :: .ref c :: [w0]) (fk_E N y l) = (fk_ev d qX3_value 0 [.ref c, .int x0, .int x1, .ref x2, .null] [] (fk_E N y l)).bind fun o => fk_ev (d + 1) qX6_die 61 L (o.1.toList ++ [w0]) o.2) ∧
  (∀ (d : Nat) (L : List Value) (x y : Int32) (st : List Value) (h : fk_H), fk_ev d qX6_die 61 L (.int y :: .int x :: st) h = if y ≤ x then fk_ev d qX6_die 80 L st h else fk_ev d qX6_die 64 L st h) ∧
  (∀ (d : Nat) (a1 a2 : Value) (x : Nat) (st : List Value) (h : fk_H), fk_ev d qX6_die 64 [.ref x, a1, a2] st h = fk_ev d qX6_die 65 [.ref x, a1, a2] (.ref x :: st) h) ∧
  (∀ (d : Nat) (L st : List Value) (N : Nat) (y : Nat → Nat → Int32) (l : Nat → Nat → Int64), fk_ev d qX6_die 65 L (.ref 238 :: st) (fk_E N y l) = fk_ev d qX6_die 68 L (.ref (y 238 2).toNatClampNeg :: st) (fk_E N y l)) ∧
  (∀ (d : Nat) (a1 a2 : Value) (x : Nat) (st : List Value) (h : fk_H), fk_ev d qX6_die 68 [.ref x, a1, a2] st h = fk_ev d qX6_die 69 [.ref x, a1, a2] (.ref x :: st) h) ∧
  (∀ (d : Nat) (L st : List Value) (N : Nat) (y : Nat → Nat → Int32) (l : Nat → Nat → Int64), fk_ev d qX6_die 69 L (.ref 238 :: st) (fk_E N y l) = fk_ev d qX6_die 72 L (.ref (y 238 2).toNatClampNeg :: st) (fk_E N y l)) ∧
  (∀ (d : Nat) (L st : List Value) (N : Nat) (y : Nat → Nat → Int32) (l : Nat → Nat → Int64) (c : Nat), fk_at c 8 → fk_ev d qX6_die 72 L (.ref c :: st) (fk_E N y l) = fk_ev d qX6_die 75 L (.ref (fk_cr c 0) :: st) (fk_E N y l)) ∧
  (∀ (d : Nat) (a0 a2 : Value) (x : Int32) (st : List Value) (h : fk_H), fk_ev d qX6_die 75 [a0, .int x, a2] st h = fk_ev d qX6_die 76 [a0, .int x, a2] (.int x :: st) h) ∧
  (∀ (d : Nat) (L st : List Value) (N : Nat) (y : Nat → Nat → Int32) (l : Nat → Nat → Int64) (c i : Nat), fk_at c 24 → i < (fk_shp c).2 → (fk_shp c).2 < 2 ^ 31 → fk_ev d qX6_die 76 L (.int (nI i) :: .ref c :: st) (fk_E N y l) = fk_ev d qX6_die 77 L (.ref (c + 2 + i) :: st) (fk_E N y l)) ∧
  (∀ (d : Nat) (L : List Value) (x0 : Nat)  (N : Nat) (y : Nat → Nat → Int32) (l : Nat → Nat → Int64) (c : Nat), fk_at c 8 → fk_ev (d + 1) qX6_die 77 L (.ref x0 :: .ref c :: []) (fk_E N y l) = (fk_ev d qX8_bury 0 [.ref c, .ref x0, .null, .null] [] (fk_E N y l)).bind fun o => fk_ev (d + 1) qX6_die 80 L (o.1.toList ++ []) o.2) ∧
  (∀ (d : Nat) (a0 a2 : Value) (x : Int32) (st : List Value) (h : fk_H), fk_ev d qX6_die 80 [a0, .int x, a2] st h = fk_ev d qX6_die 83 [a0, .int (x + nI 1), a2] st h) ∧
  (∀ (d : Nat) (L st : List Value) (h : fk_H), fk_ev d qX6_die 83 L st h = fk_ev d qX6_die 2 L st h) ∧
  (∀ (d : Nat) (L : List Value) (h : fk_H), fk_ev d qX6_die 86 L [] h = some (none, h)) := ⟨fun d L st h => fk_w_iconst dX6_die_0 (by decide),
  fun d a0 a1 a2 x st h => fk_w_istoren 1 3 [] [a0, a1, a2] [a0, .int x, a2] dX6_die_1 rfl rfl (by decide) rfl,
  fun d a1 a2 x st h => fk_w_aloadn 0 [.ref x, a1, a2] dX6_die_3 rfl,
  fun d L st N y l => fk_g_getM rfl lf_6_32 (by decide) dX6_die_4 fk_at_238,
  fun d L st N y l c hc => fk_g_getI rfl lf_6_60 (by decide) dX6_die_7 hc,
  fun d L x y st h => fk_r_icmp_ge dX6_die_10 (by decide),
  fun d a1 a2 x st h => fk_w_aloadn 0 [.ref x, a1, a2] dX6_die_13 rfl,
  fun d L st N y l => fk_g_getM rfl lf_6_32 (by decide) dX6_die_14 fk_at_238,
  fun d a0 a2 x st h => fk_w_iloadn 1 [a0, .int x, a2] dX6_die_17 rfl,
  fun d L x0 N y l c hc => fk_g_call [.int x0] [] rfl lm_6_104 dX6_die_18 rfl ⟨rfl, by decide⟩ (by simp) hc,
  fun d L x st h => fk_r_if_eq dX6_die_21 (by decide),
  fun d a1 a2 x st h => fk_w_aloadn 0 [.ref x, a1, a2] dX6_die_24 rfl,
  fun d L st N y l => fk_g_getM rfl lf_6_32 (by decide) dX6_die_25 fk_at_238,
  fun d L  N y l c hc => fk_g_call [] [] rfl lm_6_152 dX6_die_28 rfl ⟨rfl, by decide⟩ (by simp) hc,
  fun d a0 a1 a2 x st h => fk_w_istoren 2 3 [] [a0, a1, a2] [a0, a1, .int x] dX6_die_31 rfl rfl (by decide) rfl,
  fun d a1 a2 x st h => fk_w_aloadn 0 [.ref x, a1, a2] dX6_die_32 rfl,
  fun d a1 a2 x st h => fk_w_aloadn 0 [.ref x, a1, a2] dX6_die_33 rfl,
  fun d L st N y l => fk_g_getM rfl lf_6_32 (by decide) dX6_die_34 fk_at_238,
  fun d L st N y l c hc => fk_g_getC rfl lf_6_63 (by decide) rfl dX6_die_37 hc,
  fun d a0 a2 x st h => fk_w_iloadn 1 [a0, .int x, a2] dX6_die_40 rfl,
  fun d L st N y l c i hc hi hl => fk_h_aald dX6_die_41 hc hi hl,
  fun d L x0 N y l  => fk_g_call [.ref x0] [] rfl lm_6_129 dX6_die_42 rfl ⟨rfl, by decide⟩ (by simp) fk_at_238,
  fun d a0 a1 x st h => fk_w_iloadn 2 [a0, a1, .int x] dX6_die_45 rfl,
  fun d a1 a2 x st h => fk_w_aloadn 0 [.ref x, a1, a2] dX6_die_46 rfl,
  fun d L st N y l => fk_g_getM rfl lf_6_36 (by decide) dX6_die_47 fk_at_238,
  fun d L st h => fk_w_bipush dX6_die_50 (by decide),
  fun d L st h => fk_w_bipush dX6_die_52 (by decide),
  fun d a1 a2 x st h => fk_w_aloadn 0 [.ref x, a1, a2] dX6_die_54 rfl,
  fun d L st N y l => fk_g_getC rfl lf_6_9 (by decide) rfl dX6_die_55 fk_at_238,
  fun d L x0 x1 x2 w0 N y l c hc => fk_g_call [.int x0, .int x1, .ref x2] [w0] rfl lm_6_137 dX6_die_58 rfl ⟨rfl, by decide⟩ (by simp) hc,
  fun d L x y st h => fk_r_icmp_ge dX6_die_61 (by decide),
  fun d a1 a2 x st h => fk_w_aloadn 0 [.ref x, a1, a2] dX6_die_64 rfl,
  fun d L st N y l => fk_g_getM rfl lf_6_32 (by decide) dX6_die_65 fk_at_238,
  fun d a1 a2 x st h => fk_w_aloadn 0 [.ref x, a1, a2] dX6_die_68 rfl,
  fun d L st N y l => fk_g_getM rfl lf_6_32 (by decide) dX6_die_69 fk_at_238,
  fun d L st N y l c hc => fk_g_getC rfl lf_6_63 (by decide) rfl dX6_die_72 hc,
  fun d a0 a2 x st h => fk_w_iloadn 1 [a0, .int x, a2] dX6_die_75 rfl,
  fun d L st N y l c i hc hi hl => fk_h_aald dX6_die_76 hc hi hl,
  fun d L x0 N y l c hc => fk_g_call [.ref x0] [] rfl lm_6_156 dX6_die_77 rfl ⟨rfl, by decide⟩ (by simp) hc,
  fun d a0 a2 x st h => fk_w_iinc 1 3 (1) [] [a0, .int x, a2] [a0, .int (x + nI 1), a2] dX6_die_80 rfl rfl rfl (by decide) rfl,
  fun d L st h => fk_r_goto dX6_die_83 (by decide),
  fun d L h => fk_r_vret dX6_die_86 rfl⟩
theorem hX6_die_2 : ∀ (d : Nat) (a0 a2 : Value) (x : Int32) (st : List Value) (h : fk_H), fk_ev d qX6_die 2 [a0, .int x, a2] st h = fk_ev d qX6_die 3 [a0, .int x, a2] (.int x :: st) h := fun d a0 a2 x st h => fk_w_iloadn 1 [a0, .int x, a2] dX6_die_2 rfl
theorem dX6_setOut_0 : decode cX6_setOut 0 = .ok (.aload_n 0, 1) := by decide +kernel
theorem dX6_setOut_1 : decode cX6_setOut 1 = .ok (.getfield 32, 3) := by decide +kernel
theorem dX6_setOut_4 : decode cX6_setOut 4 = .ok (.getfield 60, 3) := by decide +kernel
theorem dX6_setOut_7 : decode cX6_setOut 7 = .ok (.istore_n 1, 1) := by decide +kernel
theorem dX6_setOut_8 : decode cX6_setOut 8 = .ok (.iconst 0, 1) := by decide +kernel
theorem dX6_setOut_9 : decode cX6_setOut 9 = .ok (.istore_n 2, 1) := by decide +kernel
theorem dX6_setOut_10 : decode cX6_setOut 10 = .ok (.iload_n 2, 1) := by decide +kernel
theorem dX6_setOut_11 : decode cX6_setOut 11 = .ok (.iload_n 1, 1) := by decide +kernel
theorem dX6_setOut_12 : decode cX6_setOut 12 = .ok (.if_icmp .ge 230, 3) := by decide +kernel
theorem dX6_setOut_15 : decode cX6_setOut 15 = .ok (.aload_n 0, 1) := by decide +kernel
theorem dX6_setOut_16 : decode cX6_setOut 16 = .ok (.getfield 32, 3) := by decide +kernel
theorem dX6_setOut_19 : decode cX6_setOut 19 = .ok (.getfield 63, 3) := by decide +kernel
theorem dX6_setOut_22 : decode cX6_setOut 22 = .ok (.iload_n 2, 1) := by decide +kernel
theorem dX6_setOut_23 : decode cX6_setOut 23 = .ok (.aaload, 1) := by decide +kernel
theorem dX6_setOut_24 : decode cX6_setOut 24 = .ok (.astore_n 3, 1) := by decide +kernel
theorem dX6_setOut_25 : decode cX6_setOut 25 = .ok (.aload_n 0, 1) := by decide +kernel
theorem dX6_setOut_26 : decode cX6_setOut 26 = .ok (.getfield 32, 3) := by decide +kernel
theorem dX6_setOut_29 : decode cX6_setOut 29 = .ok (.iload_n 2, 1) := by decide +kernel
theorem dX6_setOut_30 : decode cX6_setOut 30 = .ok (.invokevirtual 104, 3) := by decide +kernel
theorem dX6_setOut_33 : decode cX6_setOut 33 = .ok (.ifCond .eq 203, 3) := by decide +kernel
theorem dX6_setOut_36 : decode cX6_setOut 36 = .ok (.aload_n 3, 1) := by decide +kernel
theorem dX6_setOut_37 : decode cX6_setOut 37 = .ok (.getfield 101, 3) := by decide +kernel
theorem dX6_setOut_40 : decode cX6_setOut 40 = .ok (.ifCond .le 6, 3) := by decide +kernel
theorem dX6_setOut_43 : decode cX6_setOut 43 = .ok (.goto 193, 3) := by decide +kernel
theorem dX6_setOut_46 : decode cX6_setOut 46 = .ok (.iconst (-1), 1) := by decide +kernel
theorem dX6_setOut_47 : decode cX6_setOut 47 = .ok (.istore 4, 2) := by decide +kernel
theorem dX6_setOut_49 : decode cX6_setOut 49 = .ok (.iconst (-1), 1) := by decide +kernel
theorem dX6_setOut_50 : decode cX6_setOut 50 = .ok (.istore 5, 2) := by decide +kernel
theorem dX6_setOut_52 : decode cX6_setOut 52 = .ok (.iconst 0, 1) := by decide +kernel
theorem dX6_setOut_53 : decode cX6_setOut 53 = .ok (.istore 6, 2) := by decide +kernel
theorem dX6_setOut_55 : decode cX6_setOut 55 = .ok (.iconst 0, 1) := by decide +kernel
theorem dX6_setOut_56 : decode cX6_setOut 56 = .ok (.istore 7, 2) := by decide +kernel
theorem dX6_setOut_58 : decode cX6_setOut 58 = .ok (.iconst 0, 1) := by decide +kernel
theorem dX6_setOut_59 : decode cX6_setOut 59 = .ok (.istore 8, 2) := by decide +kernel
theorem dX6_setOut_61 : decode cX6_setOut 61 = .ok (.iload 8, 2) := by decide +kernel
theorem dX6_setOut_63 : decode cX6_setOut 63 = .ok (.bipush 32, 2) := by decide +kernel
theorem dX6_setOut_65 : decode cX6_setOut 65 = .ok (.if_icmp .ge 80, 3) := by decide +kernel
theorem dX6_setOut_68 : decode cX6_setOut 68 = .ok (.aload_n 0, 1) := by decide +kernel
theorem dX6_setOut_69 : decode cX6_setOut 69 = .ok (.getfield 28, 3) := by decide +kernel
theorem dX6_setOut_72 : decode cX6_setOut 72 = .ok (.getfield 159, 3) := by decide +kernel
theorem dX6_setOut_75 : decode cX6_setOut 75 = .ok (.iload 8, 2) := by decide +kernel
theorem dX6_setOut_77 : decode cX6_setOut 77 = .ok (.iaload, 1) := by decide +kernel
theorem dX6_setOut_78 : decode cX6_setOut 78 = .ok (.aload_n 3, 1) := by decide +kernel
theorem dX6_setOut_79 : decode cX6_setOut 79 = .ok (.getfield 98, 3) := by decide +kernel
theorem dX6_setOut_82 : decode cX6_setOut 82 = .ok (.if_icmp .ne 13, 3) := by decide +kernel
theorem dX6_setOut_85 : decode cX6_setOut 85 = .ok (.aload_n 0, 1) := by decide +kernel
theorem dX6_setOut_86 : decode cX6_setOut 86 = .ok (.aload_n 3, 1) := by decide +kernel
theorem dX6_setOut_87 : decode cX6_setOut 87 = .ok (.iload 8, 2) := by decide +kernel
theorem dX6_setOut_89 : decode cX6_setOut 89 = .ok (.invokevirtual 162, 3) := by decide +kernel
theorem dX6_setOut_92 : decode cX6_setOut 92 = .ok (.goto 4, 3) := by decide +kernel
theorem dX6_setOut_95 : decode cX6_setOut 95 = .ok (.iconst 0, 1) := by decide +kernel
theorem dX6_setOut_96 : decode cX6_setOut 96 = .ok (.istore 9, 2) := by decide +kernel
theorem dX6_setOut_98 : decode cX6_setOut 98 = .ok (.iload 9, 2) := by decide +kernel
theorem dX6_setOut_100 : decode cX6_setOut 100 = .ok (.iload 6, 2) := by decide +kernel
theorem dX6_setOut_102 : decode cX6_setOut 102 = .ok (.if_icmp .le 22, 3) := by decide +kernel
theorem dX6_setOut_105 : decode cX6_setOut 105 = .ok (.iload 4, 2) := by decide +kernel
theorem dX6_setOut_107 : decode cX6_setOut 107 = .ok (.istore 5, 2) := by decide +kernel
theorem dX6_setOut_109 : decode cX6_setOut 109 = .ok (.iload 6, 2) := by decide +kernel
theorem dX6_setOut_111 : decode cX6_setOut 111 = .ok (.istore 7, 2) := by decide +kernel
theorem dX6_setOut_113 : decode cX6_setOut 113 = .ok (.iload 8, 2) := by decide +kernel
theorem dX6_setOut_115 : decode cX6_setOut 115 = .ok (.istore 4, 2) := by decide +kernel
theorem dX6_setOut_117 : decode cX6_setOut 117 = .ok (.iload 9, 2) := by decide +kernel
theorem dX6_setOut_119 : decode cX6_setOut 119 = .ok (.istore 6, 2) := by decide +kernel
theorem dX6_setOut_121 : decode cX6_setOut 121 = .ok (.goto 18, 3) := by decide +kernel
theorem dX6_setOut_124 : decode cX6_setOut 124 = .ok (.iload 9, 2) := by decide +kernel
theorem dX6_setOut_126 : decode cX6_setOut 126 = .ok (.iload 7, 2) := by decide +kernel
theorem dX6_setOut_128 : decode cX6_setOut 128 = .ok (.if_icmp .le 11, 3) := by decide +kernel
theorem dX6_setOut_131 : decode cX6_setOut 131 = .ok (.iload 8, 2) := by decide +kernel
theorem dX6_setOut_133 : decode cX6_setOut 133 = .ok (.istore 5, 2) := by decide +kernel
theorem dX6_setOut_135 : decode cX6_setOut 135 = .ok (.iload 9, 2) := by decide +kernel
theorem dX6_setOut_137 : decode cX6_setOut 137 = .ok (.istore 7, 2) := by decide +kernel
theorem dX6_setOut_139 : decode cX6_setOut 139 = .ok (.iinc 8 1, 3) := by decide +kernel
theorem dX6_setOut_142 : decode cX6_setOut 142 = .ok (.goto (-81), 3) := by decide +kernel
theorem dX6_setOut_145 : decode cX6_setOut 145 = .ok (.iload 5, 2) := by decide +kernel
theorem dX6_setOut_147 : decode cX6_setOut 147 = .ok (.ifCond .lt 27, 3) := by decide +kernel
theorem dX6_setOut_150 : decode cX6_setOut 150 = .ok (.aload_n 0, 1) := by decide +kernel
theorem dX6_setOut_151 : decode cX6_setOut 151 = .ok (.getfield 32, 3) := by decide +kernel
theorem dX6_setOut_154 : decode cX6_setOut 154 = .ok (.getfield 60, 3) := by decide +kernel
theorem dX6_setOut_157 : decode cX6_setOut 157 = .ok (.bipush 64, 2) := by decide +kernel
theorem dX6_setOut_159 : decode cX6_setOut 159 = .ok (.if_icmp .ge 15, 3) := by decide +kernel
theorem dX6_setOut_162 : decode cX6_setOut 162 = .ok (.aload_n 3, 1) := by decide +kernel
theorem dX6_setOut_163 : decode cX6_setOut 163 = .ok (.getfield 166, 3) := by decide +kernel
theorem dX6_setOut_166 : decode cX6_setOut 166 = .ok (.iconst 1, 1) := by decide +kernel
theorem dX6_setOut_167 : decode cX6_setOut 167 = .ok (.if_icmp .le 7, 3) := by decide +kernel
theorem dX6_setOut_170 : decode cX6_setOut 170 = .ok (.iconst 1, 1) := by decide +kernel
theorem dX6_setOut_171 : decode cX6_setOut 171 = .ok (.goto 4, 3) := by decide +kernel
theorem dX6_setOut_174 : decode cX6_setOut 174 = .ok (.iconst 0, 1) := by decide +kernel
theorem dX6_setOut_175 : decode cX6_setOut 175 = .ok (.istore 8, 2) := by decide +kernel
theorem dX6_setOut_177 : decode cX6_setOut 177 = .ok (.iload 8, 2) := by decide +kernel
theorem dX6_setOut_179 : decode cX6_setOut 179 = .ok (.ifCond .eq 36, 3) := by decide +kernel
theorem dX6_setOut_182 : decode cX6_setOut 182 = .ok (.iload 6, 2) := by decide +kernel
theorem dX6_setOut_184 : decode cX6_setOut 184 = .ok (.iload 7, 2) := by decide +kernel
theorem dX6_setOut_186 : decode cX6_setOut 186 = .ok (.isub, 1) := by decide +kernel
theorem dX6_setOut_187 : decode cX6_setOut 187 = .ok (.aload_n 0, 1) := by decide +kernel
theorem dX6_setOut_188 : decode cX6_setOut 188 = .ok (.aload_n 3, 1) := by decide +kernel
theorem dX6_setOut_189 : decode cX6_setOut 189 = .ok (.invokevirtual 169, 3) := by decide +kernel
theorem dX6_setOut_192 : decode cX6_setOut 192 = .ok (.if_icmp .gt 23, 3) := by decide +kernel
theorem dX6_setOut_195 : decode cX6_setOut 195 = .ok (.aload_n 0, 1) := by decide +kernel
theorem dX6_setOut_196 : decode cX6_setOut 196 = .ok (.getfield 32, 3) := by decide +kernel
theorem dX6_setOut_199 : decode cX6_setOut 199 = .ok (.aload_n 3, 1) := by decide +kernel
theorem dX6_setOut_200 : decode cX6_setOut 200 = .ok (.iload 5, 2) := by decide +kernel
theorem dX6_setOut_202 : decode cX6_setOut 202 = .ok (.aload_n 0, 1) := by decide +kernel
theorem dX6_setOut_203 : decode cX6_setOut 203 = .ok (.getfield 28, 3) := by decide +kernel
theorem dX6_setOut_206 : decode cX6_setOut 206 = .ok (.getfield 172, 3) := by decide +kernel
theorem dX6_setOut_209 : decode cX6_setOut 209 = .ok (.iload 5, 2) := by decide +kernel
theorem dX6_setOut_211 : decode cX6_setOut 211 = .ok (.iaload, 1) := by decide +kernel
theorem dX6_setOut_212 : decode cX6_setOut 212 = .ok (.invokevirtual 175, 3) := by decide +kernel
theorem dX6_setOut_215 : decode cX6_setOut 215 = .ok (.iload 4, 2) := by decide +kernel
theorem dX6_setOut_217 : decode cX6_setOut 217 = .ok (.ifCond .lt 19, 3) := by decide +kernel
theorem dX6_setOut_220 : decode cX6_setOut 220 = .ok (.aload_n 3, 1) := by decide +kernel
theorem dX6_setOut_221 : decode cX6_setOut 221 = .ok (.iload 4, 2) := by decide +kernel
theorem dX6_setOut_223 : decode cX6_setOut 223 = .ok (.aload_n 0, 1) := by decide +kernel
theorem dX6_setOut_224 : decode cX6_setOut 224 = .ok (.getfield 28, 3) := by decide +kernel
theorem dX6_setOut_227 : decode cX6_setOut 227 = .ok (.getfield 172, 3) := by decide +kernel
theorem dX6_setOut_230 : decode cX6_setOut 230 = .ok (.iload 4, 2) := by decide +kernel
theorem dX6_setOut_232 : decode cX6_setOut 232 = .ok (.iaload, 1) := by decide +kernel
theorem dX6_setOut_233 : decode cX6_setOut 233 = .ok (.invokevirtual 179, 3) := by decide +kernel
theorem dX6_setOut_236 : decode cX6_setOut 236 = .ok (.iinc 2 1, 3) := by decide +kernel
theorem dX6_setOut_239 : decode cX6_setOut 239 = .ok (.goto (-229), 3) := by decide +kernel
theorem dX6_setOut_242 : decode cX6_setOut 242 = .ok (.return_, 1) := by decide +kernel
theorem rX6_setOut : (∀ (d : Nat) (a1 a2 a3 a4 a5 a6 a7 a8 a9 : Value) (x : Nat) (st : List Value) (h : fk_H), fk_ev d qX6_setOut 0 [.ref x, a1, a2, a3, a4, a5, a6, a7, a8, a9] st h = fk_ev d qX6_setOut 1 [.ref x, a1, a2, a3, a4, a5, a6, a7, a8, a9] (.ref x :: st) h) ∧
  (∀ (d : Nat) (L st : List Value) (N : Nat) (y : Nat → Nat → Int32) (l : Nat → Nat → Int64), fk_ev d qX6_setOut 1 L (.ref 238 :: st) (fk_E N y l) = fk_ev d qX6_setOut 4 L (.ref (y 238 2).toNatClampNeg :: st) (fk_E N y l)) ∧
  (∀ (d : Nat) (L st : List Value) (N : Nat) (y : Nat → Nat → Int32) (l : Nat → Nat → Int64) (c : Nat), fk_at c 8 → fk_ev d qX6_setOut 4 L (.ref c :: st) (fk_E N y l) = fk_ev d qX6_setOut 7 L (.int (y c 2) :: st) (fk_E N y l)) ∧
  (∀ (d : Nat) (a0 a1 a2 a3 a4 a5 a6 a7 a8 a9 : Value) (x : Int32) (st : List Value) (h : fk_H), fk_ev d qX6_setOut 7 [a0, a1, a2, a3, a4, a5, a6, a7, a8, a9] (.int x :: st) h = fk_ev d qX6_setOut 8 [a0, .int x, a2, a3, a4, a5, a6, a7, a8, a9] st h) ∧
  (∀ (d : Nat) (L st : List Value) (h : fk_H), fk_ev d qX6_setOut 8 L st h = fk_ev d qX6_setOut 9 L (.int (nI 0) :: st) h) ∧
  (∀ (d : Nat) (a0 a1 a2 a3 a4 a5 a6 a7 a8 a9 : Value) (x : Int32) (st : List Value) (h : fk_H), fk_ev d qX6_setOut 9 [a0, a1, a2, a3, a4, a5, a6, a7, a8, a9] (.int x :: st) h = fk_ev d qX6_setOut 10 [a0, a1, .int x, a3, a4, a5, a6, a7, a8, a9] st h) ∧
  (∀ (d : Nat) (a0 a2 a3 a4 a5 a6 a7 a8 a9 : Value) (x : Int32) (st : List Value) (h : fk_H), fk_ev d qX6_setOut 11 [a0, .int x, a2, a3, a4, a5, a6, a7, a8, a9] st h = fk_ev d qX6_setOut 12 [a0, .int x, a2, a3, a4, a5, a6, a7, a8, a9] (.int x :: st) h) ∧
  (∀ (d : Nat) (L : List Value) (x y : Int32) (st : List Value) (h : fk_H), fk_ev d qX6_setOut 12 L (.int y :: .int x :: st) h = if y ≤ x then fk_ev d qX6_setOut 242 L st h else fk_ev d qX6_setOut 15 L st h) ∧
  (∀ (d : Nat) (a1 a2 a3 a4 a5 a6 a7 a8 a9 : Value) (x : Nat) (st : List Value) (h : fk_H), fk_ev d qX6_setOut 15 [.ref x, a1, a2, a3, a4, a5, a6, a7, a8, a9] st h = fk_ev d qX6_setOut 16 [.ref x, a1, a2, a3, a4, a5, a6, a7, a8, a9] (.ref x :: st) h) ∧
  (∀ (d : Nat) (L st : List Value) (N : Nat) (y : Nat → Nat → Int32) (l : Nat → Nat → Int64), fk_ev d qX6_setOut 16 L (.ref 238 :: st) (fk_E N y l) = fk_ev d qX6_setOut 19 L (.ref (y 238 2).toNatClampNeg :: st) (fk_E N y l)) ∧
  (∀ (d : Nat) (L st : List Value) (N : Nat) (y : Nat → Nat → Int32) (l : Nat → Nat → Int64) (c : Nat), fk_at c 8 → fk_ev d qX6_setOut 19 L (.ref c :: st) (fk_E N y l) = fk_ev d qX6_setOut 22 L (.ref (fk_cr c 0) :: st) (fk_E N y l)) ∧
  (∀ (d : Nat) (a0 a1 a3 a4 a5 a6 a7 a8 a9 : Value) (x : Int32) (st : List Value) (h : fk_H), fk_ev d qX6_setOut 22 [a0, a1, .int x, a3, a4, a5, a6, a7, a8, a9] st h = fk_ev d qX6_setOut 23 [a0, a1, .int x, a3, a4, a5, a6, a7, a8, a9] (.int x :: st) h) ∧
  (∀ (d : Nat) (L st : List Value) (N : Nat) (y : Nat → Nat → Int32) (l : Nat → Nat → Int64) (c i : Nat), fk_at c 24 → i < (fk_shp c).2 → (fk_shp c).2 < 2 ^ 31 → fk_ev d qX6_setOut 23 L (.int (nI i) :: .ref c :: st) (fk_E N y l) = fk_ev d qX6_setOut 24 L (.ref (c + 2 + i) :: st) (fk_E N y l)) ∧
  (∀ (d : Nat) (a0 a1 a2 a3 a4 a5 a6 a7 a8 a9 : Value) (x : Nat) (st : List Value) (h : fk_H), fk_ev d qX6_setOut 24 [a0, a1, a2, a3, a4, a5, a6, a7, a8, a9] (.ref x :: st) h = fk_ev d qX6_setOut 25 [a0, a1, a2, .ref x, a4, a5, a6, a7, a8, a9] st h) ∧
  (∀ (d : Nat) (a1 a2 a3 a4 a5 a6 a7 a8 a9 : Value) (x : Nat) (st : List Value) (h : fk_H), fk_ev d qX6_setOut 25 [.ref x, a1, a2, a3, a4, a5, a6, a7, a8, a9] st h = fk_ev d qX6_setOut 26 [.ref x, a1, a2, a3, a4, a5, a6, a7, a8, a9] (.ref x :: st) h) ∧
  (∀ (d : Nat) (L st : List Value) (N : Nat) (y : Nat → Nat → Int32) (l : Nat → Nat → Int64), fk_ev d qX6_setOut 26 L (.ref 238 :: st) (fk_E N y l) = fk_ev d qX6_setOut 29 L (.ref (y 238 2).toNatClampNeg :: st) (fk_E N y l)) ∧
  (∀ (d : Nat) (a0 a1 a3 a4 a5 a6 a7 a8 a9 : Value) (x : Int32) (st : List Value) (h : fk_H), fk_ev d qX6_setOut 29 [a0, a1, .int x, a3, a4, a5, a6, a7, a8, a9] st h = fk_ev d qX6_setOut 30 [a0, a1, .int x, a3, a4, a5, a6, a7, a8, a9] (.int x :: st) h) ∧
  (∀ (d : Nat) (L : List Value) (x0 : Int32)  (N : Nat) (y : Nat → Nat → Int32) (l : Nat → Nat → Int64) (c : Nat), fk_at c 8 → fk_ev (d + 1) qX6_setOut 30 L (.int x0 :: .ref c :: []) (fk_E N y l) = (fk_ev d qX8_isAtPlace 0 [.ref c, .int x0] [] (fk_E N y l)).bind fun o => fk_ev (d + 1) qX6_setOut 33 L (o.1.toList ++ []) o.2) ∧
  (∀ (d : Nat) (L : List Value) (x : Int32) (st : List Value) (h : fk_H), fk_ev d qX6_setOut 33 L (.int x :: st) h = if x = nI 0 then fk_ev d qX6_setOut 236 L st h else fk_ev d qX6_setOut 36 L st h) ∧
  (∀ (d : Nat) (a0 a1 a2 a4 a5 a6 a7 a8 a9 : Value) (x : Nat) (st : List Value) (h : fk_H), fk_ev d qX6_setOut 36 [a0, a1, a2, .ref x, a4, a5, a6, a7, a8, a9] st h = fk_ev d qX6_setOut 37 [a0, a1, a2, .ref x, a4, a5, a6, a7, a8, a9] (.ref x :: st) h) ∧
  (∀ (d : Nat) (L st : List Value) (N : Nat) (y : Nat → Nat → Int32) (l : Nat → Nat → Int64) (c : Nat), fk_at c 0 → fk_ev d qX6_setOut 37 L (.ref c :: st) (fk_E N y l) = fk_ev d qX6_setOut 40 L (.int (y c 9) :: st) (fk_E N y l)) ∧
  (∀ (d : Nat) (L : List Value) (x : Int32) (st : List Value) (h : fk_H), fk_ev d qX6_setOut 40 L (.int x :: st) h = if x ≤ nI 0 then fk_ev d qX6_setOut 46 L st h else fk_ev d qX6_setOut 43 L st h) ∧
  (∀ (d : Nat) (L st : List Value) (h : fk_H), fk_ev d qX6_setOut 43 L st h = fk_ev d qX6_setOut 236 L st h) ∧
  (∀ (d : Nat) (L st : List Value) (h : fk_H), fk_ev d qX6_setOut 46 L st h = fk_ev d qX6_setOut 47 L (.int ((-1 : Int32)) :: st) h) ∧
  (∀ (d : Nat) (a0 a1 a2 a3 a4 a5 a6 a7 a8 a9 : Value) (x : Int32) (st : List Value) (h : fk_H), fk_ev d qX6_setOut 47 [a0, a1, a2, a3, a4, a5, a6, a7, a8, a9] (.int x :: st) h = fk_ev d qX6_setOut 49 [a0, a1, a2, a3, .int x, a5, a6, a7, a8, a9] st h) ∧
  (∀ (d : Nat) (L st : List Value) (h : fk_H), fk_ev d qX6_setOut 49 L st h = fk_ev d qX6_setOut 50 L (.int ((-1 : Int32)) :: st) h) ∧
  (∀ (d : Nat) (a0 a1 a2 a3 a4 a5 a6 a7 a8 a9 : Value) (x : Int32) (st : List Value) (h : fk_H), fk_ev d qX6_setOut 50 [a0, a1, a2, a3, a4, a5, a6, a7, a8, a9] (.int x :: st) h = fk_ev d qX6_setOut 52 [a0, a1, a2, a3, a4, .int x, a6, a7, a8, a9] st h) ∧
  (∀ (d : Nat) (L st : List Value) (h : fk_H), fk_ev d qX6_setOut 52 L st h = fk_ev d qX6_setOut 53 L (.int (nI 0) :: st) h) ∧
  (∀ (d : Nat) (a0 a1 a2 a3 a4 a5 a6 a7 a8 a9 : Value) (x : Int32) (st : List Value) (h : fk_H), fk_ev d qX6_setOut 53 [a0, a1, a2, a3, a4, a5, a6, a7, a8, a9] (.int x :: st) h = fk_ev d qX6_setOut 55 [a0, a1, a2, a3, a4, a5, .int x, a7, a8, a9] st h) ∧
  (∀ (d : Nat) (L st : List Value) (h : fk_H), fk_ev d qX6_setOut 55 L st h = fk_ev d qX6_setOut 56 L (.int (nI 0) :: st) h) ∧
  (∀ (d : Nat) (a0 a1 a2 a3 a4 a5 a6 a7 a8 a9 : Value) (x : Int32) (st : List Value) (h : fk_H), fk_ev d qX6_setOut 56 [a0, a1, a2, a3, a4, a5, a6, a7, a8, a9] (.int x :: st) h = fk_ev d qX6_setOut 58 [a0, a1, a2, a3, a4, a5, a6, .int x, a8, a9] st h) ∧
  (∀ (d : Nat) (L st : List Value) (h : fk_H), fk_ev d qX6_setOut 58 L st h = fk_ev d qX6_setOut 59 L (.int (nI 0) :: st) h) ∧
  (∀ (d : Nat) (a0 a1 a2 a3 a4 a5 a6 a7 a8 a9 : Value) (x : Int32) (st : List Value) (h : fk_H), fk_ev d qX6_setOut 59 [a0, a1, a2, a3, a4, a5, a6, a7, a8, a9] (.int x :: st) h = fk_ev d qX6_setOut 61 [a0, a1, a2, a3, a4, a5, a6, a7, .int x, a9] st h) ∧
  (∀ (d : Nat) (L st : List Value) (h : fk_H), fk_ev d qX6_setOut 63 L st h = fk_ev d qX6_setOut 65 L (.int (nI 32) :: st) h) ∧
  (∀ (d : Nat) (L : List Value) (x y : Int32) (st : List Value) (h : fk_H), fk_ev d qX6_setOut 65 L (.int y :: .int x :: st) h = if y ≤ x then fk_ev d qX6_setOut 145 L st h else fk_ev d qX6_setOut 68 L st h) ∧
  (∀ (d : Nat) (a1 a2 a3 a4 a5 a6 a7 a8 a9 : Value) (x : Nat) (st : List Value) (h : fk_H), fk_ev d qX6_setOut 68 [.ref x, a1, a2, a3, a4, a5, a6, a7, a8, a9] st h = fk_ev d qX6_setOut 69 [.ref x, a1, a2, a3, a4, a5, a6, a7, a8, a9] (.ref x :: st) h) ∧
  (∀ (d : Nat) (L st : List Value) (N : Nat) (y : Nat → Nat → Int32) (l : Nat → Nat → Int64), fk_ev d qX6_setOut 69 L (.ref 238 :: st) (fk_E N y l) = fk_ev d qX6_setOut 72 L (.ref 18 :: st) (fk_E N y l)) ∧
  (∀ (d : Nat) (L st : List Value) (N : Nat) (y : Nat → Nat → Int32) (l : Nat → Nat → Int64), fk_ev d qX6_setOut 72 L (.ref 18 :: st) (fk_E N y l) = fk_ev d qX6_setOut 75 L (.ref 19 :: st) (fk_E N y l)) ∧
  (∀ (d : Nat) (a0 a1 a2 a3 a4 a5 a6 a7 a9 : Value) (x : Int32) (st : List Value) (h : fk_H), fk_ev d qX6_setOut 75 [a0, a1, a2, a3, a4, a5, a6, a7, .int x, a9] st h = fk_ev d qX6_setOut 77 [a0, a1, a2, a3, a4, a5, a6, a7, .int x, a9] (.int x :: st) h) ∧
  (∀ (d : Nat) (L st : List Value) (N : Nat) (y : Nat → Nat → Int32) (l : Nat → Nat → Int64) (i : Nat), i < 32 → fk_ev d qX6_setOut 77 L (.int (nI i) :: .ref 19 :: st) (fk_E N y l) = fk_ev d qX6_setOut 78 L (.int (y 19 i) :: st) (fk_E N y l)) ∧
  (∀ (d : Nat) (a0 a1 a2 a4 a5 a6 a7 a8 a9 : Value) (x : Nat) (st : List Value) (h : fk_H), fk_ev d qX6_setOut 78 [a0, a1, a2, .ref x, a4, a5, a6, a7, a8, a9] st h = fk_ev d qX6_setOut 79 [a0, a1, a2, .ref x, a4, a5, a6, a7, a8, a9] (.ref x :: st) h) ∧
  (∀ (d : Nat) (L st : List Value) (N : Nat) (y : Nat → Nat → Int32) (l : Nat → Nat → Int64) (c : Nat), fk_at c 0 → fk_ev d qX6_setOut 79 L (.ref c :: st) (fk_E N y l) = fk_ev d qX6_setOut 82 L (.int (y c 6) :: st) (fk_E N y l)) ∧
  (∀ (d : Nat) (L : List Value) (x y : Int32) (st : List Value) (h : fk_H), fk_ev d qX6_setOut 82 L (.int y :: .int x :: st) h = if ¬ x = y then fk_ev d qX6_setOut 95 L st h else fk_ev d qX6_setOut 85 L st h) ∧
  (∀ (d : Nat) (a1 a2 a3 a4 a5 a6 a7 a8 a9 : Value) (x : Nat) (st : List Value) (h : fk_H), fk_ev d qX6_setOut 85 [.ref x, a1, a2, a3, a4, a5, a6, a7, a8, a9] st h = fk_ev d qX6_setOut 86 [.ref x, a1, a2, a3, a4, a5, a6, a7, a8, a9] (.ref x :: st) h) ∧
  (∀ (d : Nat) (a0 a1 a2 a4 a5 a6 a7 a8 a9 : Value) (x : Nat) (st : List Value) (h : fk_H), fk_ev d qX6_setOut 86 [a0, a1, a2, .ref x, a4, a5, a6, a7, a8, a9] st h = fk_ev d qX6_setOut 87 [a0, a1, a2, .ref x, a4, a5, a6, a7, a8, a9] (.ref x :: st) h) ∧
  (∀ (d : Nat) (a0 a1 a2 a3 a4 a5 a6 a7 a9 : Value) (x : Int32) (st : List Value) (h : fk_H), fk_ev d qX6_setOut 87 [a0, a1, a2, a3, a4, a5, a6, a7, .int x, a9] st h = fk_ev d qX6_setOut 89 [a0, a1, a2, a3, a4, a5, a6, a7, .int x, a9] (.int x :: st) h) ∧
  (∀ (d : Nat) (L : List Value) (x0 : Nat) (x1 : Int32)  (N : Nat) (y : Nat → Nat → Int32) (l : Nat → Nat → Int64), fk_ev (d + 1) qX6_setOut 89 L (.int x1 :: .ref x0 :: .ref 238 :: []) (fk_E N y l) = (fk_ev d qX6_gladness 0 [.ref 238, .ref x0, .int x1] [] (fk_E N y l)).bind fun o => fk_ev (d + 1) qX6_setOut 92 L (o.1.toList ++ []) o.2) ∧
  (∀ (d : Nat) (L st : List Value) (h : fk_H), fk_ev d qX6_setOut 92 L st h = fk_ev d qX6_setOut 96 L st h) ∧
  (∀ (d : Nat) (L st : List Value) (h : fk_H), fk_ev d qX6_setOut 95 L st h = fk_ev d qX6_setOut 96 L (.int (nI 0) :: st) h) ∧
  (∀ (d : Nat) (a0 a1 a2 a3 a4 a5 a6 a7 a8 a9 : Value) (x : Int32) (st : List Value) (h : fk_H), fk_ev d qX6_setOut 96 [a0, a1, a2, a3, a4, a5, a6, a7, a8, a9] (.int x :: st) h = fk_ev d qX6_setOut 98 [a0, a1, a2, a3, a4, a5, a6, a7, a8, .int x] st h) ∧
  (∀ (d : Nat) (a0 a1 a2 a3 a4 a5 a6 a7 a8 : Value) (x : Int32) (st : List Value) (h : fk_H), fk_ev d qX6_setOut 98 [a0, a1, a2, a3, a4, a5, a6, a7, a8, .int x] st h = fk_ev d qX6_setOut 100 [a0, a1, a2, a3, a4, a5, a6, a7, a8, .int x] (.int x :: st) h) ∧
  (∀ (d : Nat) (a0 a1 a2 a3 a4 a5 a7 a8 a9 : Value) (x : Int32) (st : List Value) (h : fk_H), fk_ev d qX6_setOut 100 [a0, a1, a2, a3, a4, a5, .int x, a7, a8, a9] st h = fk_ev d qX6_setOut 102 [a0, a1, a2, a3, a4, a5, .int x, a7, a8, a9] (.int x :: st) h) ∧
  (∀ (d : Nat) (L : List Value) (x y : Int32) (st : List Value) (h : fk_H), fk_ev d qX6_setOut 102 L (.int y :: .int x :: st) h = if x ≤ y then fk_ev d qX6_setOut 124 L st h else fk_ev d qX6_setOut 105 L st h) ∧
  (∀ (d : Nat) (a0 a1 a2 a3 a5 a6 a7 a8 a9 : Value) (x : Int32) (st : List Value) (h : fk_H), fk_ev d qX6_setOut 105 [a0, a1, a2, a3, .int x, a5, a6, a7, a8, a9] st h = fk_ev d qX6_setOut 107 [a0, a1, a2, a3, .int x, a5, a6, a7, a8, a9] (.int x :: st) h) ∧
  (∀ (d : Nat) (a0 a1 a2 a3 a4 a5 a6 a7 a8 a9 : Value) (x : Int32) (st : List Value) (h : fk_H), fk_ev d qX6_setOut 107 [a0, a1, a2, a3, a4, a5, a6, a7, a8, a9] (.int x :: st) h = fk_ev d qX6_setOut 109 [a0, a1, a2, a3, a4, .int x, a6, a7, a8, a9] st h) ∧
  (∀ (d : Nat) (a0 a1 a2 a3 a4 a5 a7 a8 a9 : Value) (x : Int32) (st : List Value) (h : fk_H), fk_ev d qX6_setOut 109 [a0, a1, a2, a3, a4, a5, .int x, a7, a8, a9] st h = fk_ev d qX6_setOut 111 [a0, a1, a2, a3, a4, a5, .int x, a7, a8, a9] (.int x :: st) h) ∧
  (∀ (d : Nat) (a0 a1 a2 a3 a4 a5 a6 a7 a8 a9 : Value) (x : Int32) (st : List Value) (h : fk_H), fk_ev d qX6_setOut 111 [a0, a1, a2, a3, a4, a5, a6, a7, a8, a9] (.int x :: st) h = fk_ev d qX6_setOut 113 [a0, a1, a2, a3, a4, a5, a6, .int x, a8, a9] st h) ∧
  (∀ (d : Nat) (a0 a1 a2 a3 a4 a5 a6 a7 a9 : Value) (x : Int32) (st : List Value) (h : fk_H), fk_ev d qX6_setOut 113 [a0, a1, a2, a3, a4, a5, a6, a7, .int x, a9] st h = fk_ev d qX6_setOut 115 [a0, a1, a2, a3, a4, a5, a6, a7, .int x, a9] (.int x :: st) h) ∧
  (∀ (d : Nat) (a0 a1 a2 a3 a4 a5 a6 a7 a8 a9 : Value) (x : Int32) (st : List Value) (h : fk_H), fk_ev d qX6_setOut 115 [a0, a1, a2, a3, a4, a5, a6, a7, a8, a9] (.int x :: st) h = fk_ev d qX6_setOut 117 [a0, a1, a2, a3, .int x, a5, a6, a7, a8, a9] st h) ∧
  (∀ (d : Nat) (a0 a1 a2 a3 a4 a5 a6 a7 a8 : Value) (x : Int32) (st : List Value) (h : fk_H), fk_ev d qX6_setOut 117 [a0, a1, a2, a3, a4, a5, a6, a7, a8, .int x] st h = fk_ev d qX6_setOut 119 [a0, a1, a2, a3, a4, a5, a6, a7, a8, .int x] (.int x :: st) h) ∧
  (∀ (d : Nat) (a0 a1 a2 a3 a4 a5 a6 a7 a8 a9 : Value) (x : Int32) (st : List Value) (h : fk_H), fk_ev d qX6_setOut 119 [a0, a1, a2, a3, a4, a5, a6, a7, a8, a9] (.int x :: st) h = fk_ev d qX6_setOut 121 [a0, a1, a2, a3, a4, a5, .int x, a7, a8, a9] st h) ∧
  (∀ (d : Nat) (L st : List Value) (h : fk_H), fk_ev d qX6_setOut 121 L st h = fk_ev d qX6_setOut 139 L st h) ∧
  (∀ (d : Nat) (a0 a1 a2 a3 a4 a5 a6 a7 a8 : Value) (x : Int32) (st : List Value) (h : fk_H), fk_ev d qX6_setOut 124 [a0, a1, a2, a3, a4, a5, a6, a7, a8, .int x] st h = fk_ev d qX6_setOut 126 [a0, a1, a2, a3, a4, a5, a6, a7, a8, .int x] (.int x :: st) h) ∧
  (∀ (d : Nat) (a0 a1 a2 a3 a4 a5 a6 a8 a9 : Value) (x : Int32) (st : List Value) (h : fk_H), fk_ev d qX6_setOut 126 [a0, a1, a2, a3, a4, a5, a6, .int x, a8, a9] st h = fk_ev d qX6_setOut 128 [a0, a1, a2, a3, a4, a5, a6, .int x, a8, a9] (.int x :: st) h) ∧
  (∀ (d : Nat) (L : List Value) (x y : Int32) (st : List Value) (h : fk_H), fk_ev d qX6_setOut 128 L (.int y :: .int x :: st) h = if x ≤ y then fk_ev d qX6_setOut 139 L st h else fk_ev d qX6_setOut 131 L st h) ∧
  (∀ (d : Nat) (a0 a1 a2 a3 a4 a5 a6 a7 a9 : Value) (x : Int32) (st : List Value) (h : fk_H), fk_ev d qX6_setOut 131 [a0, a1, a2, a3, a4, a5, a6, a7, .int x, a9] st h = fk_ev d qX6_setOut 133 [a0, a1, a2, a3, a4, a5, a6, a7, .int x, a9] (.int x :: st) h) ∧
  (∀ (d : Nat) (a0 a1 a2 a3 a4 a5 a6 a7 a8 a9 : Value) (x : Int32) (st : List Value) (h : fk_H), fk_ev d qX6_setOut 133 [a0, a1, a2, a3, a4, a5, a6, a7, a8, a9] (.int x :: st) h = fk_ev d qX6_setOut 135 [a0, a1, a2, a3, a4, .int x, a6, a7, a8, a9] st h) ∧
  (∀ (d : Nat) (a0 a1 a2 a3 a4 a5 a6 a7 a8 : Value) (x : Int32) (st : List Value) (h : fk_H), fk_ev d qX6_setOut 135 [a0, a1, a2, a3, a4, a5, a6, a7, a8, .int x] st h = fk_ev d qX6_setOut 137 [a0, a1, a2, a3, a4, a5, a6, a7, a8, .int x] (.int x :: st) h) ∧
  (∀ (d : Nat) (a0 a1 a2 a3 a4 a5 a6 a7 a8 a9 : Value) (x : Int32) (st : List Value) (h : fk_H), fk_ev d qX6_setOut 137 [a0, a1, a2, a3, a4, a5, a6, a7, a8, a9] (.int x :: st) h = fk_ev d qX6_setOut 139 [a0, a1, a2, a3, a4, a5, a6, .int x, a8, a9] st h) ∧
  (∀ (d : Nat) (a0 a1 a2 a3 a4 a5 a6 a7 a9 : Value) (x : Int32) (st : List Value) (h : fk_H), fk_ev d qX6_setOut 139 [a0, a1, a2, a3, a4, a5, a6, a7, .int x, a9] st h = fk_ev d qX6_setOut 142 [a0, a1, a2, a3, a4, a5, a6, a7, .int (x + nI 1), a9] st h) ∧
  (∀ (d : Nat) (L st : List Value) (h : fk_H), fk_ev d qX6_setOut 142 L st h = fk_ev d qX6_setOut 61 L st h) ∧
  (∀ (d : Nat) (a0 a1 a2 a3 a4 a6 a7 a8 a9 : Value) (x : Int32) (st : List Value) (h : fk_H), fk_ev d qX6_setOut 145 [a0, a1, a2, a3, a4, .int x, a6, a7, a8, a9] st h = fk_ev d qX6_setOut 147 [a0, a1, a2, a3, a4, .int x, a6, a7, a8, a9] (.int x :: st) h) ∧
  (∀ (d : Nat) (L : List Value) (x : Int32) (st : List Value) (h : fk_H), fk_ev d qX6_setOut 147 L (.int x :: st) h = if x < nI 0 then fk_ev d qX6_setOut 174 L st h else fk_ev d qX6_setOut 150 L st h) ∧
  (∀ (d : Nat) (a1 a2 a3 a4 a5 a6 a7 a8 a9 : Value) (x : Nat) (st : List Value) (h : fk_H), fk_ev d qX6_setOut 150 [.ref x, a1, a2, a3, a4, a5, a6, a7, a8, a9] st h = fk_ev d qX6_setOut 151 [.ref x, a1, a2, a3, a4, a5, a6, a7, a8, a9] (.ref x :: st) h) ∧
  (∀ (d : Nat) (L st : List Value) (N : Nat) (y : Nat → Nat → Int32) (l : Nat → Nat → Int64), fk_ev d qX6_setOut 151 L (.ref 238 :: st) (fk_E N y l) = fk_ev d qX6_setOut 154 L (.ref (y 238 2).toNatClampNeg :: st) (fk_E N y l)) ∧
  (∀ (d : Nat) (L st : List Value) (N : Nat) (y : Nat → Nat → Int32) (l : Nat → Nat → Int64) (c : Nat), fk_at c 8 → fk_ev d qX6_setOut 154 L (.ref c :: st) (fk_E N y l) = fk_ev d qX6_setOut 157 L (.int (y c 2) :: st) (fk_E N y l)) ∧
  (∀ (d : Nat) (L st : List Value) (h : fk_H), fk_ev d qX6_setOut 157 L st h = fk_ev d qX6_setOut 159 L (.int (nI 64) :: st) h) ∧
  (∀ (d : Nat) (L : List Value) (x y : Int32) (st : List Value) (h : fk_H), fk_ev d qX6_setOut 159 L (.int y :: .int x :: st) h = if y ≤ x then fk_ev d qX6_setOut 174 L st h else fk_ev d qX6_setOut 162 L st h) ∧
  (∀ (d : Nat) (a0 a1 a2 a4 a5 a6 a7 a8 a9 : Value) (x : Nat) (st : List Value) (h : fk_H), fk_ev d qX6_setOut 162 [a0, a1, a2, .ref x, a4, a5, a6, a7, a8, a9] st h = fk_ev d qX6_setOut 163 [a0, a1, a2, .ref x, a4, a5, a6, a7, a8, a9] (.ref x :: st) h) ∧
  (∀ (d : Nat) (L st : List Value) (N : Nat) (y : Nat → Nat → Int32) (l : Nat → Nat → Int64) (c : Nat), fk_at c 0 → fk_ev d qX6_setOut 163 L (.ref c :: st) (fk_E N y l) = fk_ev d qX6_setOut 166 L (.int (y c 5) :: st) (fk_E N y l)) ∧
  (∀ (d : Nat) (L st : List Value) (h : fk_H), fk_ev d qX6_setOut 166 L st h = fk_ev d qX6_setOut 167 L (.int (nI 1) :: st) h) ∧
  (∀ (d : Nat) (L : List Value) (x y : Int32) (st : List Value) (h : fk_H), fk_ev d qX6_setOut 167 L (.int y :: .int x :: st) h = if x ≤ y then fk_ev d qX6_setOut 174 L st h else fk_ev d qX6_setOut 170 L st h) ∧
  (∀ (d : Nat) (L st : List Value) (h : fk_H), fk_ev d qX6_setOut 170 L st h = fk_ev d qX6_setOut 171 L (.int (nI 1) :: st) h) ∧
  (∀ (d : Nat) (L st : List Value) (h : fk_H), fk_ev d qX6_setOut 171 L st h = fk_ev d qX6_setOut 175 L st h) ∧
  (∀ (d : Nat) (L st : List Value) (h : fk_H), fk_ev d qX6_setOut 174 L st h = fk_ev d qX6_setOut 175 L (.int (nI 0) :: st) h) ∧
  (∀ (d : Nat) (a0 a1 a2 a3 a4 a5 a6 a7 a8 a9 : Value) (x : Int32) (st : List Value) (h : fk_H), fk_ev d qX6_setOut 175 [a0, a1, a2, a3, a4, a5, a6, a7, a8, a9] (.int x :: st) h = fk_ev d qX6_setOut 177 [a0, a1, a2, a3, a4, a5, a6, a7, .int x, a9] st h) ∧
  (∀ (d : Nat) (a0 a1 a2 a3 a4 a5 a6 a7 a9 : Value) (x : Int32) (st : List Value) (h : fk_H), fk_ev d qX6_setOut 177 [a0, a1, a2, a3, a4, a5, a6, a7, .int x, a9] st h = fk_ev d qX6_setOut 179 [a0, a1, a2, a3, a4, a5, a6, a7, .int x, a9] (.int x :: st) h) ∧
  (∀ (d : Nat) (L : List Value) (x : Int32) (st : List Value) (h : fk_H), fk_ev d qX6_setOut 179 L (.int x :: st) h = if x = nI 0 then fk_ev d qX6_setOut 215 L st h else fk_ev d qX6_setOut 182 L st h) ∧
  (∀ (d : Nat) (a0 a1 a2 a3 a4 a5 a7 a8 a9 : Value) (x : Int32) (st : List Value) (h : fk_H), fk_ev d qX6_setOut 182 [a0, a1, a2, a3, a4, a5, .int x, a7, a8, a9] st h = fk_ev d qX6_setOut 184 [a0, a1, a2, a3, a4, a5, .int x, a7, a8, a9] (.int x :: st) h) ∧
  (∀ (d : Nat) (a0 a1 a2 a3 a4 a5 a6 a8 a9 : Value) (x : Int32) (st : List Value) (h : fk_H), fk_ev d qX6_setOut 184 [a0, a1, a2, a3, a4, a5, a6, .int x, a8, a9] st h = fk_ev d qX6_setOut 186 [a0, a1, a2, a3, a4, a5, a6, .int x, a8, a9] (.int x :: st) h) ∧
  (∀ (d : Nat) (L : List Value) (x y : Int32) (st : List Value) (h : fk_H), fk_ev d qX6_setOut 186 L (.int y :: .int x :: st) h = fk_ev d qX6_setOut 187 L (.int (x - y) :: st) h) ∧
  (∀ (d : Nat) (a1 a2 a3 a4 a5 a6 a7 a8 a9 : Value) (x : Nat) (st : List Value) (h : fk_H), fk_ev d qX6_setOut 187 [.ref x, a1, a2, a3, a4, a5, a6, a7, a8, a9] st h = fk_ev d qX6_setOut 188 [.ref x, a1, a2, a3, a4, a5, a6, a7, a8, a9] (.ref x :: st) h) ∧
  (∀ (d : Nat) (a0 a1 a2 a4 a5 a6 a7 a8 a9 : Value) (x : Nat) (st : List Value) (h : fk_H), fk_ev d qX6_setOut 188 [a0, a1, a2, .ref x, a4, a5, a6, a7, a8, a9] st h = fk_ev d qX6_setOut 189 [a0, a1, a2, .ref x, a4, a5, a6, a7, a8, a9] (.ref x :: st) h) ∧
  (∀ (d : Nat) (L : List Value) (x0 : Nat) (w0 : Value) (N : Nat) (y : Nat → Nat → Int32) (l : Nat → Nat → Int64), fk_ev (d + 1) qX6_setOut 189 L (.ref x0 :: .ref 238 :: [w0]) (fk_E N y l) = (fk_ev d qX6_doubt 0 [.ref 238, .ref x0] [] (fk_E N y l)).bind fun o => fk_ev (d + 1) qX6_setOut 192 L (o.1.toList ++ [w0]) o.2) ∧
  (∀ (d : Nat) (L : List Value) (x y : Int32) (st : List Value) (h : fk_H), fk_ev d qX6_setOut 192 L (.int y :: .int x :: st) h = if y < x then fk_ev d qX6_setOut 215 L st h else fk_ev d qX6_setOut 195 L st h) ∧
  (∀ (d : Nat) (a1 a2 a3 a4 a5 a6 a7 a8 a9 : Value) (x : Nat) (st : List Value) (h : fk_H), fk_ev d qX6_setOut 195 [.ref x, a1, a2, a3, a4, a5, a6, a7, a8, a9] st h = fk_ev d qX6_setOut 196 [.ref x, a1, a2, a3, a4, a5, a6, a7, a8, a9] (.ref x :: st) h) ∧
  (∀ (d : Nat) (L st : List Value) (N : Nat) (y : Nat → Nat → Int32) (l : Nat → Nat → Int64), fk_ev d qX6_setOut 196 L (.ref 238 :: st) (fk_E N y l) = fk_ev d qX6_setOut 199 L (.ref (y 238 2).toNatClampNeg :: st) (fk_E N y l)) ∧
  (∀ (d : Nat) (a0 a1 a2 a4 a5 a6 a7 a8 a9 : Value) (x : Nat) (st : List Value) (h : fk_H), fk_ev d qX6_setOut 199 [a0, a1, a2, .ref x, a4, a5, a6, a7, a8, a9] st h = fk_ev d qX6_setOut 200 [a0, a1, a2, .ref x, a4, a5, a6, a7, a8, a9] (.ref x :: st) h) ∧
  (∀ (d : Nat) (a0 a1 a2 a3 a4 a6 a7 a8 a9 : Value) (x : Int32) (st : List Value) (h : fk_H), fk_ev d qX6_setOut 200 [a0, a1, a2, a3, a4, .int x, a6, a7, a8, a9] st h = fk_ev d qX6_setOut 202 [a0, a1, a2, a3, a4, .int x, a6, a7, a8, a9] (.int x :: st) h) ∧
  (∀ (d : Nat) (a1 a2 a3 a4 a5 a6 a7 a8 a9 : Value) (x : Nat) (st : List Value) (h : fk_H), fk_ev d qX6_setOut 202 [.ref x, a1, a2, a3, a4, a5, a6, a7, a8, a9] st h = fk_ev d qX6_setOut 203 [.ref x, a1, a2, a3, a4, a5, a6, a7, a8, a9] (.ref x :: st) h) ∧
  (∀ (d : Nat) (L st : List Value) (N : Nat) (y : Nat → Nat → Int32) (l : Nat → Nat → Int64), fk_ev d qX6_setOut 203 L (.ref 238 :: st) (fk_E N y l) = fk_ev d qX6_setOut 206 L (.ref 18 :: st) (fk_E N y l)) ∧
  (∀ (d : Nat) (L st : List Value) (N : Nat) (y : Nat → Nat → Int32) (l : Nat → Nat → Int64), fk_ev d qX6_setOut 206 L (.ref 18 :: st) (fk_E N y l) = fk_ev d qX6_setOut 209 L (.ref 21 :: st) (fk_E N y l)) ∧
  (∀ (d : Nat) (a0 a1 a2 a3 a4 a6 a7 a8 a9 : Value) (x : Int32) (st : List Value) (h : fk_H), fk_ev d qX6_setOut 209 [a0, a1, a2, a3, a4, .int x, a6, a7, a8, a9] st h = fk_ev d qX6_setOut 211 [a0, a1, a2, a3, a4, .int x, a6, a7, a8, a9] (.int x :: st) h) ∧
  (∀ (d : Nat) (L st : List Value) (N : Nat) (y : Nat → Nat → Int32) (l : Nat → Nat → Int64) (i : Nat), i < 32 → fk_ev d qX6_setOut 211 L (.int (nI i) :: .ref 21 :: st) (fk_E N y l) = fk_ev d qX6_setOut 212 L (.int (y 21 i) :: st) (fk_E N y l)) ∧
  (∀ (d : Nat) (L : List Value) (x0 : Nat) (x1 : Int32) (x2 : Int32)  (N : Nat) (y : Nat → Nat → Int32) (l : Nat → Nat → Int64) (c : Nat), fk_at c 8 → fk_ev (d + 1) qX6_setOut 212 L (.int x2 :: .int x1 :: .ref x0 :: .ref c :: []) (fk_E N y l) = (fk_ev d qX8_part 0 [.ref c, .ref x0, .int x1, .int x2, .null] [] (fk_E N y l)).bind fun o => fk_ev (d + 1) qX6_setOut 215 L (o.1.toList ++ []) o.2) ∧
  (∀ (d : Nat) (a0 a1 a2 a3 a5 a6 a7 a8 a9 : Value) (x : Int32) (st : List Value) (h : fk_H), fk_ev d qX6_setOut 215 [a0, a1, a2, a3, .int x, a5, a6, a7, a8, a9] st h = fk_ev d qX6_setOut 217 [a0, a1, a2, a3, .int x, a5, a6, a7, a8, a9] (.int x :: st) h) ∧
  (∀ (d : Nat) (L : List Value) (x : Int32) (st : List Value) (h : fk_H), fk_ev d qX6_setOut 217 L (.int x :: st) h = if x < nI 0 then fk_ev d qX6_setOut 236 L st h else fk_ev d qX6_setOut 220 L st h) ∧
  (∀ (d : Nat) (a0 a1 a2 a4 a5 a6 a7 a8 a9 : Value) (x : Nat) (st : List Value) (h : fk_H), fk_ev d qX6_setOut 220 [a0, a1, a2, .ref x, a4, a5, a6, a7, a8, a9] st h = fk_ev d qX6_setOut 221 [a0, a1, a2, .ref x, a4, a5, a6, a7, a8, a9] (.ref x :: st) h) ∧
  (∀ (d : Nat) (a0 a1 a2 a3 a5 a6 a7 a8 a9 : Value) (x : Int32) (st : List Value) (h : fk_H), fk_ev d qX6_setOut 221 [a0, a1, a2, a3, .int x, a5, a6, a7, a8, a9] st h = fk_ev d qX6_setOut 223 [a0, a1, a2, a3, .int x, a5, a6, a7, a8, a9] (.int x :: st) h) ∧
  (∀ (d : Nat) (a1 a2 a3 a4 a5 a6 a7 a8 a9 : Value) (x : Nat) (st : List Value) (h : fk_H), fk_ev d qX6_setOut 223 [.ref x, a1, a2, a3, a4, a5, a6, a7, a8, a9] st h = fk_ev d qX6_setOut 224 [.ref x, a1, a2, a3, a4, a5, a6, a7, a8, a9] (.ref x :: st) h) ∧
  (∀ (d : Nat) (L st : List Value) (N : Nat) (y : Nat → Nat → Int32) (l : Nat → Nat → Int64), fk_ev d qX6_setOut 224 L (.ref 238 :: st) (fk_E N y l) = fk_ev d qX6_setOut 227 L (.ref 18 :: st) (fk_E N y l)) ∧
  (∀ (d : Nat) (L st : List Value) (N : Nat) (y : Nat → Nat → Int32) (l : Nat → Nat → Int64), fk_ev d qX6_setOut 227 L (.ref 18 :: st) (fk_E N y l) = fk_ev d qX6_setOut 230 L (.ref 21 :: st) (fk_E N y l)) ∧
  (∀ (d : Nat) (a0 a1 a2 a3 a5 a6 a7 a8 a9 : Value) (x : Int32) (st : List Value) (h : fk_H), fk_ev d qX6_setOut 230 [a0, a1, a2, a3, .int x, a5, a6, a7, a8, a9] st h = fk_ev d qX6_setOut 232 [a0, a1, a2, a3, .int x, a5, a6, a7, a8, a9] (.int x :: st) h) ∧
  (∀ (d : Nat) (L st : List Value) (N : Nat) (y : Nat → Nat → Int32) (l : Nat → Nat → Int64) (i : Nat), i < 32 → fk_ev d qX6_setOut 232 L (.int (nI i) :: .ref 21 :: st) (fk_E N y l) = fk_ev d qX6_setOut 233 L (.int (y 21 i) :: st) (fk_E N y l)) ∧
  (∀ (d : Nat) (L : List Value) (x0 : Int32) (x1 : Int32)  (N : Nat) (y : Nat → Nat → Int32) (l : Nat → Nat → Int64) (c : Nat), fk_at c 0 → fk_ev (d + 1) qX6_setOut 233 L (.int x1 :: .int x0 :: .ref c :: []) (fk_E N y l) = (fk_ev d qX0_goOn 0 [.ref c, .int x0, .int x1] [] (fk_E N y l)).bind fun o => fk_ev (d + 1) qX6_setOut 236 L (o.1.toList ++ []) o.2) ∧
  (∀ (d : Nat) (a0 a1 a3 a4 a5 a6 a7 a8 a9 : Value) (x : Int32) (st : List Value) (h : fk_H), fk_ev d qX6_setOut 236 [a0, a1, .int x, a3, a4, a5, a6, a7, a8, a9] st h = fk_ev d qX6_setOut 239 [a0, a1, .int (x + nI 1), a3, a4, a5, a6, a7, a8, a9] st h) ∧
  (∀ (d : Nat) (L st : List Value) (h : fk_H), fk_ev d qX6_setOut 239 L st h = fk_ev d qX6_setOut 10 L st h) ∧
  (∀ (d : Nat) (L : List Value) (h : fk_H), fk_ev d qX6_setOut 242 L [] h = some (none, h)) := ⟨fun d a1 a2 a3 a4 a5 a6 a7 a8 a9 x st h => fk_w_aloadn 0 [.ref x, a1, a2, a3, a4, a5, a6, a7, a8, a9] dX6_setOut_0 rfl,
  fun d L st N y l => fk_g_getM rfl lf_6_32 (by decide) dX6_setOut_1 fk_at_238,
  fun d L st N y l c hc => fk_g_getI rfl lf_6_60 (by decide) dX6_setOut_4 hc,
  fun d a0 a1 a2 a3 a4 a5 a6 a7 a8 a9 x st h => fk_w_istoren 1 10 [] [a0, a1, a2, a3, a4, a5, a6, a7, a8, a9] [a0, .int x, a2, a3, a4, a5, a6, a7, a8, a9] dX6_setOut_7 rfl rfl (by decide) rfl,
  fun d L st h => fk_w_iconst dX6_setOut_8 (by decide),
  fun d a0 a1 a2 a3 a4 a5 a6 a7 a8 a9 x st h => fk_w_istoren 2 10 [] [a0, a1, a2, a3, a4, a5, a6, a7, a8, a9] [a0, a1, .int x, a3, a4, a5, a6, a7, a8, a9] dX6_setOut_9 rfl rfl (by decide) rfl,
  fun d a0 a2 a3 a4 a5 a6 a7 a8 a9 x st h => fk_w_iloadn 1 [a0, .int x, a2, a3, a4, a5, a6, a7, a8, a9] dX6_setOut_11 rfl,
  fun d L x y st h => fk_r_icmp_ge dX6_setOut_12 (by decide),
  fun d a1 a2 a3 a4 a5 a6 a7 a8 a9 x st h => fk_w_aloadn 0 [.ref x, a1, a2, a3, a4, a5, a6, a7, a8, a9] dX6_setOut_15 rfl,
  fun d L st N y l => fk_g_getM rfl lf_6_32 (by decide) dX6_setOut_16 fk_at_238,
  fun d L st N y l c hc => fk_g_getC rfl lf_6_63 (by decide) rfl dX6_setOut_19 hc,
  fun d a0 a1 a3 a4 a5 a6 a7 a8 a9 x st h => fk_w_iloadn 2 [a0, a1, .int x, a3, a4, a5, a6, a7, a8, a9] dX6_setOut_22 rfl,
  fun d L st N y l c i hc hi hl => fk_h_aald dX6_setOut_23 hc hi hl,
  fun d a0 a1 a2 a3 a4 a5 a6 a7 a8 a9 x st h => fk_w_astoren 3 10 [] [a0, a1, a2, a3, a4, a5, a6, a7, a8, a9] [a0, a1, a2, .ref x, a4, a5, a6, a7, a8, a9] dX6_setOut_24 rfl rfl (by decide) rfl,
  fun d a1 a2 a3 a4 a5 a6 a7 a8 a9 x st h => fk_w_aloadn 0 [.ref x, a1, a2, a3, a4, a5, a6, a7, a8, a9] dX6_setOut_25 rfl,
  fun d L st N y l => fk_g_getM rfl lf_6_32 (by decide) dX6_setOut_26 fk_at_238,
  fun d a0 a1 a3 a4 a5 a6 a7 a8 a9 x st h => fk_w_iloadn 2 [a0, a1, .int x, a3, a4, a5, a6, a7, a8, a9] dX6_setOut_29 rfl,
  fun d L x0 N y l c hc => fk_g_call [.int x0] [] rfl lm_6_104 dX6_setOut_30 rfl ⟨rfl, by decide⟩ (by simp) hc,
  fun d L x st h => fk_r_if_eq dX6_setOut_33 (by decide),
  fun d a0 a1 a2 a4 a5 a6 a7 a8 a9 x st h => fk_w_aloadn 3 [a0, a1, a2, .ref x, a4, a5, a6, a7, a8, a9] dX6_setOut_36 rfl,
  fun d L st N y l c hc => fk_g_getI rfl lf_6_101 (by decide) dX6_setOut_37 hc,
  fun d L x st h => fk_r_if_le dX6_setOut_40 (by decide),
  fun d L st h => fk_r_goto dX6_setOut_43 (by decide),
  fun d L st h => fk_w_iconst dX6_setOut_46 (by decide),
  fun d a0 a1 a2 a3 a4 a5 a6 a7 a8 a9 x st h => fk_w_istore 4 10 [] [a0, a1, a2, a3, a4, a5, a6, a7, a8, a9] [a0, a1, a2, a3, .int x, a5, a6, a7, a8, a9] dX6_setOut_47 rfl rfl (by decide) rfl,
  fun d L st h => fk_w_iconst dX6_setOut_49 (by decide),
  fun d a0 a1 a2 a3 a4 a5 a6 a7 a8 a9 x st h => fk_w_istore 5 10 [] [a0, a1, a2, a3, a4, a5, a6, a7, a8, a9] [a0, a1, a2, a3, a4, .int x, a6, a7, a8, a9] dX6_setOut_50 rfl rfl (by decide) rfl,
  fun d L st h => fk_w_iconst dX6_setOut_52 (by decide),
  fun d a0 a1 a2 a3 a4 a5 a6 a7 a8 a9 x st h => fk_w_istore 6 10 [] [a0, a1, a2, a3, a4, a5, a6, a7, a8, a9] [a0, a1, a2, a3, a4, a5, .int x, a7, a8, a9] dX6_setOut_53 rfl rfl (by decide) rfl,
  fun d L st h => fk_w_iconst dX6_setOut_55 (by decide),
  fun d a0 a1 a2 a3 a4 a5 a6 a7 a8 a9 x st h => fk_w_istore 7 10 [] [a0, a1, a2, a3, a4, a5, a6, a7, a8, a9] [a0, a1, a2, a3, a4, a5, a6, .int x, a8, a9] dX6_setOut_56 rfl rfl (by decide) rfl,
  fun d L st h => fk_w_iconst dX6_setOut_58 (by decide),
  fun d a0 a1 a2 a3 a4 a5 a6 a7 a8 a9 x st h => fk_w_istore 8 10 [] [a0, a1, a2, a3, a4, a5, a6, a7, a8, a9] [a0, a1, a2, a3, a4, a5, a6, a7, .int x, a9] dX6_setOut_59 rfl rfl (by decide) rfl,
  fun d L st h => fk_w_bipush dX6_setOut_63 (by decide),
  fun d L x y st h => fk_r_icmp_ge dX6_setOut_65 (by decide),
  fun d a1 a2 a3 a4 a5 a6 a7 a8 a9 x st h => fk_w_aloadn 0 [.ref x, a1, a2, a3, a4, a5, a6, a7, a8, a9] dX6_setOut_68 rfl,
  fun d L st N y l => fk_g_getC rfl lf_6_28 (by decide) rfl dX6_setOut_69 fk_at_238,
  fun d L st N y l => fk_g_getC rfl lf_6_159 (by decide) rfl dX6_setOut_72 fk_at_18,
  fun d a0 a1 a2 a3 a4 a5 a6 a7 a9 x st h => fk_w_iload 8 [a0, a1, a2, a3, a4, a5, a6, a7, .int x, a9] dX6_setOut_75 rfl,
  fun d L st N y l i hi => fk_g_iald fk_at_19 fk_ln_19 (by decide) dX6_setOut_77 hi,
  fun d a0 a1 a2 a4 a5 a6 a7 a8 a9 x st h => fk_w_aloadn 3 [a0, a1, a2, .ref x, a4, a5, a6, a7, a8, a9] dX6_setOut_78 rfl,
  fun d L st N y l c hc => fk_g_getI rfl lf_6_98 (by decide) dX6_setOut_79 hc,
  fun d L x y st h => fk_r_icmp_ne dX6_setOut_82 (by decide),
  fun d a1 a2 a3 a4 a5 a6 a7 a8 a9 x st h => fk_w_aloadn 0 [.ref x, a1, a2, a3, a4, a5, a6, a7, a8, a9] dX6_setOut_85 rfl,
  fun d a0 a1 a2 a4 a5 a6 a7 a8 a9 x st h => fk_w_aloadn 3 [a0, a1, a2, .ref x, a4, a5, a6, a7, a8, a9] dX6_setOut_86 rfl,
  fun d a0 a1 a2 a3 a4 a5 a6 a7 a9 x st h => fk_w_iload 8 [a0, a1, a2, a3, a4, a5, a6, a7, .int x, a9] dX6_setOut_87 rfl,
  fun d L x0 x1 N y l  => fk_g_call [.ref x0, .int x1] [] rfl lm_6_162 dX6_setOut_89 rfl ⟨rfl, by decide⟩ (by simp) fk_at_238,
  fun d L st h => fk_r_goto dX6_setOut_92 (by decide),
  fun d L st h => fk_w_iconst dX6_setOut_95 (by decide),
  fun d a0 a1 a2 a3 a4 a5 a6 a7 a8 a9 x st h => fk_w_istore 9 10 [] [a0, a1, a2, a3, a4, a5, a6, a7, a8, a9] [a0, a1, a2, a3, a4, a5, a6, a7, a8, .int x] dX6_setOut_96 rfl rfl (by decide) rfl,
  fun d a0 a1 a2 a3 a4 a5 a6 a7 a8 x st h => fk_w_iload 9 [a0, a1, a2, a3, a4, a5, a6, a7, a8, .int x] dX6_setOut_98 rfl,
  fun d a0 a1 a2 a3 a4 a5 a7 a8 a9 x st h => fk_w_iload 6 [a0, a1, a2, a3, a4, a5, .int x, a7, a8, a9] dX6_setOut_100 rfl,
  fun d L x y st h => fk_r_icmp_le dX6_setOut_102 (by decide),
  fun d a0 a1 a2 a3 a5 a6 a7 a8 a9 x st h => fk_w_iload 4 [a0, a1, a2, a3, .int x, a5, a6, a7, a8, a9] dX6_setOut_105 rfl,
  fun d a0 a1 a2 a3 a4 a5 a6 a7 a8 a9 x st h => fk_w_istore 5 10 [] [a0, a1, a2, a3, a4, a5, a6, a7, a8, a9] [a0, a1, a2, a3, a4, .int x, a6, a7, a8, a9] dX6_setOut_107 rfl rfl (by decide) rfl,
  fun d a0 a1 a2 a3 a4 a5 a7 a8 a9 x st h => fk_w_iload 6 [a0, a1, a2, a3, a4, a5, .int x, a7, a8, a9] dX6_setOut_109 rfl,
  fun d a0 a1 a2 a3 a4 a5 a6 a7 a8 a9 x st h => fk_w_istore 7 10 [] [a0, a1, a2, a3, a4, a5, a6, a7, a8, a9] [a0, a1, a2, a3, a4, a5, a6, .int x, a8, a9] dX6_setOut_111 rfl rfl (by decide) rfl,
  fun d a0 a1 a2 a3 a4 a5 a6 a7 a9 x st h => fk_w_iload 8 [a0, a1, a2, a3, a4, a5, a6, a7, .int x, a9] dX6_setOut_113 rfl,
  fun d a0 a1 a2 a3 a4 a5 a6 a7 a8 a9 x st h => fk_w_istore 4 10 [] [a0, a1, a2, a3, a4, a5, a6, a7, a8, a9] [a0, a1, a2, a3, .int x, a5, a6, a7, a8, a9] dX6_setOut_115 rfl rfl (by decide) rfl,
  fun d a0 a1 a2 a3 a4 a5 a6 a7 a8 x st h => fk_w_iload 9 [a0, a1, a2, a3, a4, a5, a6, a7, a8, .int x] dX6_setOut_117 rfl,
  fun d a0 a1 a2 a3 a4 a5 a6 a7 a8 a9 x st h => fk_w_istore 6 10 [] [a0, a1, a2, a3, a4, a5, a6, a7, a8, a9] [a0, a1, a2, a3, a4, a5, .int x, a7, a8, a9] dX6_setOut_119 rfl rfl (by decide) rfl,
  fun d L st h => fk_r_goto dX6_setOut_121 (by decide),
  fun d a0 a1 a2 a3 a4 a5 a6 a7 a8 x st h => fk_w_iload 9 [a0, a1, a2, a3, a4, a5, a6, a7, a8, .int x] dX6_setOut_124 rfl,
  fun d a0 a1 a2 a3 a4 a5 a6 a8 a9 x st h => fk_w_iload 7 [a0, a1, a2, a3, a4, a5, a6, .int x, a8, a9] dX6_setOut_126 rfl,
  fun d L x y st h => fk_r_icmp_le dX6_setOut_128 (by decide),
  fun d a0 a1 a2 a3 a4 a5 a6 a7 a9 x st h => fk_w_iload 8 [a0, a1, a2, a3, a4, a5, a6, a7, .int x, a9] dX6_setOut_131 rfl,
  fun d a0 a1 a2 a3 a4 a5 a6 a7 a8 a9 x st h => fk_w_istore 5 10 [] [a0, a1, a2, a3, a4, a5, a6, a7, a8, a9] [a0, a1, a2, a3, a4, .int x, a6, a7, a8, a9] dX6_setOut_133 rfl rfl (by decide) rfl,
  fun d a0 a1 a2 a3 a4 a5 a6 a7 a8 x st h => fk_w_iload 9 [a0, a1, a2, a3, a4, a5, a6, a7, a8, .int x] dX6_setOut_135 rfl,
  fun d a0 a1 a2 a3 a4 a5 a6 a7 a8 a9 x st h => fk_w_istore 7 10 [] [a0, a1, a2, a3, a4, a5, a6, a7, a8, a9] [a0, a1, a2, a3, a4, a5, a6, .int x, a8, a9] dX6_setOut_137 rfl rfl (by decide) rfl,
  fun d a0 a1 a2 a3 a4 a5 a6 a7 a9 x st h => fk_w_iinc 8 10 (1) [] [a0, a1, a2, a3, a4, a5, a6, a7, .int x, a9] [a0, a1, a2, a3, a4, a5, a6, a7, .int (x + nI 1), a9] dX6_setOut_139 rfl rfl rfl (by decide) rfl,
  fun d L st h => fk_r_goto dX6_setOut_142 (by decide),
  fun d a0 a1 a2 a3 a4 a6 a7 a8 a9 x st h => fk_w_iload 5 [a0, a1, a2, a3, a4, .int x, a6, a7, a8, a9] dX6_setOut_145 rfl,
  fun d L x st h => fk_r_if_lt dX6_setOut_147 (by decide),
  fun d a1 a2 a3 a4 a5 a6 a7 a8 a9 x st h => fk_w_aloadn 0 [.ref x, a1, a2, a3, a4, a5, a6, a7, a8, a9] dX6_setOut_150 rfl,
  fun d L st N y l => fk_g_getM rfl lf_6_32 (by decide) dX6_setOut_151 fk_at_238,
  fun d L st N y l c hc => fk_g_getI rfl lf_6_60 (by decide) dX6_setOut_154 hc,
  fun d L st h => fk_w_bipush dX6_setOut_157 (by decide),
  fun d L x y st h => fk_r_icmp_ge dX6_setOut_159 (by decide),
  fun d a0 a1 a2 a4 a5 a6 a7 a8 a9 x st h => fk_w_aloadn 3 [a0, a1, a2, .ref x, a4, a5, a6, a7, a8, a9] dX6_setOut_162 rfl,
  fun d L st N y l c hc => fk_g_getI rfl lf_6_166 (by decide) dX6_setOut_163 hc,
  fun d L st h => fk_w_iconst dX6_setOut_166 (by decide),
  fun d L x y st h => fk_r_icmp_le dX6_setOut_167 (by decide),
  fun d L st h => fk_w_iconst dX6_setOut_170 (by decide),
  fun d L st h => fk_r_goto dX6_setOut_171 (by decide),
  fun d L st h => fk_w_iconst dX6_setOut_174 (by decide),
  fun d a0 a1 a2 a3 a4 a5 a6 a7 a8 a9 x st h => fk_w_istore 8 10 [] [a0, a1, a2, a3, a4, a5, a6, a7, a8, a9] [a0, a1, a2, a3, a4, a5, a6, a7, .int x, a9] dX6_setOut_175 rfl rfl (by decide) rfl,
  fun d a0 a1 a2 a3 a4 a5 a6 a7 a9 x st h => fk_w_iload 8 [a0, a1, a2, a3, a4, a5, a6, a7, .int x, a9] dX6_setOut_177 rfl,
  fun d L x st h => fk_r_if_eq dX6_setOut_179 (by decide),
  fun d a0 a1 a2 a3 a4 a5 a7 a8 a9 x st h => fk_w_iload 6 [a0, a1, a2, a3, a4, a5, .int x, a7, a8, a9] dX6_setOut_182 rfl,
  fun d a0 a1 a2 a3 a4 a5 a6 a8 a9 x st h => fk_w_iload 7 [a0, a1, a2, a3, a4, a5, a6, .int x, a8, a9] dX6_setOut_184 rfl,
  fun d L x y st h => fk_r_isub dX6_setOut_186,
  fun d a1 a2 a3 a4 a5 a6 a7 a8 a9 x st h => fk_w_aloadn 0 [.ref x, a1, a2, a3, a4, a5, a6, a7, a8, a9] dX6_setOut_187 rfl,
  fun d a0 a1 a2 a4 a5 a6 a7 a8 a9 x st h => fk_w_aloadn 3 [a0, a1, a2, .ref x, a4, a5, a6, a7, a8, a9] dX6_setOut_188 rfl,
  fun d L x0 w0 N y l  => fk_g_call [.ref x0] [w0] rfl lm_6_169 dX6_setOut_189 rfl ⟨rfl, by decide⟩ (by simp) fk_at_238,
  fun d L x y st h => fk_r_icmp_gt dX6_setOut_192 (by decide),
  fun d a1 a2 a3 a4 a5 a6 a7 a8 a9 x st h => fk_w_aloadn 0 [.ref x, a1, a2, a3, a4, a5, a6, a7, a8, a9] dX6_setOut_195 rfl,
  fun d L st N y l => fk_g_getM rfl lf_6_32 (by decide) dX6_setOut_196 fk_at_238,
  fun d a0 a1 a2 a4 a5 a6 a7 a8 a9 x st h => fk_w_aloadn 3 [a0, a1, a2, .ref x, a4, a5, a6, a7, a8, a9] dX6_setOut_199 rfl,
  fun d a0 a1 a2 a3 a4 a6 a7 a8 a9 x st h => fk_w_iload 5 [a0, a1, a2, a3, a4, .int x, a6, a7, a8, a9] dX6_setOut_200 rfl,
  fun d a1 a2 a3 a4 a5 a6 a7 a8 a9 x st h => fk_w_aloadn 0 [.ref x, a1, a2, a3, a4, a5, a6, a7, a8, a9] dX6_setOut_202 rfl,
  fun d L st N y l => fk_g_getC rfl lf_6_28 (by decide) rfl dX6_setOut_203 fk_at_238,
  fun d L st N y l => fk_g_getC rfl lf_6_172 (by decide) rfl dX6_setOut_206 fk_at_18,
  fun d a0 a1 a2 a3 a4 a6 a7 a8 a9 x st h => fk_w_iload 5 [a0, a1, a2, a3, a4, .int x, a6, a7, a8, a9] dX6_setOut_209 rfl,
  fun d L st N y l i hi => fk_g_iald fk_at_21 fk_ln_21 (by decide) dX6_setOut_211 hi,
  fun d L x0 x1 x2 N y l c hc => fk_g_call [.ref x0, .int x1, .int x2] [] rfl lm_6_175 dX6_setOut_212 rfl ⟨rfl, by decide⟩ (by simp) hc,
  fun d a0 a1 a2 a3 a5 a6 a7 a8 a9 x st h => fk_w_iload 4 [a0, a1, a2, a3, .int x, a5, a6, a7, a8, a9] dX6_setOut_215 rfl,
  fun d L x st h => fk_r_if_lt dX6_setOut_217 (by decide),
  fun d a0 a1 a2 a4 a5 a6 a7 a8 a9 x st h => fk_w_aloadn 3 [a0, a1, a2, .ref x, a4, a5, a6, a7, a8, a9] dX6_setOut_220 rfl,
  fun d a0 a1 a2 a3 a5 a6 a7 a8 a9 x st h => fk_w_iload 4 [a0, a1, a2, a3, .int x, a5, a6, a7, a8, a9] dX6_setOut_221 rfl,
  fun d a1 a2 a3 a4 a5 a6 a7 a8 a9 x st h => fk_w_aloadn 0 [.ref x, a1, a2, a3, a4, a5, a6, a7, a8, a9] dX6_setOut_223 rfl,
  fun d L st N y l => fk_g_getC rfl lf_6_28 (by decide) rfl dX6_setOut_224 fk_at_238,
  fun d L st N y l => fk_g_getC rfl lf_6_172 (by decide) rfl dX6_setOut_227 fk_at_18,
  fun d a0 a1 a2 a3 a5 a6 a7 a8 a9 x st h => fk_w_iload 4 [a0, a1, a2, a3, .int x, a5, a6, a7, a8, a9] dX6_setOut_230 rfl,
  fun d L st N y l i hi => fk_g_iald fk_at_21 fk_ln_21 (by decide) dX6_setOut_232 hi,
  fun d L x0 x1 N y l c hc => fk_g_call [.int x0, .int x1] [] rfl lm_6_179 dX6_setOut_233 rfl ⟨rfl, by decide⟩ (by simp) hc,
  fun d a0 a1 a3 a4 a5 a6 a7 a8 a9 x st h => fk_w_iinc 2 10 (1) [] [a0, a1, .int x, a3, a4, a5, a6, a7, a8, a9] [a0, a1, .int (x + nI 1), a3, a4, a5, a6, a7, a8, a9] dX6_setOut_236 rfl rfl rfl (by decide) rfl,
  fun d L st h => fk_r_goto dX6_setOut_239 (by decide),
  fun d L h => fk_r_vret dX6_setOut_242 rfl⟩
theorem hX6_setOut_10 : ∀ (d : Nat) (a0 a1 a3 a4 a5 a6 a7 a8 a9 : Value) (x : Int32) (st : List Value) (h : fk_H), fk_ev d qX6_setOut 10 [a0, a1, .int x, a3, a4, a5, a6, a7, a8, a9] st h = fk_ev d qX6_setOut 11 [a0, a1, .int x, a3, a4, a5, a6, a7, a8, a9] (.int x :: st) h := fun d a0 a1 a3 a4 a5 a6 a7 a8 a9 x st h => fk_w_iloadn 2 [a0, a1, .int x, a3, a4, a5, a6, a7, a8, a9] dX6_setOut_10 rfl
theorem hX6_setOut_61 : ∀ (d : Nat) (a0 a1 a2 a3 a4 a5 a6 a7 a9 : Value) (x : Int32) (st : List Value) (h : fk_H), fk_ev d qX6_setOut 61 [a0, a1, a2, a3, a4, a5, a6, a7, .int x, a9] st h = fk_ev d qX6_setOut 63 [a0, a1, a2, a3, a4, a5, a6, a7, .int x, a9] (.int x :: st) h := fun d a0 a1 a2 a3 a4 a5 a6 a7 a9 x st h => fk_w_iload 8 [a0, a1, a2, a3, a4, a5, a6, a7, .int x, a9] dX6_setOut_61 rfl
theorem dX6_speakOf_0 : decode cX6_speakOf 0 = .ok (.aload_n 0, 1) := by decide +kernel
theorem dX6_speakOf_1 : decode cX6_speakOf 1 = .ok (.getfield 9, 3) := by decide +kernel
theorem dX6_speakOf_4 : decode cX6_speakOf 4 = .ok (.bipush 7, 2) := by decide +kernel
theorem dX6_speakOf_6 : decode cX6_speakOf 6 = .ok (.aload_n 0, 1) := by decide +kernel
theorem dX6_speakOf_7 : decode cX6_speakOf 7 = .ok (.getfield 32, 3) := by decide +kernel
theorem dX6_speakOf_10 : decode cX6_speakOf 10 = .ok (.getfield 55, 3) := by decide +kernel
theorem dX6_speakOf_13 : decode cX6_speakOf 13 = .ok (.iastore, 1) := by decide +kernel
theorem dX6_speakOf_14 : decode cX6_speakOf 14 = .ok (.aload_n 0, 1) := by decide +kernel
theorem dX6_speakOf_15 : decode cX6_speakOf 15 = .ok (.getfield 9, 3) := by decide +kernel
theorem dX6_speakOf_18 : decode cX6_speakOf 18 = .ok (.bipush 8, 2) := by decide +kernel
theorem dX6_speakOf_20 : decode cX6_speakOf 20 = .ok (.aload_n 1, 1) := by decide +kernel
theorem dX6_speakOf_21 : decode cX6_speakOf 21 = .ok (.getfield 95, 3) := by decide +kernel
theorem dX6_speakOf_24 : decode cX6_speakOf 24 = .ok (.iastore, 1) := by decide +kernel
theorem dX6_speakOf_25 : decode cX6_speakOf 25 = .ok (.aload_n 0, 1) := by decide +kernel
theorem dX6_speakOf_26 : decode cX6_speakOf 26 = .ok (.getfield 9, 3) := by decide +kernel
theorem dX6_speakOf_29 : decode cX6_speakOf 29 = .ok (.bipush 9, 2) := by decide +kernel
theorem dX6_speakOf_31 : decode cX6_speakOf 31 = .ok (.aload_n 1, 1) := by decide +kernel
theorem dX6_speakOf_32 : decode cX6_speakOf 32 = .ok (.getfield 183, 3) := by decide +kernel
theorem dX6_speakOf_35 : decode cX6_speakOf 35 = .ok (.iastore, 1) := by decide +kernel
theorem dX6_speakOf_36 : decode cX6_speakOf 36 = .ok (.aload_n 0, 1) := by decide +kernel
theorem dX6_speakOf_37 : decode cX6_speakOf 37 = .ok (.getfield 9, 3) := by decide +kernel
theorem dX6_speakOf_40 : decode cX6_speakOf 40 = .ok (.bipush 25, 2) := by decide +kernel
theorem dX6_speakOf_42 : decode cX6_speakOf 42 = .ok (.aload_n 1, 1) := by decide +kernel
theorem dX6_speakOf_43 : decode cX6_speakOf 43 = .ok (.getfield 166, 3) := by decide +kernel
theorem dX6_speakOf_46 : decode cX6_speakOf 46 = .ok (.iastore, 1) := by decide +kernel
theorem dX6_speakOf_47 : decode cX6_speakOf 47 = .ok (.aload_n 0, 1) := by decide +kernel
theorem dX6_speakOf_48 : decode cX6_speakOf 48 = .ok (.getfield 9, 3) := by decide +kernel
theorem dX6_speakOf_51 : decode cX6_speakOf 51 = .ok (.bipush 15, 2) := by decide +kernel
theorem dX6_speakOf_53 : decode cX6_speakOf 53 = .ok (.aload_n 1, 1) := by decide +kernel
theorem dX6_speakOf_54 : decode cX6_speakOf 54 = .ok (.getfield 98, 3) := by decide +kernel
theorem dX6_speakOf_57 : decode cX6_speakOf 57 = .ok (.iconst 0, 1) := by decide +kernel
theorem dX6_speakOf_58 : decode cX6_speakOf 58 = .ok (.invokestatic 149, 3) := by decide +kernel
theorem dX6_speakOf_61 : decode cX6_speakOf 61 = .ok (.iastore, 1) := by decide +kernel
theorem dX6_speakOf_62 : decode cX6_speakOf 62 = .ok (.aload_n 0, 1) := by decide +kernel
theorem dX6_speakOf_63 : decode cX6_speakOf 63 = .ok (.getfield 9, 3) := by decide +kernel
theorem dX6_speakOf_66 : decode cX6_speakOf 66 = .ok (.bipush 13, 2) := by decide +kernel
theorem dX6_speakOf_68 : decode cX6_speakOf 68 = .ok (.aload_n 0, 1) := by decide +kernel
theorem dX6_speakOf_69 : decode cX6_speakOf 69 = .ok (.getfield 32, 3) := by decide +kernel
theorem dX6_speakOf_72 : decode cX6_speakOf 72 = .ok (.getfield 186, 3) := by decide +kernel
theorem dX6_speakOf_75 : decode cX6_speakOf 75 = .ok (.aload_n 1, 1) := by decide +kernel
theorem dX6_speakOf_76 : decode cX6_speakOf 76 = .ok (.getfield 95, 3) := by decide +kernel
theorem dX6_speakOf_79 : decode cX6_speakOf 79 = .ok (.iaload, 1) := by decide +kernel
theorem dX6_speakOf_80 : decode cX6_speakOf 80 = .ok (.iastore, 1) := by decide +kernel
theorem dX6_speakOf_81 : decode cX6_speakOf 81 = .ok (.aload_n 0, 1) := by decide +kernel
theorem dX6_speakOf_82 : decode cX6_speakOf 82 = .ok (.getfield 9, 3) := by decide +kernel
theorem dX6_speakOf_85 : decode cX6_speakOf 85 = .ok (.bipush 12, 2) := by decide +kernel
theorem dX6_speakOf_87 : decode cX6_speakOf 87 = .ok (.aload_n 1, 1) := by decide +kernel
theorem dX6_speakOf_88 : decode cX6_speakOf 88 = .ok (.getfield 189, 3) := by decide +kernel
theorem dX6_speakOf_91 : decode cX6_speakOf 91 = .ok (.invokestatic 192, 3) := by decide +kernel
theorem dX6_speakOf_94 : decode cX6_speakOf 94 = .ok (.iastore, 1) := by decide +kernel
theorem dX6_speakOf_95 : decode cX6_speakOf 95 = .ok (.aload_n 0, 1) := by decide +kernel
theorem dX6_speakOf_96 : decode cX6_speakOf 96 = .ok (.getfield 9, 3) := by decide +kernel
theorem dX6_speakOf_99 : decode cX6_speakOf 99 = .ok (.bipush 14, 2) := by decide +kernel
theorem dX6_speakOf_101 : decode cX6_speakOf 101 = .ok (.aload_n 1, 1) := by decide +kernel
theorem dX6_speakOf_102 : decode cX6_speakOf 102 = .ok (.getfield 134, 3) := by decide +kernel
theorem dX6_speakOf_105 : decode cX6_speakOf 105 = .ok (.iastore, 1) := by decide +kernel
theorem dX6_speakOf_106 : decode cX6_speakOf 106 = .ok (.aload_n 0, 1) := by decide +kernel
theorem dX6_speakOf_107 : decode cX6_speakOf 107 = .ok (.getfield 9, 3) := by decide +kernel
theorem dX6_speakOf_110 : decode cX6_speakOf 110 = .ok (.bipush 10, 2) := by decide +kernel
theorem dX6_speakOf_112 : decode cX6_speakOf 112 = .ok (.aload_n 0, 1) := by decide +kernel
theorem dX6_speakOf_113 : decode cX6_speakOf 113 = .ok (.getfield 32, 3) := by decide +kernel
theorem dX6_speakOf_116 : decode cX6_speakOf 116 = .ok (.getfield 55, 3) := by decide +kernel
theorem dX6_speakOf_119 : decode cX6_speakOf 119 = .ok (.aload_n 1, 1) := by decide +kernel
theorem dX6_speakOf_120 : decode cX6_speakOf 120 = .ok (.getfield 198, 3) := by decide +kernel
theorem dX6_speakOf_123 : decode cX6_speakOf 123 = .ok (.isub, 1) := by decide +kernel
theorem dX6_speakOf_124 : decode cX6_speakOf 124 = .ok (.iastore, 1) := by decide +kernel
theorem dX6_speakOf_125 : decode cX6_speakOf 125 = .ok (.aload_n 0, 1) := by decide +kernel
theorem dX6_speakOf_126 : decode cX6_speakOf 126 = .ok (.getfield 9, 3) := by decide +kernel
theorem dX6_speakOf_129 : decode cX6_speakOf 129 = .ok (.bipush 17, 2) := by decide +kernel
theorem dX6_speakOf_131 : decode cX6_speakOf 131 = .ok (.iconst 0, 1) := by decide +kernel
theorem dX6_speakOf_132 : decode cX6_speakOf 132 = .ok (.iastore, 1) := by decide +kernel
theorem dX6_speakOf_133 : decode cX6_speakOf 133 = .ok (.aload_n 0, 1) := by decide +kernel
theorem dX6_speakOf_134 : decode cX6_speakOf 134 = .ok (.getfield 9, 3) := by decide +kernel
theorem dX6_speakOf_137 : decode cX6_speakOf 137 = .ok (.bipush 16, 2) := by decide +kernel
theorem dX6_speakOf_139 : decode cX6_speakOf 139 = .ok (.iconst 0, 1) := by decide +kernel
theorem dX6_speakOf_140 : decode cX6_speakOf 140 = .ok (.iastore, 1) := by decide +kernel
theorem dX6_speakOf_141 : decode cX6_speakOf 141 = .ok (.aload_n 0, 1) := by decide +kernel
theorem dX6_speakOf_142 : decode cX6_speakOf 142 = .ok (.getfield 9, 3) := by decide +kernel
theorem dX6_speakOf_145 : decode cX6_speakOf 145 = .ok (.bipush 11, 2) := by decide +kernel
theorem dX6_speakOf_147 : decode cX6_speakOf 147 = .ok (.iconst 0, 1) := by decide +kernel
theorem dX6_speakOf_148 : decode cX6_speakOf 148 = .ok (.iastore, 1) := by decide +kernel
theorem dX6_speakOf_149 : decode cX6_speakOf 149 = .ok (.aload_n 0, 1) := by decide +kernel
theorem dX6_speakOf_150 : decode cX6_speakOf 150 = .ok (.getfield 9, 3) := by decide +kernel
theorem dX6_speakOf_153 : decode cX6_speakOf 153 = .ok (.iconst 5, 1) := by decide +kernel
theorem dX6_speakOf_154 : decode cX6_speakOf 154 = .ok (.iconst 0, 1) := by decide +kernel
theorem dX6_speakOf_155 : decode cX6_speakOf 155 = .ok (.iastore, 1) := by decide +kernel
theorem dX6_speakOf_156 : decode cX6_speakOf 156 = .ok (.aload_n 0, 1) := by decide +kernel
theorem dX6_speakOf_157 : decode cX6_speakOf 157 = .ok (.getfield 9, 3) := by decide +kernel
theorem dX6_speakOf_160 : decode cX6_speakOf 160 = .ok (.bipush 24, 2) := by decide +kernel
theorem dX6_speakOf_162 : decode cX6_speakOf 162 = .ok (.iconst 0, 1) := by decide +kernel
theorem dX6_speakOf_163 : decode cX6_speakOf 163 = .ok (.iastore, 1) := by decide +kernel
theorem dX6_speakOf_164 : decode cX6_speakOf 164 = .ok (.return_, 1) := by decide +kernel
theorem rX6_speakOf : (∀ (d : Nat) (a1 : Value) (x : Nat) (st : List Value) (h : fk_H), fk_ev d qX6_speakOf 0 [.ref x, a1] st h = fk_ev d qX6_speakOf 1 [.ref x, a1] (.ref x :: st) h) ∧
  (∀ (d : Nat) (L st : List Value) (N : Nat) (y : Nat → Nat → Int32) (l : Nat → Nat → Int64), fk_ev d qX6_speakOf 1 L (.ref 238 :: st) (fk_E N y l) = fk_ev d qX6_speakOf 4 L (.ref 239 :: st) (fk_E N y l)) ∧
  (∀ (d : Nat) (L st : List Value) (h : fk_H), fk_ev d qX6_speakOf 4 L st h = fk_ev d qX6_speakOf 6 L (.int (nI 7) :: st) h) ∧
  (∀ (d : Nat) (a1 : Value) (x : Nat) (st : List Value) (h : fk_H), fk_ev d qX6_speakOf 6 [.ref x, a1] st h = fk_ev d qX6_speakOf 7 [.ref x, a1] (.ref x :: st) h) ∧
  (∀ (d : Nat) (L st : List Value) (N : Nat) (y : Nat → Nat → Int32) (l : Nat → Nat → Int64), fk_ev d qX6_speakOf 7 L (.ref 238 :: st) (fk_E N y l) = fk_ev d qX6_speakOf 10 L (.ref (y 238 2).toNatClampNeg :: st) (fk_E N y l)) ∧
  (∀ (d : Nat) (L st : List Value) (N : Nat) (y : Nat → Nat → Int32) (l : Nat → Nat → Int64) (c : Nat), fk_at c 8 → fk_ev d qX6_speakOf 10 L (.ref c :: st) (fk_E N y l) = fk_ev d qX6_speakOf 13 L (.int (y c 3) :: st) (fk_E N y l)) ∧
  (∀ (d : Nat) (L st : List Value) (N : Nat) (y : Nat → Nat → Int32) (l : Nat → Nat → Int64) (i : Nat) (v : Int32), i < 26 → fk_ev d qX6_speakOf 13 L (.int v :: .int (nI i) :: .ref 239 :: st) (fk_E N y l) = fk_ev d qX6_speakOf 14 L st (fk_E N (fk_u y 239 i v) l)) ∧
  (∀ (d : Nat) (a1 : Value) (x : Nat) (st : List Value) (h : fk_H), fk_ev d qX6_speakOf 14 [.ref x, a1] st h = fk_ev d qX6_speakOf 15 [.ref x, a1] (.ref x :: st) h) ∧
  (∀ (d : Nat) (L st : List Value) (N : Nat) (y : Nat → Nat → Int32) (l : Nat → Nat → Int64), fk_ev d qX6_speakOf 15 L (.ref 238 :: st) (fk_E N y l) = fk_ev d qX6_speakOf 18 L (.ref 239 :: st) (fk_E N y l)) ∧
  (∀ (d : Nat) (L st : List Value) (h : fk_H), fk_ev d qX6_speakOf 18 L st h = fk_ev d qX6_speakOf 20 L (.int (nI 8) :: st) h) ∧
  (∀ (d : Nat) (a0 : Value) (x : Nat) (st : List Value) (h : fk_H), fk_ev d qX6_speakOf 20 [a0, .ref x] st h = fk_ev d qX6_speakOf 21 [a0, .ref x] (.ref x :: st) h) ∧
  (∀ (d : Nat) (L st : List Value) (N : Nat) (y : Nat → Nat → Int32) (l : Nat → Nat → Int64) (c : Nat), fk_at c 0 → fk_ev d qX6_speakOf 21 L (.ref c :: st) (fk_E N y l) = fk_ev d qX6_speakOf 24 L (.int (y c 1) :: st) (fk_E N y l)) ∧
  (∀ (d : Nat) (L st : List Value) (N : Nat) (y : Nat → Nat → Int32) (l : Nat → Nat → Int64) (i : Nat) (v : Int32), i < 26 → fk_ev d qX6_speakOf 24 L (.int v :: .int (nI i) :: .ref 239 :: st) (fk_E N y l) = fk_ev d qX6_speakOf 25 L st (fk_E N (fk_u y 239 i v) l)) ∧
  (∀ (d : Nat) (a1 : Value) (x : Nat) (st : List Value) (h : fk_H), fk_ev d qX6_speakOf 25 [.ref x, a1] st h = fk_ev d qX6_speakOf 26 [.ref x, a1] (.ref x :: st) h) ∧
  (∀ (d : Nat) (L st : List Value) (N : Nat) (y : Nat → Nat → Int32) (l : Nat → Nat → Int64), fk_ev d qX6_speakOf 26 L (.ref 238 :: st) (fk_E N y l) = fk_ev d qX6_speakOf 29 L (.ref 239 :: st) (fk_E N y l)) ∧
  (∀ (d : Nat) (L st : List Value) (h : fk_H), fk_ev d qX6_speakOf 29 L st h = fk_ev d qX6_speakOf 31 L (.int (nI 9) :: st) h) ∧
  (∀ (d : Nat) (a0 : Value) (x : Nat) (st : List Value) (h : fk_H), fk_ev d qX6_speakOf 31 [a0, .ref x] st h = fk_ev d qX6_speakOf 32 [a0, .ref x] (.ref x :: st) h) ∧
  (∀ (d : Nat) (L st : List Value) (N : Nat) (y : Nat → Nat → Int32) (l : Nat → Nat → Int64) (c : Nat), fk_at c 0 → fk_ev d qX6_speakOf 32 L (.ref c :: st) (fk_E N y l) = fk_ev d qX6_speakOf 35 L (.int (y c 0) :: st) (fk_E N y l)) ∧
  (∀ (d : Nat) (L st : List Value) (N : Nat) (y : Nat → Nat → Int32) (l : Nat → Nat → Int64) (i : Nat) (v : Int32), i < 26 → fk_ev d qX6_speakOf 35 L (.int v :: .int (nI i) :: .ref 239 :: st) (fk_E N y l) = fk_ev d qX6_speakOf 36 L st (fk_E N (fk_u y 239 i v) l)) ∧
  (∀ (d : Nat) (a1 : Value) (x : Nat) (st : List Value) (h : fk_H), fk_ev d qX6_speakOf 36 [.ref x, a1] st h = fk_ev d qX6_speakOf 37 [.ref x, a1] (.ref x :: st) h) ∧
  (∀ (d : Nat) (L st : List Value) (N : Nat) (y : Nat → Nat → Int32) (l : Nat → Nat → Int64), fk_ev d qX6_speakOf 37 L (.ref 238 :: st) (fk_E N y l) = fk_ev d qX6_speakOf 40 L (.ref 239 :: st) (fk_E N y l)) ∧
  (∀ (d : Nat) (L st : List Value) (h : fk_H), fk_ev d qX6_speakOf 40 L st h = fk_ev d qX6_speakOf 42 L (.int (nI 25) :: st) h) ∧
  (∀ (d : Nat) (a0 : Value) (x : Nat) (st : List Value) (h : fk_H), fk_ev d qX6_speakOf 42 [a0, .ref x] st h = fk_ev d qX6_speakOf 43 [a0, .ref x] (.ref x :: st) h) ∧
  (∀ (d : Nat) (L st : List Value) (N : Nat) (y : Nat → Nat → Int32) (l : Nat → Nat → Int64) (c : Nat), fk_at c 0 → fk_ev d qX6_speakOf 43 L (.ref c :: st) (fk_E N y l) = fk_ev d qX6_speakOf 46 L (.int (y c 5) :: st) (fk_E N y l)) ∧
  (∀ (d : Nat) (L st : List Value) (N : Nat) (y : Nat → Nat → Int32) (l : Nat → Nat → Int64) (i : Nat) (v : Int32), i < 26 → fk_ev d qX6_speakOf 46 L (.int v :: .int (nI i) :: .ref 239 :: st) (fk_E N y l) = fk_ev d qX6_speakOf 47 L st (fk_E N (fk_u y 239 i v) l)) ∧
  (∀ (d : Nat) (a1 : Value) (x : Nat) (st : List Value) (h : fk_H), fk_ev d qX6_speakOf 47 [.ref x, a1] st h = fk_ev d qX6_speakOf 48 [.ref x, a1] (.ref x :: st) h) ∧
  (∀ (d : Nat) (L st : List Value) (N : Nat) (y : Nat → Nat → Int32) (l : Nat → Nat → Int64), fk_ev d qX6_speakOf 48 L (.ref 238 :: st) (fk_E N y l) = fk_ev d qX6_speakOf 51 L (.ref 239 :: st) (fk_E N y l)) ∧
  (∀ (d : Nat) (L st : List Value) (h : fk_H), fk_ev d qX6_speakOf 51 L st h = fk_ev d qX6_speakOf 53 L (.int (nI 15) :: st) h) ∧
  (∀ (d : Nat) (a0 : Value) (x : Nat) (st : List Value) (h : fk_H), fk_ev d qX6_speakOf 53 [a0, .ref x] st h = fk_ev d qX6_speakOf 54 [a0, .ref x] (.ref x :: st) h) ∧
  (∀ (d : Nat) (L st : List Value) (N : Nat) (y : Nat → Nat → Int32) (l : Nat → Nat → Int64) (c : Nat), fk_at c 0 → fk_ev d qX6_speakOf 54 L (.ref c :: st) (fk_E N y l) = fk_ev d qX6_speakOf 57 L (.int (y c 6) :: st) (fk_E N y l)) ∧
  (∀ (d : Nat) (L st : List Value) (h : fk_H), fk_ev d qX6_speakOf 57 L st h = fk_ev d qX6_speakOf 58 L (.int (nI 0) :: st) h) ∧
  (∀ (d : Nat) (L : List Value) (x y : Int32) (w0 w1 : Value) (h : fk_H), fk_ev d qX6_speakOf 58 L (.int y :: .int x :: [w0, w1]) h = fk_ev d qX6_speakOf 61 L (.int (if x < y then y else x) :: [w0, w1]) h) ∧
  (∀ (d : Nat) (L st : List Value) (N : Nat) (y : Nat → Nat → Int32) (l : Nat → Nat → Int64) (i : Nat) (v : Int32), i < 26 → fk_ev d qX6_speakOf 61 L (.int v :: .int (nI i) :: .ref 239 :: st) (fk_E N y l) = fk_ev d qX6_speakOf 62 L st (fk_E N (fk_u y 239 i v) l)) ∧
  (∀ (d : Nat) (a1 : Value) (x : Nat) (st : List Value) (h : fk_H), fk_ev d qX6_speakOf 62 [.ref x, a1] st h = fk_ev d qX6_speakOf 63 [.ref x, a1] (.ref x :: st) h) ∧
  (∀ (d : Nat) (L st : List Value) (N : Nat) (y : Nat → Nat → Int32) (l : Nat → Nat → Int64), fk_ev d qX6_speakOf 63 L (.ref 238 :: st) (fk_E N y l) = fk_ev d qX6_speakOf 66 L (.ref 239 :: st) (fk_E N y l)) ∧
  (∀ (d : Nat) (L st : List Value) (h : fk_H), fk_ev d qX6_speakOf 66 L st h = fk_ev d qX6_speakOf 68 L (.int (nI 13) :: st) h) ∧
  (∀ (d : Nat) (a1 : Value) (x : Nat) (st : List Value) (h : fk_H), fk_ev d qX6_speakOf 68 [.ref x, a1] st h = fk_ev d qX6_speakOf 69 [.ref x, a1] (.ref x :: st) h) ∧
  (∀ (d : Nat) (L st : List Value) (N : Nat) (y : Nat → Nat → Int32) (l : Nat → Nat → Int64), fk_ev d qX6_speakOf 69 L (.ref 238 :: st) (fk_E N y l) = fk_ev d qX6_speakOf 72 L (.ref (y 238 2).toNatClampNeg :: st) (fk_E N y l)) ∧
  (∀ (d : Nat) (L st : List Value) (N : Nat) (y : Nat → Nat → Int32) (l : Nat → Nat → Int64) (c : Nat), fk_at c 8 → fk_ev d qX6_speakOf 72 L (.ref c :: st) (fk_E N y l) = fk_ev d qX6_speakOf 75 L (.ref (fk_cr c 1) :: st) (fk_E N y l)) ∧
  (∀ (d : Nat) (a0 : Value) (x : Nat) (st : List Value) (h : fk_H), fk_ev d qX6_speakOf 75 [a0, .ref x] st h = fk_ev d qX6_speakOf 76 [a0, .ref x] (.ref x :: st) h) ∧
  (∀ (d : Nat) (L st : List Value) (N : Nat) (y : Nat → Nat → Int32) (l : Nat → Nat → Int64) (c : Nat), fk_at c 0 → fk_ev d qX6_speakOf 76 L (.ref c :: st) (fk_E N y l) = fk_ev d qX6_speakOf 79 L (.int (y c 1) :: st) (fk_E N y l)) ∧
  (∀ (d : Nat) (L st : List Value) (N : Nat) (y : Nat → Nat → Int32) (l : Nat → Nat → Int64) (c i : Nat), fk_at c 20 → i < (fk_shp c).2 → (fk_shp c).2 < 2 ^ 31 → fk_ev d qX6_speakOf 79 L (.int (nI i) :: .ref c :: st) (fk_E N y l) = fk_ev d qX6_speakOf 80 L (.int (y c i) :: st) (fk_E N y l)) ∧
  (∀ (d : Nat) (L st : List Value) (N : Nat) (y : Nat → Nat → Int32) (l : Nat → Nat → Int64) (i : Nat) (v : Int32), i < 26 → fk_ev d qX6_speakOf 80 L (.int v :: .int (nI i) :: .ref 239 :: st) (fk_E N y l) = fk_ev d qX6_speakOf 81 L st (fk_E N (fk_u y 239 i v) l)) ∧
  (∀ (d : Nat) (a1 : Value) (x : Nat) (st : List Value) (h : fk_H), fk_ev d qX6_speakOf 81 [.ref x, a1] st h = fk_ev d qX6_speakOf 82 [.ref x, a1] (.ref x :: st) h) ∧
  (∀ (d : Nat) (L st : List Value) (N : Nat) (y : Nat → Nat → Int32) (l : Nat → Nat → Int64), fk_ev d qX6_speakOf 82 L (.ref 238 :: st) (fk_E N y l) = fk_ev d qX6_speakOf 85 L (.ref 239 :: st) (fk_E N y l)) ∧
  (∀ (d : Nat) (L st : List Value) (h : fk_H), fk_ev d qX6_speakOf 85 L st h = fk_ev d qX6_speakOf 87 L (.int (nI 12) :: st) h) ∧
  (∀ (d : Nat) (a0 : Value) (x : Nat) (st : List Value) (h : fk_H), fk_ev d qX6_speakOf 87 [a0, .ref x] st h = fk_ev d qX6_speakOf 88 [a0, .ref x] (.ref x :: st) h) ∧
  (∀ (d : Nat) (L st : List Value) (N : Nat) (y : Nat → Nat → Int32) (l : Nat → Nat → Int64) (c : Nat), fk_at c 0 → fk_ev d qX6_speakOf 88 L (.ref c :: st) (fk_E N y l) = fk_ev d qX6_speakOf 91 L (.int (y c 11) :: st) (fk_E N y l)) ∧
  (∀ (d : Nat) (L : List Value) (x0 : Int32) (w0 w1 : Value) (h : fk_H), fk_ev (d + 1) qX6_speakOf 91 L (.int x0 :: [w0, w1]) h = (fk_ev d qJ6_bitCount_0f7a4 0 [.int x0] [] h).bind fun o => fk_ev (d + 1) qX6_speakOf 94 L (o.1.toList ++ [w0, w1]) o.2) ∧
  (∀ (d : Nat) (L st : List Value) (N : Nat) (y : Nat → Nat → Int32) (l : Nat → Nat → Int64) (i : Nat) (v : Int32), i < 26 → fk_ev d qX6_speakOf 94 L (.int v :: .int (nI i) :: .ref 239 :: st) (fk_E N y l) = fk_ev d qX6_speakOf 95 L st (fk_E N (fk_u y 239 i v) l)) ∧
  (∀ (d : Nat) (a1 : Value) (x : Nat) (st : List Value) (h : fk_H), fk_ev d qX6_speakOf 95 [.ref x, a1] st h = fk_ev d qX6_speakOf 96 [.ref x, a1] (.ref x :: st) h) ∧
  (∀ (d : Nat) (L st : List Value) (N : Nat) (y : Nat → Nat → Int32) (l : Nat → Nat → Int64), fk_ev d qX6_speakOf 96 L (.ref 238 :: st) (fk_E N y l) = fk_ev d qX6_speakOf 99 L (.ref 239 :: st) (fk_E N y l)) ∧
  (∀ (d : Nat) (L st : List Value) (h : fk_H), fk_ev d qX6_speakOf 99 L st h = fk_ev d qX6_speakOf 101 L (.int (nI 14) :: st) h) ∧
  (∀ (d : Nat) (a0 : Value) (x : Nat) (st : List Value) (h : fk_H), fk_ev d qX6_speakOf 101 [a0, .ref x] st h = fk_ev d qX6_speakOf 102 [a0, .ref x] (.ref x :: st) h) ∧
  (∀ (d : Nat) (L st : List Value) (N : Nat) (y : Nat → Nat → Int32) (l : Nat → Nat → Int64) (c : Nat), fk_at c 0 → fk_ev d qX6_speakOf 102 L (.ref c :: st) (fk_E N y l) = fk_ev d qX6_speakOf 105 L (.int (y c 10) :: st) (fk_E N y l)) ∧
  (∀ (d : Nat) (L st : List Value) (N : Nat) (y : Nat → Nat → Int32) (l : Nat → Nat → Int64) (i : Nat) (v : Int32), i < 26 → fk_ev d qX6_speakOf 105 L (.int v :: .int (nI i) :: .ref 239 :: st) (fk_E N y l) = fk_ev d qX6_speakOf 106 L st (fk_E N (fk_u y 239 i v) l)) ∧
  (∀ (d : Nat) (a1 : Value) (x : Nat) (st : List Value) (h : fk_H), fk_ev d qX6_speakOf 106 [.ref x, a1] st h = fk_ev d qX6_speakOf 107 [.ref x, a1] (.ref x :: st) h) ∧
  (∀ (d : Nat) (L st : List Value) (N : Nat) (y : Nat → Nat → Int32) (l : Nat → Nat → Int64), fk_ev d qX6_speakOf 107 L (.ref 238 :: st) (fk_E N y l) = fk_ev d qX6_speakOf 110 L (.ref 239 :: st) (fk_E N y l)) ∧
  (∀ (d : Nat) (L st : List Value) (h : fk_H), fk_ev d qX6_speakOf 110 L st h = fk_ev d qX6_speakOf 112 L (.int (nI 10) :: st) h) ∧
  (∀ (d : Nat) (a1 : Value) (x : Nat) (st : List Value) (h : fk_H), fk_ev d qX6_speakOf 112 [.ref x, a1] st h = fk_ev d qX6_speakOf 113 [.ref x, a1] (.ref x :: st) h) ∧
  (∀ (d : Nat) (L st : List Value) (N : Nat) (y : Nat → Nat → Int32) (l : Nat → Nat → Int64), fk_ev d qX6_speakOf 113 L (.ref 238 :: st) (fk_E N y l) = fk_ev d qX6_speakOf 116 L (.ref (y 238 2).toNatClampNeg :: st) (fk_E N y l)) ∧
  (∀ (d : Nat) (L st : List Value) (N : Nat) (y : Nat → Nat → Int32) (l : Nat → Nat → Int64) (c : Nat), fk_at c 8 → fk_ev d qX6_speakOf 116 L (.ref c :: st) (fk_E N y l) = fk_ev d qX6_speakOf 119 L (.int (y c 3) :: st) (fk_E N y l)) ∧
  (∀ (d : Nat) (a0 : Value) (x : Nat) (st : List Value) (h : fk_H), fk_ev d qX6_speakOf 119 [a0, .ref x] st h = fk_ev d qX6_speakOf 120 [a0, .ref x] (.ref x :: st) h) ∧
  (∀ (d : Nat) (L st : List Value) (N : Nat) (y : Nat → Nat → Int32) (l : Nat → Nat → Int64) (c : Nat), fk_at c 0 → fk_ev d qX6_speakOf 120 L (.ref c :: st) (fk_E N y l) = fk_ev d qX6_speakOf 123 L (.int (y c 3) :: st) (fk_E N y l)) ∧
  (∀ (d : Nat) (L : List Value) (x y : Int32) (st : List Value) (h : fk_H), fk_ev d qX6_speakOf 123 L (.int y :: .int x :: st) h = fk_ev d qX6_speakOf 124 L (.int (x - y) :: st) h) ∧
  (∀ (d : Nat) (L st : List Value) (N : Nat) (y : Nat → Nat → Int32) (l : Nat → Nat → Int64) (i : Nat) (v : Int32), i < 26 → fk_ev d qX6_speakOf 124 L (.int v :: .int (nI i) :: .ref 239 :: st) (fk_E N y l) = fk_ev d qX6_speakOf 125 L st (fk_E N (fk_u y 239 i v) l)) ∧
  (∀ (d : Nat) (a1 : Value) (x : Nat) (st : List Value) (h : fk_H), fk_ev d qX6_speakOf 125 [.ref x, a1] st h = fk_ev d qX6_speakOf 126 [.ref x, a1] (.ref x :: st) h) ∧
  (∀ (d : Nat) (L st : List Value) (N : Nat) (y : Nat → Nat → Int32) (l : Nat → Nat → Int64), fk_ev d qX6_speakOf 126 L (.ref 238 :: st) (fk_E N y l) = fk_ev d qX6_speakOf 129 L (.ref 239 :: st) (fk_E N y l)) ∧
  (∀ (d : Nat) (L st : List Value) (h : fk_H), fk_ev d qX6_speakOf 129 L st h = fk_ev d qX6_speakOf 131 L (.int (nI 17) :: st) h) ∧
  (∀ (d : Nat) (L st : List Value) (h : fk_H), fk_ev d qX6_speakOf 131 L st h = fk_ev d qX6_speakOf 132 L (.int (nI 0) :: st) h) ∧
  (∀ (d : Nat) (L st : List Value) (N : Nat) (y : Nat → Nat → Int32) (l : Nat → Nat → Int64) (i : Nat) (v : Int32), i < 26 → fk_ev d qX6_speakOf 132 L (.int v :: .int (nI i) :: .ref 239 :: st) (fk_E N y l) = fk_ev d qX6_speakOf 133 L st (fk_E N (fk_u y 239 i v) l)) ∧
  (∀ (d : Nat) (a1 : Value) (x : Nat) (st : List Value) (h : fk_H), fk_ev d qX6_speakOf 133 [.ref x, a1] st h = fk_ev d qX6_speakOf 134 [.ref x, a1] (.ref x :: st) h) ∧
  (∀ (d : Nat) (L st : List Value) (N : Nat) (y : Nat → Nat → Int32) (l : Nat → Nat → Int64), fk_ev d qX6_speakOf 134 L (.ref 238 :: st) (fk_E N y l) = fk_ev d qX6_speakOf 137 L (.ref 239 :: st) (fk_E N y l)) ∧
  (∀ (d : Nat) (L st : List Value) (h : fk_H), fk_ev d qX6_speakOf 137 L st h = fk_ev d qX6_speakOf 139 L (.int (nI 16) :: st) h) ∧
  (∀ (d : Nat) (L st : List Value) (h : fk_H), fk_ev d qX6_speakOf 139 L st h = fk_ev d qX6_speakOf 140 L (.int (nI 0) :: st) h) ∧
  (∀ (d : Nat) (L st : List Value) (N : Nat) (y : Nat → Nat → Int32) (l : Nat → Nat → Int64) (i : Nat) (v : Int32), i < 26 → fk_ev d qX6_speakOf 140 L (.int v :: .int (nI i) :: .ref 239 :: st) (fk_E N y l) = fk_ev d qX6_speakOf 141 L st (fk_E N (fk_u y 239 i v) l)) ∧
  (∀ (d : Nat) (a1 : Value) (x : Nat) (st : List Value) (h : fk_H), fk_ev d qX6_speakOf 141 [.ref x, a1] st h = fk_ev d qX6_speakOf 142 [.ref x, a1] (.ref x :: st) h) ∧
  (∀ (d : Nat) (L st : List Value) (N : Nat) (y : Nat → Nat → Int32) (l : Nat → Nat → Int64), fk_ev d qX6_speakOf 142 L (.ref 238 :: st) (fk_E N y l) = fk_ev d qX6_speakOf 145 L (.ref 239 :: st) (fk_E N y l)) ∧
  (∀ (d : Nat) (L st : List Value) (h : fk_H), fk_ev d qX6_speakOf 145 L st h = fk_ev d qX6_speakOf 147 L (.int (nI 11) :: st) h) ∧
  (∀ (d : Nat) (L st : List Value) (h : fk_H), fk_ev d qX6_speakOf 147 L st h = fk_ev d qX6_speakOf 148 L (.int (nI 0) :: st) h) ∧
  (∀ (d : Nat) (L st : List Value) (N : Nat) (y : Nat → Nat → Int32) (l : Nat → Nat → Int64) (i : Nat) (v : Int32), i < 26 → fk_ev d qX6_speakOf 148 L (.int v :: .int (nI i) :: .ref 239 :: st) (fk_E N y l) = fk_ev d qX6_speakOf 149 L st (fk_E N (fk_u y 239 i v) l)) ∧
  (∀ (d : Nat) (a1 : Value) (x : Nat) (st : List Value) (h : fk_H), fk_ev d qX6_speakOf 149 [.ref x, a1] st h = fk_ev d qX6_speakOf 150 [.ref x, a1] (.ref x :: st) h) ∧
  (∀ (d : Nat) (L st : List Value) (N : Nat) (y : Nat → Nat → Int32) (l : Nat → Nat → Int64), fk_ev d qX6_speakOf 150 L (.ref 238 :: st) (fk_E N y l) = fk_ev d qX6_speakOf 153 L (.ref 239 :: st) (fk_E N y l)) ∧
  (∀ (d : Nat) (L st : List Value) (h : fk_H), fk_ev d qX6_speakOf 153 L st h = fk_ev d qX6_speakOf 154 L (.int (nI 5) :: st) h) ∧
  (∀ (d : Nat) (L st : List Value) (h : fk_H), fk_ev d qX6_speakOf 154 L st h = fk_ev d qX6_speakOf 155 L (.int (nI 0) :: st) h) ∧
  (∀ (d : Nat) (L st : List Value) (N : Nat) (y : Nat → Nat → Int32) (l : Nat → Nat → Int64) (i : Nat) (v : Int32), i < 26 → fk_ev d qX6_speakOf 155 L (.int v :: .int (nI i) :: .ref 239 :: st) (fk_E N y l) = fk_ev d qX6_speakOf 156 L st (fk_E N (fk_u y 239 i v) l)) ∧
  (∀ (d : Nat) (a1 : Value) (x : Nat) (st : List Value) (h : fk_H), fk_ev d qX6_speakOf 156 [.ref x, a1] st h = fk_ev d qX6_speakOf 157 [.ref x, a1] (.ref x :: st) h) ∧
  (∀ (d : Nat) (L st : List Value) (N : Nat) (y : Nat → Nat → Int32) (l : Nat → Nat → Int64), fk_ev d qX6_speakOf 157 L (.ref 238 :: st) (fk_E N y l) = fk_ev d qX6_speakOf 160 L (.ref 239 :: st) (fk_E N y l)) ∧
  (∀ (d : Nat) (L st : List Value) (h : fk_H), fk_ev d qX6_speakOf 160 L st h = fk_ev d qX6_speakOf 162 L (.int (nI 24) :: st) h) ∧
  (∀ (d : Nat) (L st : List Value) (h : fk_H), fk_ev d qX6_speakOf 162 L st h = fk_ev d qX6_speakOf 163 L (.int (nI 0) :: st) h) ∧
  (∀ (d : Nat) (L st : List Value) (N : Nat) (y : Nat → Nat → Int32) (l : Nat → Nat → Int64) (i : Nat) (v : Int32), i < 26 → fk_ev d qX6_speakOf 163 L (.int v :: .int (nI i) :: .ref 239 :: st) (fk_E N y l) = fk_ev d qX6_speakOf 164 L st (fk_E N (fk_u y 239 i v) l)) ∧
  (∀ (d : Nat) (L : List Value) (h : fk_H), fk_ev d qX6_speakOf 164 L [] h = some (none, h)) := ⟨fun d a1 x st h => fk_w_aloadn 0 [.ref x, a1] dX6_speakOf_0 rfl,
  fun d L st N y l => fk_g_getC rfl lf_6_9 (by decide) rfl dX6_speakOf_1 fk_at_238,
  fun d L st h => fk_w_bipush dX6_speakOf_4 (by decide),
  fun d a1 x st h => fk_w_aloadn 0 [.ref x, a1] dX6_speakOf_6 rfl,
  fun d L st N y l => fk_g_getM rfl lf_6_32 (by decide) dX6_speakOf_7 fk_at_238,
  fun d L st N y l c hc => fk_g_getI rfl lf_6_55 (by decide) dX6_speakOf_10 hc,
  fun d L st N y l i v hi => fk_g_iast fk_at_239 fk_ln_239 (by decide) dX6_speakOf_13 hi,
  fun d a1 x st h => fk_w_aloadn 0 [.ref x, a1] dX6_speakOf_14 rfl,
  fun d L st N y l => fk_g_getC rfl lf_6_9 (by decide) rfl dX6_speakOf_15 fk_at_238,
  fun d L st h => fk_w_bipush dX6_speakOf_18 (by decide),
  fun d a0 x st h => fk_w_aloadn 1 [a0, .ref x] dX6_speakOf_20 rfl,
  fun d L st N y l c hc => fk_g_getI rfl lf_6_95 (by decide) dX6_speakOf_21 hc,
  fun d L st N y l i v hi => fk_g_iast fk_at_239 fk_ln_239 (by decide) dX6_speakOf_24 hi,
  fun d a1 x st h => fk_w_aloadn 0 [.ref x, a1] dX6_speakOf_25 rfl,
  fun d L st N y l => fk_g_getC rfl lf_6_9 (by decide) rfl dX6_speakOf_26 fk_at_238,
  fun d L st h => fk_w_bipush dX6_speakOf_29 (by decide),
  fun d a0 x st h => fk_w_aloadn 1 [a0, .ref x] dX6_speakOf_31 rfl,
  fun d L st N y l c hc => fk_g_getI rfl lf_6_183 (by decide) dX6_speakOf_32 hc,
  fun d L st N y l i v hi => fk_g_iast fk_at_239 fk_ln_239 (by decide) dX6_speakOf_35 hi,
  fun d a1 x st h => fk_w_aloadn 0 [.ref x, a1] dX6_speakOf_36 rfl,
  fun d L st N y l => fk_g_getC rfl lf_6_9 (by decide) rfl dX6_speakOf_37 fk_at_238,
  fun d L st h => fk_w_bipush dX6_speakOf_40 (by decide),
  fun d a0 x st h => fk_w_aloadn 1 [a0, .ref x] dX6_speakOf_42 rfl,
  fun d L st N y l c hc => fk_g_getI rfl lf_6_166 (by decide) dX6_speakOf_43 hc,
  fun d L st N y l i v hi => fk_g_iast fk_at_239 fk_ln_239 (by decide) dX6_speakOf_46 hi,
  fun d a1 x st h => fk_w_aloadn 0 [.ref x, a1] dX6_speakOf_47 rfl,
  fun d L st N y l => fk_g_getC rfl lf_6_9 (by decide) rfl dX6_speakOf_48 fk_at_238,
  fun d L st h => fk_w_bipush dX6_speakOf_51 (by decide),
  fun d a0 x st h => fk_w_aloadn 1 [a0, .ref x] dX6_speakOf_53 rfl,
  fun d L st N y l c hc => fk_g_getI rfl lf_6_98 (by decide) dX6_speakOf_54 hc,
  fun d L st h => fk_w_iconst dX6_speakOf_57 (by decide),
  fun d L x y w0 w1 h => fk_p_max dX6_speakOf_58 ln_6_149 lp_6_149 (by simp),
  fun d L st N y l i v hi => fk_g_iast fk_at_239 fk_ln_239 (by decide) dX6_speakOf_61 hi,
  fun d a1 x st h => fk_w_aloadn 0 [.ref x, a1] dX6_speakOf_62 rfl,
  fun d L st N y l => fk_g_getC rfl lf_6_9 (by decide) rfl dX6_speakOf_63 fk_at_238,
  fun d L st h => fk_w_bipush dX6_speakOf_66 (by decide),
  fun d a1 x st h => fk_w_aloadn 0 [.ref x, a1] dX6_speakOf_68 rfl,
  fun d L st N y l => fk_g_getM rfl lf_6_32 (by decide) dX6_speakOf_69 fk_at_238,
  fun d L st N y l c hc => fk_g_getC rfl lf_6_186 (by decide) rfl dX6_speakOf_72 hc,
  fun d a0 x st h => fk_w_aloadn 1 [a0, .ref x] dX6_speakOf_75 rfl,
  fun d L st N y l c hc => fk_g_getI rfl lf_6_95 (by decide) dX6_speakOf_76 hc,
  fun d L st N y l c i hc hi hl => fk_h_iald dX6_speakOf_79 hc hi hl,
  fun d L st N y l i v hi => fk_g_iast fk_at_239 fk_ln_239 (by decide) dX6_speakOf_80 hi,
  fun d a1 x st h => fk_w_aloadn 0 [.ref x, a1] dX6_speakOf_81 rfl,
  fun d L st N y l => fk_g_getC rfl lf_6_9 (by decide) rfl dX6_speakOf_82 fk_at_238,
  fun d L st h => fk_w_bipush dX6_speakOf_85 (by decide),
  fun d a0 x st h => fk_w_aloadn 1 [a0, .ref x] dX6_speakOf_87 rfl,
  fun d L st N y l c hc => fk_g_getI rfl lf_6_189 (by decide) dX6_speakOf_88 hc,
  fun d L x0 w0 w1 h => fk_g_calls [.int x0] [w0, w1] rfl lm_6_192 dX6_speakOf_91 rfl ⟨rfl, by decide⟩ (by simp),
  fun d L st N y l i v hi => fk_g_iast fk_at_239 fk_ln_239 (by decide) dX6_speakOf_94 hi,
  fun d a1 x st h => fk_w_aloadn 0 [.ref x, a1] dX6_speakOf_95 rfl,
  fun d L st N y l => fk_g_getC rfl lf_6_9 (by decide) rfl dX6_speakOf_96 fk_at_238,
  fun d L st h => fk_w_bipush dX6_speakOf_99 (by decide),
  fun d a0 x st h => fk_w_aloadn 1 [a0, .ref x] dX6_speakOf_101 rfl,
  fun d L st N y l c hc => fk_g_getI rfl lf_6_134 (by decide) dX6_speakOf_102 hc,
  fun d L st N y l i v hi => fk_g_iast fk_at_239 fk_ln_239 (by decide) dX6_speakOf_105 hi,
  fun d a1 x st h => fk_w_aloadn 0 [.ref x, a1] dX6_speakOf_106 rfl,
  fun d L st N y l => fk_g_getC rfl lf_6_9 (by decide) rfl dX6_speakOf_107 fk_at_238,
  fun d L st h => fk_w_bipush dX6_speakOf_110 (by decide),
  fun d a1 x st h => fk_w_aloadn 0 [.ref x, a1] dX6_speakOf_112 rfl,
  fun d L st N y l => fk_g_getM rfl lf_6_32 (by decide) dX6_speakOf_113 fk_at_238,
  fun d L st N y l c hc => fk_g_getI rfl lf_6_55 (by decide) dX6_speakOf_116 hc,
  fun d a0 x st h => fk_w_aloadn 1 [a0, .ref x] dX6_speakOf_119 rfl,
  fun d L st N y l c hc => fk_g_getI rfl lf_6_198 (by decide) dX6_speakOf_120 hc,
  fun d L x y st h => fk_r_isub dX6_speakOf_123,
  fun d L st N y l i v hi => fk_g_iast fk_at_239 fk_ln_239 (by decide) dX6_speakOf_124 hi,
  fun d a1 x st h => fk_w_aloadn 0 [.ref x, a1] dX6_speakOf_125 rfl,
  fun d L st N y l => fk_g_getC rfl lf_6_9 (by decide) rfl dX6_speakOf_126 fk_at_238,
  fun d L st h => fk_w_bipush dX6_speakOf_129 (by decide),
  fun d L st h => fk_w_iconst dX6_speakOf_131 (by decide),
  fun d L st N y l i v hi => fk_g_iast fk_at_239 fk_ln_239 (by decide) dX6_speakOf_132 hi,
  fun d a1 x st h => fk_w_aloadn 0 [.ref x, a1] dX6_speakOf_133 rfl,
  fun d L st N y l => fk_g_getC rfl lf_6_9 (by decide) rfl dX6_speakOf_134 fk_at_238,
  fun d L st h => fk_w_bipush dX6_speakOf_137 (by decide),
  fun d L st h => fk_w_iconst dX6_speakOf_139 (by decide),
  fun d L st N y l i v hi => fk_g_iast fk_at_239 fk_ln_239 (by decide) dX6_speakOf_140 hi,
  fun d a1 x st h => fk_w_aloadn 0 [.ref x, a1] dX6_speakOf_141 rfl,
  fun d L st N y l => fk_g_getC rfl lf_6_9 (by decide) rfl dX6_speakOf_142 fk_at_238,
  fun d L st h => fk_w_bipush dX6_speakOf_145 (by decide),
  fun d L st h => fk_w_iconst dX6_speakOf_147 (by decide),
  fun d L st N y l i v hi => fk_g_iast fk_at_239 fk_ln_239 (by decide) dX6_speakOf_148 hi,
  fun d a1 x st h => fk_w_aloadn 0 [.ref x, a1] dX6_speakOf_149 rfl,
  fun d L st N y l => fk_g_getC rfl lf_6_9 (by decide) rfl dX6_speakOf_150 fk_at_238,
  fun d L st h => fk_w_iconst dX6_speakOf_153 (by decide),
  fun d L st h => fk_w_iconst dX6_speakOf_154 (by decide),
  fun d L st N y l i v hi => fk_g_iast fk_at_239 fk_ln_239 (by decide) dX6_speakOf_155 hi,
  fun d a1 x st h => fk_w_aloadn 0 [.ref x, a1] dX6_speakOf_156 rfl,
  fun d L st N y l => fk_g_getC rfl lf_6_9 (by decide) rfl dX6_speakOf_157 fk_at_238,
  fun d L st h => fk_w_bipush dX6_speakOf_160 (by decide),
  fun d L st h => fk_w_iconst dX6_speakOf_162 (by decide),
  fun d L st N y l i v hi => fk_g_iast fk_at_239 fk_ln_239 (by decide) dX6_speakOf_163 hi,
  fun d L h => fk_r_vret dX6_speakOf_164 rfl⟩
theorem dX6_gladness_0 : decode cX6_gladness 0 = .ok (.aload_n 0, 1) := by decide +kernel
theorem dX6_gladness_1 : decode cX6_gladness 1 = .ok (.aload_n 1, 1) := by decide +kernel
theorem dX6_gladness_2 : decode cX6_gladness 2 = .ok (.invokevirtual 129, 3) := by decide +kernel
theorem dX6_gladness_5 : decode cX6_gladness 5 = .ok (.aload_n 0, 1) := by decide +kernel
theorem dX6_gladness_6 : decode cX6_gladness 6 = .ok (.getfield 9, 3) := by decide +kernel
theorem dX6_gladness_9 : decode cX6_gladness 9 = .ok (.bipush 17, 2) := by decide +kernel
theorem dX6_gladness_11 : decode cX6_gladness 11 = .ok (.iload_n 2, 1) := by decide +kernel
theorem dX6_gladness_12 : decode cX6_gladness 12 = .ok (.iastore, 1) := by decide +kernel
theorem dX6_gladness_13 : decode cX6_gladness 13 = .ok (.aload_n 0, 1) := by decide +kernel
theorem dX6_gladness_14 : decode cX6_gladness 14 = .ok (.getfield 9, 3) := by decide +kernel
theorem dX6_gladness_17 : decode cX6_gladness 17 = .ok (.bipush 16, 2) := by decide +kernel
theorem dX6_gladness_19 : decode cX6_gladness 19 = .ok (.aload_n 0, 1) := by decide +kernel
theorem dX6_gladness_20 : decode cX6_gladness 20 = .ok (.getfield 28, 3) := by decide +kernel
theorem dX6_gladness_23 : decode cX6_gladness 23 = .ok (.getfield 88, 3) := by decide +kernel
theorem dX6_gladness_26 : decode cX6_gladness 26 = .ok (.iload_n 2, 1) := by decide +kernel
theorem dX6_gladness_27 : decode cX6_gladness 27 = .ok (.iaload, 1) := by decide +kernel
theorem dX6_gladness_28 : decode cX6_gladness 28 = .ok (.iastore, 1) := by decide +kernel
theorem dX6_gladness_29 : decode cX6_gladness 29 = .ok (.aload_n 0, 1) := by decide +kernel
theorem dX6_gladness_30 : decode cX6_gladness 30 = .ok (.getfield 9, 3) := by decide +kernel
theorem dX6_gladness_33 : decode cX6_gladness 33 = .ok (.bipush 11, 2) := by decide +kernel
theorem dX6_gladness_35 : decode cX6_gladness 35 = .ok (.aload_n 0, 1) := by decide +kernel
theorem dX6_gladness_36 : decode cX6_gladness 36 = .ok (.getfield 28, 3) := by decide +kernel
theorem dX6_gladness_39 : decode cX6_gladness 39 = .ok (.getfield 172, 3) := by decide +kernel
theorem dX6_gladness_42 : decode cX6_gladness 42 = .ok (.iload_n 2, 1) := by decide +kernel
theorem dX6_gladness_43 : decode cX6_gladness 43 = .ok (.iaload, 1) := by decide +kernel
theorem dX6_gladness_44 : decode cX6_gladness 44 = .ok (.iastore, 1) := by decide +kernel
theorem dX6_gladness_45 : decode cX6_gladness 45 = .ok (.aload_n 0, 1) := by decide +kernel
theorem dX6_gladness_46 : decode cX6_gladness 46 = .ok (.getfield 36, 3) := by decide +kernel
theorem dX6_gladness_49 : decode cX6_gladness 49 = .ok (.bipush 99, 2) := by decide +kernel
theorem dX6_gladness_51 : decode cX6_gladness 51 = .ok (.bipush 99, 2) := by decide +kernel
theorem dX6_gladness_53 : decode cX6_gladness 53 = .ok (.aload_n 0, 1) := by decide +kernel
theorem dX6_gladness_54 : decode cX6_gladness 54 = .ok (.getfield 9, 3) := by decide +kernel
theorem dX6_gladness_57 : decode cX6_gladness 57 = .ok (.invokevirtual 137, 3) := by decide +kernel
theorem dX6_gladness_60 : decode cX6_gladness 60 = .ok (.ireturn, 1) := by decide +kernel
theorem rX6_gladness : (∀ (d : Nat) (a1 a2 : Value) (x : Nat) (st : List Value) (h : fk_H), fk_ev d qX6_gladness 0 [.ref x, a1, a2] st h = fk_ev d qX6_gladness 1 [.ref x, a1, a2] (.ref x :: st) h) ∧
  (∀ (d : Nat) (a0 a2 : Value) (x : Nat) (st : List Value) (h : fk_H), fk_ev d qX6_gladness 1 [a0, .ref x, a2] st h = fk_ev d qX6_gladness 2 [a0, .ref x, a2] (.ref x :: st) h) ∧
  (∀ (d : Nat) (L : List Value) (x0 : Nat)  (N : Nat) (y : Nat → Nat → Int32) (l : Nat → Nat → Int64), fk_ev (d + 1) qX6_gladness 2 L (.ref x0 :: .ref 238 :: []) (fk_E N y l) = (fk_ev d qX6_speakOf 0 [.ref 238, .ref x0] [] (fk_E N y l)).bind fun o => fk_ev (d + 1) qX6_gladness 5 L (o.1.toList ++ []) o.2) ∧
  (∀ (d : Nat) (a1 a2 : Value) (x : Nat) (st : List Value) (h : fk_H), fk_ev d qX6_gladness 5 [.ref x, a1, a2] st h = fk_ev d qX6_gladness 6 [.ref x, a1, a2] (.ref x :: st) h) ∧
  (∀ (d : Nat) (L st : List Value) (N : Nat) (y : Nat → Nat → Int32) (l : Nat → Nat → Int64), fk_ev d qX6_gladness 6 L (.ref 238 :: st) (fk_E N y l) = fk_ev d qX6_gladness 9 L (.ref 239 :: st) (fk_E N y l)) ∧
  (∀ (d : Nat) (L st : List Value) (h : fk_H), fk_ev d qX6_gladness 9 L st h = fk_ev d qX6_gladness 11 L (.int (nI 17) :: st) h) ∧
  (∀ (d : Nat) (a0 a1 : Value) (x : Int32) (st : List Value) (h : fk_H), fk_ev d qX6_gladness 11 [a0, a1, .int x] st h = fk_ev d qX6_gladness 12 [a0, a1, .int x] (.int x :: st) h) ∧
  (∀ (d : Nat) (L st : List Value) (N : Nat) (y : Nat → Nat → Int32) (l : Nat → Nat → Int64) (i : Nat) (v : Int32), i < 26 → fk_ev d qX6_gladness 12 L (.int v :: .int (nI i) :: .ref 239 :: st) (fk_E N y l) = fk_ev d qX6_gladness 13 L st (fk_E N (fk_u y 239 i v) l)) ∧
  (∀ (d : Nat) (a1 a2 : Value) (x : Nat) (st : List Value) (h : fk_H), fk_ev d qX6_gladness 13 [.ref x, a1, a2] st h = fk_ev d qX6_gladness 14 [.ref x, a1, a2] (.ref x :: st) h) ∧
  (∀ (d : Nat) (L st : List Value) (N : Nat) (y : Nat → Nat → Int32) (l : Nat → Nat → Int64), fk_ev d qX6_gladness 14 L (.ref 238 :: st) (fk_E N y l) = fk_ev d qX6_gladness 17 L (.ref 239 :: st) (fk_E N y l)) ∧
  (∀ (d : Nat) (L st : List Value) (h : fk_H), fk_ev d qX6_gladness 17 L st h = fk_ev d qX6_gladness 19 L (.int (nI 16) :: st) h) ∧
  (∀ (d : Nat) (a1 a2 : Value) (x : Nat) (st : List Value) (h : fk_H), fk_ev d qX6_gladness 19 [.ref x, a1, a2] st h = fk_ev d qX6_gladness 20 [.ref x, a1, a2] (.ref x :: st) h) ∧
  (∀ (d : Nat) (L st : List Value) (N : Nat) (y : Nat → Nat → Int32) (l : Nat → Nat → Int64), fk_ev d qX6_gladness 20 L (.ref 238 :: st) (fk_E N y l) = fk_ev d qX6_gladness 23 L (.ref 18 :: st) (fk_E N y l)) ∧
  (∀ (d : Nat) (L st : List Value) (N : Nat) (y : Nat → Nat → Int32) (l : Nat → Nat → Int64), fk_ev d qX6_gladness 23 L (.ref 18 :: st) (fk_E N y l) = fk_ev d qX6_gladness 26 L (.ref 20 :: st) (fk_E N y l)) ∧
  (∀ (d : Nat) (a0 a1 : Value) (x : Int32) (st : List Value) (h : fk_H), fk_ev d qX6_gladness 26 [a0, a1, .int x] st h = fk_ev d qX6_gladness 27 [a0, a1, .int x] (.int x :: st) h) ∧
  (∀ (d : Nat) (L st : List Value) (N : Nat) (y : Nat → Nat → Int32) (l : Nat → Nat → Int64) (i : Nat), i < 32 → fk_ev d qX6_gladness 27 L (.int (nI i) :: .ref 20 :: st) (fk_E N y l) = fk_ev d qX6_gladness 28 L (.int (y 20 i) :: st) (fk_E N y l)) ∧
  (∀ (d : Nat) (L st : List Value) (N : Nat) (y : Nat → Nat → Int32) (l : Nat → Nat → Int64) (i : Nat) (v : Int32), i < 26 → fk_ev d qX6_gladness 28 L (.int v :: .int (nI i) :: .ref 239 :: st) (fk_E N y l) = fk_ev d qX6_gladness 29 L st (fk_E N (fk_u y 239 i v) l)) ∧
  (∀ (d : Nat) (a1 a2 : Value) (x : Nat) (st : List Value) (h : fk_H), fk_ev d qX6_gladness 29 [.ref x, a1, a2] st h = fk_ev d qX6_gladness 30 [.ref x, a1, a2] (.ref x :: st) h) ∧
  (∀ (d : Nat) (L st : List Value) (N : Nat) (y : Nat → Nat → Int32) (l : Nat → Nat → Int64), fk_ev d qX6_gladness 30 L (.ref 238 :: st) (fk_E N y l) = fk_ev d qX6_gladness 33 L (.ref 239 :: st) (fk_E N y l)) ∧
  (∀ (d : Nat) (L st : List Value) (h : fk_H), fk_ev d qX6_gladness 33 L st h = fk_ev d qX6_gladness 35 L (.int (nI 11) :: st) h) ∧
  (∀ (d : Nat) (a1 a2 : Value) (x : Nat) (st : List Value) (h : fk_H), fk_ev d qX6_gladness 35 [.ref x, a1, a2] st h = fk_ev d qX6_gladness 36 [.ref x, a1, a2] (.ref x :: st) h) ∧
  (∀ (d : Nat) (L st : List Value) (N : Nat) (y : Nat → Nat → Int32) (l : Nat → Nat → Int64), fk_ev d qX6_gladness 36 L (.ref 238 :: st) (fk_E N y l) = fk_ev d qX6_gladness 39 L (.ref 18 :: st) (fk_E N y l)) ∧
  (∀ (d : Nat) (L st : List Value) (N : Nat) (y : Nat → Nat → Int32) (l : Nat → Nat → Int64), fk_ev d qX6_gladness 39 L (.ref 18 :: st) (fk_E N y l) = fk_ev d qX6_gladness 42 L (.ref 21 :: st) (fk_E N y l)) ∧
  (∀ (d : Nat) (a0 a1 : Value) (x : Int32) (st : List Value) (h : fk_H), fk_ev d qX6_gladness 42 [a0, a1, .int x] st h = fk_ev d qX6_gladness 43 [a0, a1, .int x] (.int x :: st) h) ∧
  (∀ (d : Nat) (L st : List Value) (N : Nat) (y : Nat → Nat → Int32) (l : Nat → Nat → Int64) (i : Nat), i < 32 → fk_ev d qX6_gladness 43 L (.int (nI i) :: .ref 21 :: st) (fk_E N y l) = fk_ev d qX6_gladness 44 L (.int (y 21 i) :: st) (fk_E N y l)) ∧
  (∀ (d : Nat) (L st : List Value) (N : Nat) (y : Nat → Nat → Int32) (l : Nat → Nat → Int64) (i : Nat) (v : Int32), i < 26 → fk_ev d qX6_gladness 44 L (.int v :: .int (nI i) :: .ref 239 :: st) (fk_E N y l) = fk_ev d qX6_gladness 45 L st (fk_E N (fk_u y 239 i v) l)) ∧
  (∀ (d : Nat) (a1 a2 : Value) (x : Nat) (st : List Value) (h : fk_H), fk_ev d qX6_gladness 45 [.ref x, a1, a2] st h = fk_ev d qX6_gladness 46 [.ref x, a1, a2] (.ref x :: st) h) ∧
  (∀ (d : Nat) (L st : List Value) (N : Nat) (y : Nat → Nat → Int32) (l : Nat → Nat → Int64), fk_ev d qX6_gladness 46 L (.ref 238 :: st) (fk_E N y l) = fk_ev d qX6_gladness 49 L (.ref (y 238 3).toNatClampNeg :: st) (fk_E N y l)) ∧
  (∀ (d : Nat) (L st : List Value) (h : fk_H), fk_ev d qX6_gladness 49 L st h = fk_ev d qX6_gladness 51 L (.int (nI 99) :: st) h) ∧
  (∀ (d : Nat) (L st : List Value) (h : fk_H), fk_ev d qX6_gladness 51 L st h = fk_ev d qX6_gladness 53 L (.int (nI 99) :: st) h) ∧
  (∀ (d : Nat) (a1 a2 : Value) (x : Nat) (st : List Value) (h : fk_H), fk_ev d qX6_gladness 53 [.ref x, a1, a2] st h = fk_ev d qX6_gladness 54 [.ref x, a1, a2] (.ref x :: st) h) ∧
  (∀ (d : Nat) (L st : List Value) (N : Nat) (y : Nat → Nat → Int32) (l : Nat → Nat → Int64), fk_ev d qX6_gladness 54 L (.ref 238 :: st) (fk_E N y l) = fk_ev d qX6_gladness 57 L (.ref 239 :: st) (fk_E N y l)) ∧
  (∀ (d : Nat) (L : List Value) (x0 : Int32) (x1 : Int32) (x2 : Nat)  (N : Nat) (y : Nat → Nat → Int32) (l : Nat → Nat → Int64) (c : Nat), fk_at c 3 → fk_ev (d + 1) qX6_gladness 57 L (.ref x2 :: .int x1 :: .int x0 :: .ref c :: []) (fk_E N y l) = (fk_ev d qX3_value 0 [.ref c, .int x0, .int x1, .ref x2, .null] [] (fk_E N y l)).bind fun o => fk_ev (d + 1) qX6_gladness 60 L (o.1.toList ++ []) o.2) ∧
  (∀ (d : Nat) (L : List Value) (x : Int32) (h : fk_H), fk_ev d qX6_gladness 60 L [.int x] h = some (some (.int x), h)) := ⟨fun d a1 a2 x st h => fk_w_aloadn 0 [.ref x, a1, a2] dX6_gladness_0 rfl,
  fun d a0 a2 x st h => fk_w_aloadn 1 [a0, .ref x, a2] dX6_gladness_1 rfl,
  fun d L x0 N y l  => fk_g_call [.ref x0] [] rfl lm_6_129 dX6_gladness_2 rfl ⟨rfl, by decide⟩ (by simp) fk_at_238,
  fun d a1 a2 x st h => fk_w_aloadn 0 [.ref x, a1, a2] dX6_gladness_5 rfl,
  fun d L st N y l => fk_g_getC rfl lf_6_9 (by decide) rfl dX6_gladness_6 fk_at_238,
  fun d L st h => fk_w_bipush dX6_gladness_9 (by decide),
  fun d a0 a1 x st h => fk_w_iloadn 2 [a0, a1, .int x] dX6_gladness_11 rfl,
  fun d L st N y l i v hi => fk_g_iast fk_at_239 fk_ln_239 (by decide) dX6_gladness_12 hi,
  fun d a1 a2 x st h => fk_w_aloadn 0 [.ref x, a1, a2] dX6_gladness_13 rfl,
  fun d L st N y l => fk_g_getC rfl lf_6_9 (by decide) rfl dX6_gladness_14 fk_at_238,
  fun d L st h => fk_w_bipush dX6_gladness_17 (by decide),
  fun d a1 a2 x st h => fk_w_aloadn 0 [.ref x, a1, a2] dX6_gladness_19 rfl,
  fun d L st N y l => fk_g_getC rfl lf_6_28 (by decide) rfl dX6_gladness_20 fk_at_238,
  fun d L st N y l => fk_g_getC rfl lf_6_88 (by decide) rfl dX6_gladness_23 fk_at_18,
  fun d a0 a1 x st h => fk_w_iloadn 2 [a0, a1, .int x] dX6_gladness_26 rfl,
  fun d L st N y l i hi => fk_g_iald fk_at_20 fk_ln_20 (by decide) dX6_gladness_27 hi,
  fun d L st N y l i v hi => fk_g_iast fk_at_239 fk_ln_239 (by decide) dX6_gladness_28 hi,
  fun d a1 a2 x st h => fk_w_aloadn 0 [.ref x, a1, a2] dX6_gladness_29 rfl,
  fun d L st N y l => fk_g_getC rfl lf_6_9 (by decide) rfl dX6_gladness_30 fk_at_238,
  fun d L st h => fk_w_bipush dX6_gladness_33 (by decide),
  fun d a1 a2 x st h => fk_w_aloadn 0 [.ref x, a1, a2] dX6_gladness_35 rfl,
  fun d L st N y l => fk_g_getC rfl lf_6_28 (by decide) rfl dX6_gladness_36 fk_at_238,
  fun d L st N y l => fk_g_getC rfl lf_6_172 (by decide) rfl dX6_gladness_39 fk_at_18,
  fun d a0 a1 x st h => fk_w_iloadn 2 [a0, a1, .int x] dX6_gladness_42 rfl,
  fun d L st N y l i hi => fk_g_iald fk_at_21 fk_ln_21 (by decide) dX6_gladness_43 hi,
  fun d L st N y l i v hi => fk_g_iast fk_at_239 fk_ln_239 (by decide) dX6_gladness_44 hi,
  fun d a1 a2 x st h => fk_w_aloadn 0 [.ref x, a1, a2] dX6_gladness_45 rfl,
  fun d L st N y l => fk_g_getM rfl lf_6_36 (by decide) dX6_gladness_46 fk_at_238,
  fun d L st h => fk_w_bipush dX6_gladness_49 (by decide),
  fun d L st h => fk_w_bipush dX6_gladness_51 (by decide),
  fun d a1 a2 x st h => fk_w_aloadn 0 [.ref x, a1, a2] dX6_gladness_53 rfl,
  fun d L st N y l => fk_g_getC rfl lf_6_9 (by decide) rfl dX6_gladness_54 fk_at_238,
  fun d L x0 x1 x2 N y l c hc => fk_g_call [.int x0, .int x1, .ref x2] [] rfl lm_6_137 dX6_gladness_57 rfl ⟨rfl, by decide⟩ (by simp) hc,
  fun d L x h => fk_r_ret dX6_gladness_60 (Or.inl rfl)⟩
theorem dX6_fillGladness_0 : decode cX6_fillGladness 0 = .ok (.iconst 0, 1) := by decide +kernel
theorem dX6_fillGladness_1 : decode cX6_fillGladness 1 = .ok (.istore_n 3, 1) := by decide +kernel
theorem dX6_fillGladness_2 : decode cX6_fillGladness 2 = .ok (.iload_n 3, 1) := by decide +kernel
theorem dX6_fillGladness_3 : decode cX6_fillGladness 3 = .ok (.bipush 32, 2) := by decide +kernel
theorem dX6_fillGladness_5 : decode cX6_fillGladness 5 = .ok (.if_icmp .ge 44, 3) := by decide +kernel
theorem dX6_fillGladness_8 : decode cX6_fillGladness 8 = .ok (.iload_n 3, 1) := by decide +kernel
theorem dX6_fillGladness_9 : decode cX6_fillGladness 9 = .ok (.aload_n 2, 1) := by decide +kernel
theorem dX6_fillGladness_10 : decode cX6_fillGladness 10 = .ok (.arraylength, 1) := by decide +kernel
theorem dX6_fillGladness_11 : decode cX6_fillGladness 11 = .ok (.if_icmp .ge 38, 3) := by decide +kernel
theorem dX6_fillGladness_14 : decode cX6_fillGladness 14 = .ok (.aload_n 2, 1) := by decide +kernel
theorem dX6_fillGladness_15 : decode cX6_fillGladness 15 = .ok (.iload_n 3, 1) := by decide +kernel
theorem dX6_fillGladness_16 : decode cX6_fillGladness 16 = .ok (.aload_n 0, 1) := by decide +kernel
theorem dX6_fillGladness_17 : decode cX6_fillGladness 17 = .ok (.getfield 28, 3) := by decide +kernel
theorem dX6_fillGladness_20 : decode cX6_fillGladness 20 = .ok (.getfield 159, 3) := by decide +kernel
theorem dX6_fillGladness_23 : decode cX6_fillGladness 23 = .ok (.iload_n 3, 1) := by decide +kernel
theorem dX6_fillGladness_24 : decode cX6_fillGladness 24 = .ok (.iaload, 1) := by decide +kernel
theorem dX6_fillGladness_25 : decode cX6_fillGladness 25 = .ok (.aload_n 1, 1) := by decide +kernel
theorem dX6_fillGladness_26 : decode cX6_fillGladness 26 = .ok (.getfield 98, 3) := by decide +kernel
theorem dX6_fillGladness_29 : decode cX6_fillGladness 29 = .ok (.if_icmp .ne 12, 3) := by decide +kernel
theorem dX6_fillGladness_32 : decode cX6_fillGladness 32 = .ok (.aload_n 0, 1) := by decide +kernel
theorem dX6_fillGladness_33 : decode cX6_fillGladness 33 = .ok (.aload_n 1, 1) := by decide +kernel
theorem dX6_fillGladness_34 : decode cX6_fillGladness 34 = .ok (.iload_n 3, 1) := by decide +kernel
theorem dX6_fillGladness_35 : decode cX6_fillGladness 35 = .ok (.invokevirtual 162, 3) := by decide +kernel
theorem dX6_fillGladness_38 : decode cX6_fillGladness 38 = .ok (.goto 4, 3) := by decide +kernel
theorem dX6_fillGladness_41 : decode cX6_fillGladness 41 = .ok (.iconst 0, 1) := by decide +kernel
theorem dX6_fillGladness_42 : decode cX6_fillGladness 42 = .ok (.iastore, 1) := by decide +kernel
theorem dX6_fillGladness_43 : decode cX6_fillGladness 43 = .ok (.iinc 3 1, 3) := by decide +kernel
theorem dX6_fillGladness_46 : decode cX6_fillGladness 46 = .ok (.goto (-44), 3) := by decide +kernel
theorem dX6_fillGladness_49 : decode cX6_fillGladness 49 = .ok (.return_, 1) := by decide +kernel
theorem rX6_fillGladness : (∀ (d : Nat) (L st : List Value) (h : fk_H), fk_ev d qX6_fillGladness 0 L st h = fk_ev d qX6_fillGladness 1 L (.int (nI 0) :: st) h) ∧
  (∀ (d : Nat) (a0 a1 a2 a3 : Value) (x : Int32) (st : List Value) (h : fk_H), fk_ev d qX6_fillGladness 1 [a0, a1, a2, a3] (.int x :: st) h = fk_ev d qX6_fillGladness 2 [a0, a1, a2, .int x] st h) ∧
  (∀ (d : Nat) (L st : List Value) (h : fk_H), fk_ev d qX6_fillGladness 3 L st h = fk_ev d qX6_fillGladness 5 L (.int (nI 32) :: st) h) ∧
  (∀ (d : Nat) (L : List Value) (x y : Int32) (st : List Value) (h : fk_H), fk_ev d qX6_fillGladness 5 L (.int y :: .int x :: st) h = if y ≤ x then fk_ev d qX6_fillGladness 49 L st h else fk_ev d qX6_fillGladness 8 L st h) ∧
  (∀ (d : Nat) (a0 a1 a2 : Value) (x : Int32) (st : List Value) (h : fk_H), fk_ev d qX6_fillGladness 8 [a0, a1, a2, .int x] st h = fk_ev d qX6_fillGladness 9 [a0, a1, a2, .int x] (.int x :: st) h) ∧
  (∀ (d : Nat) (a0 a1 a3 : Value) (x : Nat) (st : List Value) (h : fk_H), fk_ev d qX6_fillGladness 9 [a0, a1, .ref x, a3] st h = fk_ev d qX6_fillGladness 10 [a0, a1, .ref x, a3] (.ref x :: st) h) ∧
  (∀ (d : Nat) (L st : List Value) (N : Nat) (y : Nat → Nat → Int32) (l : Nat → Nat → Int64) (c : Nat), fk_at c 20 → fk_ev d qX6_fillGladness 10 L (.ref c :: st) (fk_E N y l) = fk_ev d qX6_fillGladness 11 L (.int (nI (fk_shp c).2) :: st) (fk_E N y l)) ∧
  (∀ (d : Nat) (L : List Value) (x y : Int32) (st : List Value) (h : fk_H), fk_ev d qX6_fillGladness 11 L (.int y :: .int x :: st) h = if y ≤ x then fk_ev d qX6_fillGladness 49 L st h else fk_ev d qX6_fillGladness 14 L st h) ∧
  (∀ (d : Nat) (a0 a1 a3 : Value) (x : Nat) (st : List Value) (h : fk_H), fk_ev d qX6_fillGladness 14 [a0, a1, .ref x, a3] st h = fk_ev d qX6_fillGladness 15 [a0, a1, .ref x, a3] (.ref x :: st) h) ∧
  (∀ (d : Nat) (a0 a1 a2 : Value) (x : Int32) (st : List Value) (h : fk_H), fk_ev d qX6_fillGladness 15 [a0, a1, a2, .int x] st h = fk_ev d qX6_fillGladness 16 [a0, a1, a2, .int x] (.int x :: st) h) ∧
  (∀ (d : Nat) (a1 a2 a3 : Value) (x : Nat) (st : List Value) (h : fk_H), fk_ev d qX6_fillGladness 16 [.ref x, a1, a2, a3] st h = fk_ev d qX6_fillGladness 17 [.ref x, a1, a2, a3] (.ref x :: st) h) ∧
  (∀ (d : Nat) (L st : List Value) (N : Nat) (y : Nat → Nat → Int32) (l : Nat → Nat → Int64), fk_ev d qX6_fillGladness 17 L (.ref 238 :: st) (fk_E N y l) = fk_ev d qX6_fillGladness 20 L (.ref 18 :: st) (fk_E N y l)) ∧
  (∀ (d : Nat) (L st : List Value) (N : Nat) (y : Nat → Nat → Int32) (l : Nat → Nat → Int64), fk_ev d qX6_fillGladness 20 L (.ref 18 :: st) (fk_E N y l) = fk_ev d qX6_fillGladness 23 L (.ref 19 :: st) (fk_E N y l)) ∧
  (∀ (d : Nat) (a0 a1 a2 : Value) (x : Int32) (st : List Value) (h : fk_H), fk_ev d qX6_fillGladness 23 [a0, a1, a2, .int x] st h = fk_ev d qX6_fillGladness 24 [a0, a1, a2, .int x] (.int x :: st) h) ∧
  (∀ (d : Nat) (L st : List Value) (N : Nat) (y : Nat → Nat → Int32) (l : Nat → Nat → Int64) (i : Nat), i < 32 → fk_ev d qX6_fillGladness 24 L (.int (nI i) :: .ref 19 :: st) (fk_E N y l) = fk_ev d qX6_fillGladness 25 L (.int (y 19 i) :: st) (fk_E N y l)) ∧
  (∀ (d : Nat) (a0 a2 a3 : Value) (x : Nat) (st : List Value) (h : fk_H), fk_ev d qX6_fillGladness 25 [a0, .ref x, a2, a3] st h = fk_ev d qX6_fillGladness 26 [a0, .ref x, a2, a3] (.ref x :: st) h) ∧
  (∀ (d : Nat) (L st : List Value) (N : Nat) (y : Nat → Nat → Int32) (l : Nat → Nat → Int64) (c : Nat), fk_at c 0 → fk_ev d qX6_fillGladness 26 L (.ref c :: st) (fk_E N y l) = fk_ev d qX6_fillGladness 29 L (.int (y c 6) :: st) (fk_E N y l)) ∧
  (∀ (d : Nat) (L : List Value) (x y : Int32) (st : List Value) (h : fk_H), fk_ev d qX6_fillGladness 29 L (.int y :: .int x :: st) h = if ¬ x = y then fk_ev d qX6_fillGladness 41 L st h else fk_ev d qX6_fillGladness 32 L st h) ∧
  (∀ (d : Nat) (a1 a2 a3 : Value) (x : Nat) (st : List Value) (h : fk_H), fk_ev d qX6_fillGladness 32 [.ref x, a1, a2, a3] st h = fk_ev d qX6_fillGladness 33 [.ref x, a1, a2, a3] (.ref x :: st) h) ∧
  (∀ (d : Nat) (a0 a2 a3 : Value) (x : Nat) (st : List Value) (h : fk_H), fk_ev d qX6_fillGladness 33 [a0, .ref x, a2, a3] st h = fk_ev d qX6_fillGladness 34 [a0, .ref x, a2, a3] (.ref x :: st) h) ∧
  (∀ (d : Nat) (a0 a1 a2 : Value) (x : Int32) (st : List Value) (h : fk_H), fk_ev d qX6_fillGladness 34 [a0, a1, a2, .int x] st h = fk_ev d qX6_fillGladness 35 [a0, a1, a2, .int x] (.int x :: st) h) ∧
  (∀ (d : Nat) (L : List Value) (x0 : Nat) (x1 : Int32) (w0 w1 : Value) (N : Nat) (y : Nat → Nat → Int32) (l : Nat → Nat → Int64), fk_ev (d + 1) qX6_fillGladness 35 L (.int x1 :: .ref x0 :: .ref 238 :: [w0, w1]) (fk_E N y l) = (fk_ev d qX6_gladness 0 [.ref 238, .ref x0, .int x1] [] (fk_E N y l)).bind fun o => fk_ev (d + 1) qX6_fillGladness 38 L (o.1.toList ++ [w0, w1]) o.2) ∧
  (∀ (d : Nat) (L st : List Value) (h : fk_H), fk_ev d qX6_fillGladness 38 L st h = fk_ev d qX6_fillGladness 42 L st h) ∧
  (∀ (d : Nat) (L st : List Value) (h : fk_H), fk_ev d qX6_fillGladness 41 L st h = fk_ev d qX6_fillGladness 42 L (.int (nI 0) :: st) h) ∧
  (∀ (d : Nat) (L st : List Value) (N : Nat) (y : Nat → Nat → Int32) (l : Nat → Nat → Int64) (c i : Nat) (v : Int32), fk_at c 20 → i < (fk_shp c).2 → (fk_shp c).2 < 2 ^ 31 → fk_ev d qX6_fillGladness 42 L (.int v :: .int (nI i) :: .ref c :: st) (fk_E N y l) = fk_ev d qX6_fillGladness 43 L st (fk_E N (fk_u y c i v) l)) ∧
  (∀ (d : Nat) (a0 a1 a2 : Value) (x : Int32) (st : List Value) (h : fk_H), fk_ev d qX6_fillGladness 43 [a0, a1, a2, .int x] st h = fk_ev d qX6_fillGladness 46 [a0, a1, a2, .int (x + nI 1)] st h) ∧
  (∀ (d : Nat) (L st : List Value) (h : fk_H), fk_ev d qX6_fillGladness 46 L st h = fk_ev d qX6_fillGladness 2 L st h) ∧
  (∀ (d : Nat) (L : List Value) (h : fk_H), fk_ev d qX6_fillGladness 49 L [] h = some (none, h)) := ⟨fun d L st h => fk_w_iconst dX6_fillGladness_0 (by decide),
  fun d a0 a1 a2 a3 x st h => fk_w_istoren 3 4 [] [a0, a1, a2, a3] [a0, a1, a2, .int x] dX6_fillGladness_1 rfl rfl (by decide) rfl,
  fun d L st h => fk_w_bipush dX6_fillGladness_3 (by decide),
  fun d L x y st h => fk_r_icmp_ge dX6_fillGladness_5 (by decide),
  fun d a0 a1 a2 x st h => fk_w_iloadn 3 [a0, a1, a2, .int x] dX6_fillGladness_8 rfl,
  fun d a0 a1 a3 x st h => fk_w_aloadn 2 [a0, a1, .ref x, a3] dX6_fillGladness_9 rfl,
  fun d L st N y l c hc => fk_h_alen dX6_fillGladness_10 hc,
  fun d L x y st h => fk_r_icmp_ge dX6_fillGladness_11 (by decide),
  fun d a0 a1 a3 x st h => fk_w_aloadn 2 [a0, a1, .ref x, a3] dX6_fillGladness_14 rfl,
  fun d a0 a1 a2 x st h => fk_w_iloadn 3 [a0, a1, a2, .int x] dX6_fillGladness_15 rfl,
  fun d a1 a2 a3 x st h => fk_w_aloadn 0 [.ref x, a1, a2, a3] dX6_fillGladness_16 rfl,
  fun d L st N y l => fk_g_getC rfl lf_6_28 (by decide) rfl dX6_fillGladness_17 fk_at_238,
  fun d L st N y l => fk_g_getC rfl lf_6_159 (by decide) rfl dX6_fillGladness_20 fk_at_18,
  fun d a0 a1 a2 x st h => fk_w_iloadn 3 [a0, a1, a2, .int x] dX6_fillGladness_23 rfl,
  fun d L st N y l i hi => fk_g_iald fk_at_19 fk_ln_19 (by decide) dX6_fillGladness_24 hi,
  fun d a0 a2 a3 x st h => fk_w_aloadn 1 [a0, .ref x, a2, a3] dX6_fillGladness_25 rfl,
  fun d L st N y l c hc => fk_g_getI rfl lf_6_98 (by decide) dX6_fillGladness_26 hc,
  fun d L x y st h => fk_r_icmp_ne dX6_fillGladness_29 (by decide),
  fun d a1 a2 a3 x st h => fk_w_aloadn 0 [.ref x, a1, a2, a3] dX6_fillGladness_32 rfl,
  fun d a0 a2 a3 x st h => fk_w_aloadn 1 [a0, .ref x, a2, a3] dX6_fillGladness_33 rfl,
  fun d a0 a1 a2 x st h => fk_w_iloadn 3 [a0, a1, a2, .int x] dX6_fillGladness_34 rfl,
  fun d L x0 x1 w0 w1 N y l  => fk_g_call [.ref x0, .int x1] [w0, w1] rfl lm_6_162 dX6_fillGladness_35 rfl ⟨rfl, by decide⟩ (by simp) fk_at_238,
  fun d L st h => fk_r_goto dX6_fillGladness_38 (by decide),
  fun d L st h => fk_w_iconst dX6_fillGladness_41 (by decide),
  fun d L st N y l c i v hc hi hl => fk_h_iast dX6_fillGladness_42 hc hi hl,
  fun d a0 a1 a2 x st h => fk_w_iinc 3 4 (1) [] [a0, a1, a2, .int x] [a0, a1, a2, .int (x + nI 1)] dX6_fillGladness_43 rfl rfl rfl (by decide) rfl,
  fun d L st h => fk_r_goto dX6_fillGladness_46 (by decide),
  fun d L h => fk_r_vret dX6_fillGladness_49 rfl⟩
theorem hX6_fillGladness_2 : ∀ (d : Nat) (a0 a1 a2 : Value) (x : Int32) (st : List Value) (h : fk_H), fk_ev d qX6_fillGladness 2 [a0, a1, a2, .int x] st h = fk_ev d qX6_fillGladness 3 [a0, a1, a2, .int x] (.int x :: st) h := fun d a0 a1 a2 x st h => fk_w_iloadn 3 [a0, a1, a2, .int x] dX6_fillGladness_2 rfl
theorem dX6_doubt_0 : decode cX6_doubt 0 = .ok (.aload_n 1, 1) := by decide +kernel
theorem dX6_doubt_1 : decode cX6_doubt 1 = .ok (.getfield 95, 3) := by decide +kernel
theorem dX6_doubt_4 : decode cX6_doubt 4 = .ok (.aload_n 0, 1) := by decide +kernel
theorem dX6_doubt_5 : decode cX6_doubt 5 = .ok (.getfield 15, 3) := by decide +kernel
theorem dX6_doubt_8 : decode cX6_doubt 8 = .ok (.if_icmp .ne 39, 3) := by decide +kernel
theorem dX6_doubt_11 : decode cX6_doubt 11 = .ok (.aload_n 0, 1) := by decide +kernel
theorem dX6_doubt_12 : decode cX6_doubt 12 = .ok (.dup, 1) := by decide +kernel
theorem dX6_doubt_13 : decode cX6_doubt 13 = .ok (.getfield 22, 3) := by decide +kernel
theorem dX6_doubt_16 : decode cX6_doubt 16 = .ok (.iconst 1, 1) := by decide +kernel
theorem dX6_doubt_17 : decode cX6_doubt 17 = .ok (.aload_n 1, 1) := by decide +kernel
theorem dX6_doubt_18 : decode cX6_doubt 18 = .ok (.getfield 98, 3) := by decide +kernel
theorem dX6_doubt_21 : decode cX6_doubt 21 = .ok (.ishl, 1) := by decide +kernel
theorem dX6_doubt_22 : decode cX6_doubt 22 = .ok (.ior, 1) := by decide +kernel
theorem dX6_doubt_23 : decode cX6_doubt 23 = .ok (.putfield 22, 3) := by decide +kernel
theorem dX6_doubt_26 : decode cX6_doubt 26 = .ok (.aload_n 0, 1) := by decide +kernel
theorem dX6_doubt_27 : decode cX6_doubt 27 = .ok (.getfield 19, 3) := by decide +kernel
theorem dX6_doubt_30 : decode cX6_doubt 30 = .ok (.aload_n 1, 1) := by decide +kernel
theorem dX6_doubt_31 : decode cX6_doubt 31 = .ok (.getfield 98, 3) := by decide +kernel
theorem dX6_doubt_34 : decode cX6_doubt 34 = .ok (.ishr, 1) := by decide +kernel
theorem dX6_doubt_35 : decode cX6_doubt 35 = .ok (.iconst 1, 1) := by decide +kernel
theorem dX6_doubt_36 : decode cX6_doubt 36 = .ok (.iand, 1) := by decide +kernel
theorem dX6_doubt_37 : decode cX6_doubt 37 = .ok (.ifCond .eq 8, 3) := by decide +kernel
theorem dX6_doubt_40 : decode cX6_doubt 40 = .ok (.bipush 99, 2) := by decide +kernel
theorem dX6_doubt_42 : decode cX6_doubt 42 = .ok (.goto 4, 3) := by decide +kernel
theorem dX6_doubt_45 : decode cX6_doubt 45 = .ok (.iconst 0, 1) := by decide +kernel
theorem dX6_doubt_46 : decode cX6_doubt 46 = .ok (.ireturn, 1) := by decide +kernel
theorem dX6_doubt_47 : decode cX6_doubt 47 = .ok (.aload_n 0, 1) := by decide +kernel
theorem dX6_doubt_48 : decode cX6_doubt 48 = .ok (.aload_n 1, 1) := by decide +kernel
theorem dX6_doubt_49 : decode cX6_doubt 49 = .ok (.invokevirtual 129, 3) := by decide +kernel
theorem dX6_doubt_52 : decode cX6_doubt 52 = .ok (.aload_n 0, 1) := by decide +kernel
theorem dX6_doubt_53 : decode cX6_doubt 53 = .ok (.getfield 36, 3) := by decide +kernel
theorem dX6_doubt_56 : decode cX6_doubt 56 = .ok (.bipush 100, 2) := by decide +kernel
theorem dX6_doubt_58 : decode cX6_doubt 58 = .ok (.bipush 99, 2) := by decide +kernel
theorem dX6_doubt_60 : decode cX6_doubt 60 = .ok (.aload_n 0, 1) := by decide +kernel
theorem dX6_doubt_61 : decode cX6_doubt 61 = .ok (.getfield 9, 3) := by decide +kernel
theorem dX6_doubt_64 : decode cX6_doubt 64 = .ok (.invokevirtual 137, 3) := by decide +kernel
theorem dX6_doubt_67 : decode cX6_doubt 67 = .ok (.ireturn, 1) := by decide +kernel
theorem rX6_doubt : (∀ (d : Nat) (a0 : Value) (x : Nat) (st : List Value) (h : fk_H), fk_ev d qX6_doubt 0 [a0, .ref x] st h = fk_ev d qX6_doubt 1 [a0, .ref x] (.ref x :: st) h) ∧
  (∀ (d : Nat) (L st : List Value) (N : Nat) (y : Nat → Nat → Int32) (l : Nat → Nat → Int64) (c : Nat), fk_at c 0 → fk_ev d qX6_doubt 1 L (.ref c :: st) (fk_E N y l) = fk_ev d qX6_doubt 4 L (.int (y c 1) :: st) (fk_E N y l)) ∧
  (∀ (d : Nat) (a1 : Value) (x : Nat) (st : List Value) (h : fk_H), fk_ev d qX6_doubt 4 [.ref x, a1] st h = fk_ev d qX6_doubt 5 [.ref x, a1] (.ref x :: st) h) ∧
  (∀ (d : Nat) (L st : List Value) (N : Nat) (y : Nat → Nat → Int32) (l : Nat → Nat → Int64), fk_ev d qX6_doubt 5 L (.ref 238 :: st) (fk_E N y l) = fk_ev d qX6_doubt 8 L (.int (y 238 4) :: st) (fk_E N y l)) ∧
  (∀ (d : Nat) (L : List Value) (x y : Int32) (st : List Value) (h : fk_H), fk_ev d qX6_doubt 8 L (.int y :: .int x :: st) h = if ¬ x = y then fk_ev d qX6_doubt 47 L st h else fk_ev d qX6_doubt 11 L st h) ∧
  (∀ (d : Nat) (a1 : Value) (x : Nat) (st : List Value) (h : fk_H), fk_ev d qX6_doubt 11 [.ref x, a1] st h = fk_ev d qX6_doubt 12 [.ref x, a1] (.ref x :: st) h) ∧
  (∀ (d : Nat) (L : List Value) (x : Nat) (st : List Value) (h : fk_H), fk_ev d qX6_doubt 12 L (.ref x :: st) h = fk_ev d qX6_doubt 13 L (.ref x :: .ref x :: st) h) ∧
  (∀ (d : Nat) (L st : List Value) (N : Nat) (y : Nat → Nat → Int32) (l : Nat → Nat → Int64), fk_ev d qX6_doubt 13 L (.ref 238 :: st) (fk_E N y l) = fk_ev d qX6_doubt 16 L (.int (y 238 6) :: st) (fk_E N y l)) ∧
  (∀ (d : Nat) (L st : List Value) (h : fk_H), fk_ev d qX6_doubt 16 L st h = fk_ev d qX6_doubt 17 L (.int (nI 1) :: st) h) ∧
  (∀ (d : Nat) (a0 : Value) (x : Nat) (st : List Value) (h : fk_H), fk_ev d qX6_doubt 17 [a0, .ref x] st h = fk_ev d qX6_doubt 18 [a0, .ref x] (.ref x :: st) h) ∧
  (∀ (d : Nat) (L st : List Value) (N : Nat) (y : Nat → Nat → Int32) (l : Nat → Nat → Int64) (c : Nat), fk_at c 0 → fk_ev d qX6_doubt 18 L (.ref c :: st) (fk_E N y l) = fk_ev d qX6_doubt 21 L (.int (y c 6) :: st) (fk_E N y l)) ∧
  (∀ (d : Nat) (L : List Value) (x y : Int32) (st : List Value) (h : fk_H), fk_ev d qX6_doubt 21 L (.int y :: .int x :: st) h = fk_ev d qX6_doubt 22 L (.int (x <<< (y &&& 31)) :: st) h) ∧
  (∀ (d : Nat) (L : List Value) (x y : Int32) (st : List Value) (h : fk_H), fk_ev d qX6_doubt 22 L (.int y :: .int x :: st) h = fk_ev d qX6_doubt 23 L (.int (x ||| y) :: st) h) ∧
  (∀ (d : Nat) (L st : List Value) (N : Nat) (y : Nat → Nat → Int32) (l : Nat → Nat → Int64) (v : Int32), fk_ev d qX6_doubt 23 L (.int v :: .ref 238 :: st) (fk_E N y l) = fk_ev d qX6_doubt 26 L st (fk_E N (fk_u y 238 6 v) l)) ∧
  (∀ (d : Nat) (a1 : Value) (x : Nat) (st : List Value) (h : fk_H), fk_ev d qX6_doubt 26 [.ref x, a1] st h = fk_ev d qX6_doubt 27 [.ref x, a1] (.ref x :: st) h) ∧
  (∀ (d : Nat) (L st : List Value) (N : Nat) (y : Nat → Nat → Int32) (l : Nat → Nat → Int64), fk_ev d qX6_doubt 27 L (.ref 238 :: st) (fk_E N y l) = fk_ev d qX6_doubt 30 L (.int (y 238 5) :: st) (fk_E N y l)) ∧
  (∀ (d : Nat) (a0 : Value) (x : Nat) (st : List Value) (h : fk_H), fk_ev d qX6_doubt 30 [a0, .ref x] st h = fk_ev d qX6_doubt 31 [a0, .ref x] (.ref x :: st) h) ∧
  (∀ (d : Nat) (L st : List Value) (N : Nat) (y : Nat → Nat → Int32) (l : Nat → Nat → Int64) (c : Nat), fk_at c 0 → fk_ev d qX6_doubt 31 L (.ref c :: st) (fk_E N y l) = fk_ev d qX6_doubt 34 L (.int (y c 6) :: st) (fk_E N y l)) ∧
  (∀ (d : Nat) (L : List Value) (x y : Int32) (st : List Value) (h : fk_H), fk_ev d qX6_doubt 34 L (.int y :: .int x :: st) h = fk_ev d qX6_doubt 35 L (.int (x >>> (y &&& 31)) :: st) h) ∧
  (∀ (d : Nat) (L st : List Value) (h : fk_H), fk_ev d qX6_doubt 35 L st h = fk_ev d qX6_doubt 36 L (.int (nI 1) :: st) h) ∧
  (∀ (d : Nat) (L : List Value) (x y : Int32) (st : List Value) (h : fk_H), fk_ev d qX6_doubt 36 L (.int y :: .int x :: st) h = fk_ev d qX6_doubt 37 L (.int (x &&& y) :: st) h) ∧
  (∀ (d : Nat) (L : List Value) (x : Int32) (st : List Value) (h : fk_H), fk_ev d qX6_doubt 37 L (.int x :: st) h = if x = nI 0 then fk_ev d qX6_doubt 45 L st h else fk_ev d qX6_doubt 40 L st h) ∧
  (∀ (d : Nat) (L st : List Value) (h : fk_H), fk_ev d qX6_doubt 40 L st h = fk_ev d qX6_doubt 42 L (.int (nI 99) :: st) h) ∧
  (∀ (d : Nat) (L st : List Value) (h : fk_H), fk_ev d qX6_doubt 42 L st h = fk_ev d qX6_doubt 46 L st h) ∧
  (∀ (d : Nat) (L st : List Value) (h : fk_H), fk_ev d qX6_doubt 45 L st h = fk_ev d qX6_doubt 46 L (.int (nI 0) :: st) h) ∧
  (∀ (d : Nat) (L : List Value) (x : Int32) (h : fk_H), fk_ev d qX6_doubt 46 L [.int x] h = some (some (.int x), h)) ∧
  (∀ (d : Nat) (a1 : Value) (x : Nat) (st : List Value) (h : fk_H), fk_ev d qX6_doubt 47 [.ref x, a1] st h = fk_ev d qX6_doubt 48 [.ref x, a1] (.ref x :: st) h) ∧
  (∀ (d : Nat) (a0 : Value) (x : Nat) (st : List Value) (h : fk_H), fk_ev d qX6_doubt 48 [a0, .ref x] st h = fk_ev d qX6_doubt 49 [a0, .ref x] (.ref x :: st) h) ∧
  (∀ (d : Nat) (L : List Value) (x0 : Nat)  (N : Nat) (y : Nat → Nat → Int32) (l : Nat → Nat → Int64), fk_ev (d + 1) qX6_doubt 49 L (.ref x0 :: .ref 238 :: []) (fk_E N y l) = (fk_ev d qX6_speakOf 0 [.ref 238, .ref x0] [] (fk_E N y l)).bind fun o => fk_ev (d + 1) qX6_doubt 52 L (o.1.toList ++ []) o.2) ∧
  (∀ (d : Nat) (a1 : Value) (x : Nat) (st : List Value) (h : fk_H), fk_ev d qX6_doubt 52 [.ref x, a1] st h = fk_ev d qX6_doubt 53 [.ref x, a1] (.ref x :: st) h) ∧
  (∀ (d : Nat) (L st : List Value) (N : Nat) (y : Nat → Nat → Int32) (l : Nat → Nat → Int64), fk_ev d qX6_doubt 53 L (.ref 238 :: st) (fk_E N y l) = fk_ev d qX6_doubt 56 L (.ref (y 238 3).toNatClampNeg :: st) (fk_E N y l)) ∧
  (∀ (d : Nat) (L st : List Value) (h : fk_H), fk_ev d qX6_doubt 56 L st h = fk_ev d qX6_doubt 58 L (.int (nI 100) :: st) h) ∧
  (∀ (d : Nat) (L st : List Value) (h : fk_H), fk_ev d qX6_doubt 58 L st h = fk_ev d qX6_doubt 60 L (.int (nI 99) :: st) h) ∧
  (∀ (d : Nat) (a1 : Value) (x : Nat) (st : List Value) (h : fk_H), fk_ev d qX6_doubt 60 [.ref x, a1] st h = fk_ev d qX6_doubt 61 [.ref x, a1] (.ref x :: st) h) ∧
  (∀ (d : Nat) (L st : List Value) (N : Nat) (y : Nat → Nat → Int32) (l : Nat → Nat → Int64), fk_ev d qX6_doubt 61 L (.ref 238 :: st) (fk_E N y l) = fk_ev d qX6_doubt 64 L (.ref 239 :: st) (fk_E N y l)) ∧
  (∀ (d : Nat) (L : List Value) (x0 : Int32) (x1 : Int32) (x2 : Nat)  (N : Nat) (y : Nat → Nat → Int32) (l : Nat → Nat → Int64) (c : Nat), fk_at c 3 → fk_ev (d + 1) qX6_doubt 64 L (.ref x2 :: .int x1 :: .int x0 :: .ref c :: []) (fk_E N y l) = (fk_ev d qX3_value 0 [.ref c, .int x0, .int x1, .ref x2, .null] [] (fk_E N y l)).bind fun o => fk_ev (d + 1) qX6_doubt 67 L (o.1.toList ++ []) o.2) ∧
  (∀ (d : Nat) (L : List Value) (x : Int32) (h : fk_H), fk_ev d qX6_doubt 67 L [.int x] h = some (some (.int x), h)) := ⟨fun d a0 x st h => fk_w_aloadn 1 [a0, .ref x] dX6_doubt_0 rfl,
  fun d L st N y l c hc => fk_g_getI rfl lf_6_95 (by decide) dX6_doubt_1 hc,
  fun d a1 x st h => fk_w_aloadn 0 [.ref x, a1] dX6_doubt_4 rfl,
  fun d L st N y l => fk_g_getI rfl lf_6_15 (by decide) dX6_doubt_5 fk_at_238,
  fun d L x y st h => fk_r_icmp_ne dX6_doubt_8 (by decide),
  fun d a1 x st h => fk_w_aloadn 0 [.ref x, a1] dX6_doubt_11 rfl,
  fun d L x st h => fk_r_dup_ref dX6_doubt_12,
  fun d L st N y l => fk_g_getI rfl lf_6_22 (by decide) dX6_doubt_13 fk_at_238,
  fun d L st h => fk_w_iconst dX6_doubt_16 (by decide),
  fun d a0 x st h => fk_w_aloadn 1 [a0, .ref x] dX6_doubt_17 rfl,
  fun d L st N y l c hc => fk_g_getI rfl lf_6_98 (by decide) dX6_doubt_18 hc,
  fun d L x y st h => fk_r_ishl dX6_doubt_21,
  fun d L x y st h => fk_r_ior dX6_doubt_22,
  fun d L st N y l v => fk_g_putI rfl lf_6_22 (by decide) dX6_doubt_23 rfl fk_at_238,
  fun d a1 x st h => fk_w_aloadn 0 [.ref x, a1] dX6_doubt_26 rfl,
  fun d L st N y l => fk_g_getI rfl lf_6_19 (by decide) dX6_doubt_27 fk_at_238,
  fun d a0 x st h => fk_w_aloadn 1 [a0, .ref x] dX6_doubt_30 rfl,
  fun d L st N y l c hc => fk_g_getI rfl lf_6_98 (by decide) dX6_doubt_31 hc,
  fun d L x y st h => fk_r_ishr dX6_doubt_34,
  fun d L st h => fk_w_iconst dX6_doubt_35 (by decide),
  fun d L x y st h => fk_r_iand dX6_doubt_36,
  fun d L x st h => fk_r_if_eq dX6_doubt_37 (by decide),
  fun d L st h => fk_w_bipush dX6_doubt_40 (by decide),
  fun d L st h => fk_r_goto dX6_doubt_42 (by decide),
  fun d L st h => fk_w_iconst dX6_doubt_45 (by decide),
  fun d L x h => fk_r_ret dX6_doubt_46 (Or.inl rfl),
  fun d a1 x st h => fk_w_aloadn 0 [.ref x, a1] dX6_doubt_47 rfl,
  fun d a0 x st h => fk_w_aloadn 1 [a0, .ref x] dX6_doubt_48 rfl,
  fun d L x0 N y l  => fk_g_call [.ref x0] [] rfl lm_6_129 dX6_doubt_49 rfl ⟨rfl, by decide⟩ (by simp) fk_at_238,
  fun d a1 x st h => fk_w_aloadn 0 [.ref x, a1] dX6_doubt_52 rfl,
  fun d L st N y l => fk_g_getM rfl lf_6_36 (by decide) dX6_doubt_53 fk_at_238,
  fun d L st h => fk_w_bipush dX6_doubt_56 (by decide),
  fun d L st h => fk_w_bipush dX6_doubt_58 (by decide),
  fun d a1 x st h => fk_w_aloadn 0 [.ref x, a1] dX6_doubt_60 rfl,
  fun d L st N y l => fk_g_getC rfl lf_6_9 (by decide) rfl dX6_doubt_61 fk_at_238,
  fun d L x0 x1 x2 N y l c hc => fk_g_call [.int x0, .int x1, .ref x2] [] rfl lm_6_137 dX6_doubt_64 rfl ⟨rfl, by decide⟩ (by simp) hc,
  fun d L x h => fk_r_ret dX6_doubt_67 (Or.inl rfl)⟩
theorem dX6_believed_0 : decode cX6_believed 0 = .ok (.iconst 0, 1) := by decide +kernel
theorem dX6_believed_1 : decode cX6_believed 1 = .ok (.istore 4, 2) := by decide +kernel
theorem dX6_believed_3 : decode cX6_believed 3 = .ok (.aload_n 0, 1) := by decide +kernel
theorem dX6_believed_4 : decode cX6_believed 4 = .ok (.aload_n 1, 1) := by decide +kernel
theorem dX6_believed_5 : decode cX6_believed 5 = .ok (.invokevirtual 129, 3) := by decide +kernel
theorem dX6_believed_8 : decode cX6_believed 8 = .ok (.aload_n 0, 1) := by decide +kernel
theorem dX6_believed_9 : decode cX6_believed 9 = .ok (.getfield 9, 3) := by decide +kernel
theorem dX6_believed_12 : decode cX6_believed 12 = .ok (.bipush 24, 2) := by decide +kernel
theorem dX6_believed_14 : decode cX6_believed 14 = .ok (.aload_n 2, 1) := by decide +kernel
theorem dX6_believed_15 : decode cX6_believed 15 = .ok (.getfield 183, 3) := by decide +kernel
theorem dX6_believed_18 : decode cX6_believed 18 = .ok (.iastore, 1) := by decide +kernel
theorem dX6_believed_19 : decode cX6_believed 19 = .ok (.iconst 0, 1) := by decide +kernel
theorem dX6_believed_20 : decode cX6_believed 20 = .ok (.istore 5, 2) := by decide +kernel
theorem dX6_believed_22 : decode cX6_believed 22 = .ok (.iload 5, 2) := by decide +kernel
theorem dX6_believed_24 : decode cX6_believed 24 = .ok (.bipush 16, 2) := by decide +kernel
theorem dX6_believed_26 : decode cX6_believed 26 = .ok (.if_icmp .ge 52, 3) := by decide +kernel
theorem dX6_believed_29 : decode cX6_believed 29 = .ok (.aload_n 0, 1) := by decide +kernel
theorem dX6_believed_30 : decode cX6_believed 30 = .ok (.getfield 9, 3) := by decide +kernel
theorem dX6_believed_33 : decode cX6_believed 33 = .ok (.iconst 5, 1) := by decide +kernel
theorem dX6_believed_34 : decode cX6_believed 34 = .ok (.iload 5, 2) := by decide +kernel
theorem dX6_believed_36 : decode cX6_believed 36 = .ok (.iastore, 1) := by decide +kernel
theorem dX6_believed_37 : decode cX6_believed 37 = .ok (.iload_n 3, 1) := by decide +kernel
theorem dX6_believed_38 : decode cX6_believed 38 = .ok (.iload 5, 2) := by decide +kernel
theorem dX6_believed_40 : decode cX6_believed 40 = .ok (.ishr, 1) := by decide +kernel
theorem dX6_believed_41 : decode cX6_believed 41 = .ok (.iconst 1, 1) := by decide +kernel
theorem dX6_believed_42 : decode cX6_believed 42 = .ok (.iand, 1) := by decide +kernel
theorem dX6_believed_43 : decode cX6_believed 43 = .ok (.ifCond .eq 29, 3) := by decide +kernel
theorem dX6_believed_46 : decode cX6_believed 46 = .ok (.aload_n 0, 1) := by decide +kernel
theorem dX6_believed_47 : decode cX6_believed 47 = .ok (.getfield 36, 3) := by decide +kernel
theorem dX6_believed_50 : decode cX6_believed 50 = .ok (.bipush 101, 2) := by decide +kernel
theorem dX6_believed_52 : decode cX6_believed 52 = .ok (.iconst 1, 1) := by decide +kernel
theorem dX6_believed_53 : decode cX6_believed 53 = .ok (.aload_n 0, 1) := by decide +kernel
theorem dX6_believed_54 : decode cX6_believed 54 = .ok (.getfield 9, 3) := by decide +kernel
theorem dX6_believed_57 : decode cX6_believed 57 = .ok (.invokevirtual 137, 3) := by decide +kernel
theorem dX6_believed_60 : decode cX6_believed 60 = .ok (.ifCond .eq 12, 3) := by decide +kernel
theorem dX6_believed_63 : decode cX6_believed 63 = .ok (.iload 4, 2) := by decide +kernel
theorem dX6_believed_65 : decode cX6_believed 65 = .ok (.iconst 1, 1) := by decide +kernel
theorem dX6_believed_66 : decode cX6_believed 66 = .ok (.iload 5, 2) := by decide +kernel
theorem dX6_believed_68 : decode cX6_believed 68 = .ok (.ishl, 1) := by decide +kernel
theorem dX6_believed_69 : decode cX6_believed 69 = .ok (.ior, 1) := by decide +kernel
theorem dX6_believed_70 : decode cX6_believed 70 = .ok (.istore 4, 2) := by decide +kernel
theorem dX6_believed_72 : decode cX6_believed 72 = .ok (.iinc 5 1, 3) := by decide +kernel
theorem dX6_believed_75 : decode cX6_believed 75 = .ok (.goto (-53), 3) := by decide +kernel
theorem dX6_believed_78 : decode cX6_believed 78 = .ok (.iload 4, 2) := by decide +kernel
theorem dX6_believed_80 : decode cX6_believed 80 = .ok (.ireturn, 1) := by decide +kernel
theorem rX6_believed : (∀ (d : Nat) (L st : List Value) (h : fk_H), fk_ev d qX6_believed 0 L st h = fk_ev d qX6_believed 1 L (.int (nI 0) :: st) h) ∧
  (∀ (d : Nat) (a0 a1 a2 a3 a4 a5 : Value) (x : Int32) (st : List Value) (h : fk_H), fk_ev d qX6_believed 1 [a0, a1, a2, a3, a4, a5] (.int x :: st) h = fk_ev d qX6_believed 3 [a0, a1, a2, a3, .int x, a5] st h) ∧
  (∀ (d : Nat) (a1 a2 a3 a4 a5 : Value) (x : Nat) (st : List Value) (h : fk_H), fk_ev d qX6_believed 3 [.ref x, a1, a2, a3, a4, a5] st h = fk_ev d qX6_believed 4 [.ref x, a1, a2, a3, a4, a5] (.ref x :: st) h) ∧
  (∀ (d : Nat) (a0 a2 a3 a4 a5 : Value) (x : Nat) (st : List Value) (h : fk_H), fk_ev d qX6_believed 4 [a0, .ref x, a2, a3, a4, a5] st h = fk_ev d qX6_believed 5 [a0, .ref x, a2, a3, a4, a5] (.ref x :: st) h) ∧
  (∀ (d : Nat) (L : List Value) (x0 : Nat)  (N : Nat) (y : Nat → Nat → Int32) (l : Nat → Nat → Int64), fk_ev (d + 1) qX6_believed 5 L (.ref x0 :: .ref 238 :: []) (fk_E N y l) = (fk_ev d qX6_speakOf 0 [.ref 238, .ref x0] [] (fk_E N y l)).bind fun o => fk_ev (d + 1) qX6_believed 8 L (o.1.toList ++ []) o.2) ∧
  (∀ (d : Nat) (a1 a2 a3 a4 a5 : Value) (x : Nat) (st : List Value) (h : fk_H), fk_ev d qX6_believed 8 [.ref x, a1, a2, a3, a4, a5] st h = fk_ev d qX6_believed 9 [.ref x, a1, a2, a3, a4, a5] (.ref x :: st) h) ∧
  (∀ (d : Nat) (L st : List Value) (N : Nat) (y : Nat → Nat → Int32) (l : Nat → Nat → Int64), fk_ev d qX6_believed 9 L (.ref 238 :: st) (fk_E N y l) = fk_ev d qX6_believed 12 L (.ref 239 :: st) (fk_E N y l)) ∧
  (∀ (d : Nat) (L st : List Value) (h : fk_H), fk_ev d qX6_believed 12 L st h = fk_ev d qX6_believed 14 L (.int (nI 24) :: st) h) ∧
  (∀ (d : Nat) (a0 a1 a3 a4 a5 : Value) (x : Nat) (st : List Value) (h : fk_H), fk_ev d qX6_believed 14 [a0, a1, .ref x, a3, a4, a5] st h = fk_ev d qX6_believed 15 [a0, a1, .ref x, a3, a4, a5] (.ref x :: st) h) ∧
  (∀ (d : Nat) (L st : List Value) (N : Nat) (y : Nat → Nat → Int32) (l : Nat → Nat → Int64) (c : Nat), fk_at c 0 → fk_ev d qX6_believed 15 L (.ref c :: st) (fk_E N y l) = fk_ev d qX6_believed 18 L (.int (y c 0) :: st) (fk_E N y l)) ∧
  (∀ (d : Nat) (L st : List Value) (N : Nat) (y : Nat → Nat → Int32) (l : Nat → Nat → Int64) (i : Nat) (v : Int32), i < 26 → fk_ev d qX6_believed 18 L (.int v :: .int (nI i) :: .ref 239 :: st) (fk_E N y l) = fk_ev d qX6_believed 19 L st (fk_E N (fk_u y 239 i v) l)) ∧
  (∀ (d : Nat) (L st : List Value) (h : fk_H), fk_ev d qX6_believed 19 L st h = fk_ev d qX6_believed 20 L (.int (nI 0) :: st) h) ∧
  (∀ (d : Nat) (a0 a1 a2 a3 a4 a5 : Value) (x : Int32) (st : List Value) (h : fk_H), fk_ev d qX6_believed 20 [a0, a1, a2, a3, a4, a5] (.int x :: st) h = fk_ev d qX6_believed 22 [a0, a1, a2, a3, a4, .int x] st h) ∧
  (∀ (d : Nat) (L st : List Value) (h : fk_H), fk_ev d qX6_believed 24 L st h = fk_ev d qX6_believed 26 L (.int (nI 16) :: st) h) ∧
  (∀ (d : Nat) (L : List Value) (x y : Int32) (st : List Value) (h : fk_H), fk_ev d qX6_believed 26 L (.int y :: .int x :: st) h = if y ≤ x then fk_ev d qX6_believed 78 L st h else fk_ev d qX6_believed 29 L st h) ∧
  (∀ (d : Nat) (a1 a2 a3 a4 a5 : Value) (x : Nat) (st : List Value) (h : fk_H), fk_ev d qX6_believed 29 [.ref x, a1, a2, a3, a4, a5] st h = fk_ev d qX6_believed 30 [.ref x, a1, a2, a3, a4, a5] (.ref x :: st) h) ∧
  (∀ (d : Nat) (L st : List Value) (N : Nat) (y : Nat → Nat → Int32) (l : Nat → Nat → Int64), fk_ev d qX6_believed 30 L (.ref 238 :: st) (fk_E N y l) = fk_ev d qX6_believed 33 L (.ref 239 :: st) (fk_E N y l)) ∧
  (∀ (d : Nat) (L st : List Value) (h : fk_H), fk_ev d qX6_believed 33 L st h = fk_ev d qX6_believed 34 L (.int (nI 5) :: st) h) ∧
  (∀ (d : Nat) (a0 a1 a2 a3 a4 : Value) (x : Int32) (st : List Value) (h : fk_H), fk_ev d qX6_believed 34 [a0, a1, a2, a3, a4, .int x] st h = fk_ev d qX6_believed 36 [a0, a1, a2, a3, a4, .int x] (.int x :: st) h) ∧
  (∀ (d : Nat) (L st : List Value) (N : Nat) (y : Nat → Nat → Int32) (l : Nat → Nat → Int64) (i : Nat) (v : Int32), i < 26 → fk_ev d qX6_believed 36 L (.int v :: .int (nI i) :: .ref 239 :: st) (fk_E N y l) = fk_ev d qX6_believed 37 L st (fk_E N (fk_u y 239 i v) l)) ∧
  (∀ (d : Nat) (a0 a1 a2 a4 a5 : Value) (x : Int32) (st : List Value) (h : fk_H), fk_ev d qX6_believed 37 [a0, a1, a2, .int x, a4, a5] st h = fk_ev d qX6_believed 38 [a0, a1, a2, .int x, a4, a5] (.int x :: st) h) ∧
  (∀ (d : Nat) (a0 a1 a2 a3 a4 : Value) (x : Int32) (st : List Value) (h : fk_H), fk_ev d qX6_believed 38 [a0, a1, a2, a3, a4, .int x] st h = fk_ev d qX6_believed 40 [a0, a1, a2, a3, a4, .int x] (.int x :: st) h) ∧
  (∀ (d : Nat) (L : List Value) (x y : Int32) (st : List Value) (h : fk_H), fk_ev d qX6_believed 40 L (.int y :: .int x :: st) h = fk_ev d qX6_believed 41 L (.int (x >>> (y &&& 31)) :: st) h) ∧
  (∀ (d : Nat) (L st : List Value) (h : fk_H), fk_ev d qX6_believed 41 L st h = fk_ev d qX6_believed 42 L (.int (nI 1) :: st) h) ∧
  (∀ (d : Nat) (L : List Value) (x y : Int32) (st : List Value) (h : fk_H), fk_ev d qX6_believed 42 L (.int y :: .int x :: st) h = fk_ev d qX6_believed 43 L (.int (x &&& y) :: st) h) ∧
  (∀ (d : Nat) (L : List Value) (x : Int32) (st : List Value) (h : fk_H), fk_ev d qX6_believed 43 L (.int x :: st) h = if x = nI 0 then fk_ev d qX6_believed 72 L st h else fk_ev d qX6_believed 46 L st h) ∧
  (∀ (d : Nat) (a1 a2 a3 a4 a5 : Value) (x : Nat) (st : List Value) (h : fk_H), fk_ev d qX6_believed 46 [.ref x, a1, a2, a3, a4, a5] st h = fk_ev d qX6_believed 47 [.ref x, a1, a2, a3, a4, a5] (.ref x :: st) h) ∧
  (∀ (d : Nat) (L st : List Value) (N : Nat) (y : Nat → Nat → Int32) (l : Nat → Nat → Int64), fk_ev d qX6_believed 47 L (.ref 238 :: st) (fk_E N y l) = fk_ev d qX6_believed 50 L (.ref (y 238 3).toNatClampNeg :: st) (fk_E N y l)) ∧
  (∀ (d : Nat) (L st : List Value) (h : fk_H), fk_ev d qX6_believed 50 L st h = fk_ev d qX6_believed 52 L (.int (nI 101) :: st) h) ∧
  (∀ (d : Nat) (L st : List Value) (h : fk_H), fk_ev d qX6_believed 52 L st h = fk_ev d qX6_believed 53 L (.int (nI 1) :: st) h) ∧
  (∀ (d : Nat) (a1 a2 a3 a4 a5 : Value) (x : Nat) (st : List Value) (h : fk_H), fk_ev d qX6_believed 53 [.ref x, a1, a2, a3, a4, a5] st h = fk_ev d qX6_believed 54 [.ref x, a1, a2, a3, a4, a5] (.ref x :: st) h) ∧
  (∀ (d : Nat) (L st : List Value) (N : Nat) (y : Nat → Nat → Int32) (l : Nat → Nat → Int64), fk_ev d qX6_believed 54 L (.ref 238 :: st) (fk_E N y l) = fk_ev d qX6_believed 57 L (.ref 239 :: st) (fk_E N y l)) ∧
  (∀ (d : Nat) (L : List Value) (x0 : Int32) (x1 : Int32) (x2 : Nat)  (N : Nat) (y : Nat → Nat → Int32) (l : Nat → Nat → Int64) (c : Nat), fk_at c 3 → fk_ev (d + 1) qX6_believed 57 L (.ref x2 :: .int x1 :: .int x0 :: .ref c :: []) (fk_E N y l) = (fk_ev d qX3_value 0 [.ref c, .int x0, .int x1, .ref x2, .null] [] (fk_E N y l)).bind fun o => fk_ev (d + 1) qX6_believed 60 L (o.1.toList ++ []) o.2) ∧
  (∀ (d : Nat) (L : List Value) (x : Int32) (st : List Value) (h : fk_H), fk_ev d qX6_believed 60 L (.int x :: st) h = if x = nI 0 then fk_ev d qX6_believed 72 L st h else fk_ev d qX6_believed 63 L st h) ∧
  (∀ (d : Nat) (a0 a1 a2 a3 a5 : Value) (x : Int32) (st : List Value) (h : fk_H), fk_ev d qX6_believed 63 [a0, a1, a2, a3, .int x, a5] st h = fk_ev d qX6_believed 65 [a0, a1, a2, a3, .int x, a5] (.int x :: st) h) ∧
  (∀ (d : Nat) (L st : List Value) (h : fk_H), fk_ev d qX6_believed 65 L st h = fk_ev d qX6_believed 66 L (.int (nI 1) :: st) h) ∧
  (∀ (d : Nat) (a0 a1 a2 a3 a4 : Value) (x : Int32) (st : List Value) (h : fk_H), fk_ev d qX6_believed 66 [a0, a1, a2, a3, a4, .int x] st h = fk_ev d qX6_believed 68 [a0, a1, a2, a3, a4, .int x] (.int x :: st) h) ∧
  (∀ (d : Nat) (L : List Value) (x y : Int32) (st : List Value) (h : fk_H), fk_ev d qX6_believed 68 L (.int y :: .int x :: st) h = fk_ev d qX6_believed 69 L (.int (x <<< (y &&& 31)) :: st) h) ∧
  (∀ (d : Nat) (L : List Value) (x y : Int32) (st : List Value) (h : fk_H), fk_ev d qX6_believed 69 L (.int y :: .int x :: st) h = fk_ev d qX6_believed 70 L (.int (x ||| y) :: st) h) ∧
  (∀ (d : Nat) (a0 a1 a2 a3 a4 a5 : Value) (x : Int32) (st : List Value) (h : fk_H), fk_ev d qX6_believed 70 [a0, a1, a2, a3, a4, a5] (.int x :: st) h = fk_ev d qX6_believed 72 [a0, a1, a2, a3, .int x, a5] st h) ∧
  (∀ (d : Nat) (a0 a1 a2 a3 a4 : Value) (x : Int32) (st : List Value) (h : fk_H), fk_ev d qX6_believed 72 [a0, a1, a2, a3, a4, .int x] st h = fk_ev d qX6_believed 75 [a0, a1, a2, a3, a4, .int (x + nI 1)] st h) ∧
  (∀ (d : Nat) (L st : List Value) (h : fk_H), fk_ev d qX6_believed 75 L st h = fk_ev d qX6_believed 22 L st h) ∧
  (∀ (d : Nat) (a0 a1 a2 a3 a5 : Value) (x : Int32) (st : List Value) (h : fk_H), fk_ev d qX6_believed 78 [a0, a1, a2, a3, .int x, a5] st h = fk_ev d qX6_believed 80 [a0, a1, a2, a3, .int x, a5] (.int x :: st) h) ∧
  (∀ (d : Nat) (L : List Value) (x : Int32) (h : fk_H), fk_ev d qX6_believed 80 L [.int x] h = some (some (.int x), h)) := ⟨fun d L st h => fk_w_iconst dX6_believed_0 (by decide),
  fun d a0 a1 a2 a3 a4 a5 x st h => fk_w_istore 4 6 [] [a0, a1, a2, a3, a4, a5] [a0, a1, a2, a3, .int x, a5] dX6_believed_1 rfl rfl (by decide) rfl,
  fun d a1 a2 a3 a4 a5 x st h => fk_w_aloadn 0 [.ref x, a1, a2, a3, a4, a5] dX6_believed_3 rfl,
  fun d a0 a2 a3 a4 a5 x st h => fk_w_aloadn 1 [a0, .ref x, a2, a3, a4, a5] dX6_believed_4 rfl,
  fun d L x0 N y l  => fk_g_call [.ref x0] [] rfl lm_6_129 dX6_believed_5 rfl ⟨rfl, by decide⟩ (by simp) fk_at_238,
  fun d a1 a2 a3 a4 a5 x st h => fk_w_aloadn 0 [.ref x, a1, a2, a3, a4, a5] dX6_believed_8 rfl,
  fun d L st N y l => fk_g_getC rfl lf_6_9 (by decide) rfl dX6_believed_9 fk_at_238,
  fun d L st h => fk_w_bipush dX6_believed_12 (by decide),
  fun d a0 a1 a3 a4 a5 x st h => fk_w_aloadn 2 [a0, a1, .ref x, a3, a4, a5] dX6_believed_14 rfl,
  fun d L st N y l c hc => fk_g_getI rfl lf_6_183 (by decide) dX6_believed_15 hc,
  fun d L st N y l i v hi => fk_g_iast fk_at_239 fk_ln_239 (by decide) dX6_believed_18 hi,
  fun d L st h => fk_w_iconst dX6_believed_19 (by decide),
  fun d a0 a1 a2 a3 a4 a5 x st h => fk_w_istore 5 6 [] [a0, a1, a2, a3, a4, a5] [a0, a1, a2, a3, a4, .int x] dX6_believed_20 rfl rfl (by decide) rfl,
  fun d L st h => fk_w_bipush dX6_believed_24 (by decide),
  fun d L x y st h => fk_r_icmp_ge dX6_believed_26 (by decide),
  fun d a1 a2 a3 a4 a5 x st h => fk_w_aloadn 0 [.ref x, a1, a2, a3, a4, a5] dX6_believed_29 rfl,
  fun d L st N y l => fk_g_getC rfl lf_6_9 (by decide) rfl dX6_believed_30 fk_at_238,
  fun d L st h => fk_w_iconst dX6_believed_33 (by decide),
  fun d a0 a1 a2 a3 a4 x st h => fk_w_iload 5 [a0, a1, a2, a3, a4, .int x] dX6_believed_34 rfl,
  fun d L st N y l i v hi => fk_g_iast fk_at_239 fk_ln_239 (by decide) dX6_believed_36 hi,
  fun d a0 a1 a2 a4 a5 x st h => fk_w_iloadn 3 [a0, a1, a2, .int x, a4, a5] dX6_believed_37 rfl,
  fun d a0 a1 a2 a3 a4 x st h => fk_w_iload 5 [a0, a1, a2, a3, a4, .int x] dX6_believed_38 rfl,
  fun d L x y st h => fk_r_ishr dX6_believed_40,
  fun d L st h => fk_w_iconst dX6_believed_41 (by decide),
  fun d L x y st h => fk_r_iand dX6_believed_42,
  fun d L x st h => fk_r_if_eq dX6_believed_43 (by decide),
  fun d a1 a2 a3 a4 a5 x st h => fk_w_aloadn 0 [.ref x, a1, a2, a3, a4, a5] dX6_believed_46 rfl,
  fun d L st N y l => fk_g_getM rfl lf_6_36 (by decide) dX6_believed_47 fk_at_238,
  fun d L st h => fk_w_bipush dX6_believed_50 (by decide),
  fun d L st h => fk_w_iconst dX6_believed_52 (by decide),
  fun d a1 a2 a3 a4 a5 x st h => fk_w_aloadn 0 [.ref x, a1, a2, a3, a4, a5] dX6_believed_53 rfl,
  fun d L st N y l => fk_g_getC rfl lf_6_9 (by decide) rfl dX6_believed_54 fk_at_238,
  fun d L x0 x1 x2 N y l c hc => fk_g_call [.int x0, .int x1, .ref x2] [] rfl lm_6_137 dX6_believed_57 rfl ⟨rfl, by decide⟩ (by simp) hc,
  fun d L x st h => fk_r_if_eq dX6_believed_60 (by decide),
  fun d a0 a1 a2 a3 a5 x st h => fk_w_iload 4 [a0, a1, a2, a3, .int x, a5] dX6_believed_63 rfl,
  fun d L st h => fk_w_iconst dX6_believed_65 (by decide),
  fun d a0 a1 a2 a3 a4 x st h => fk_w_iload 5 [a0, a1, a2, a3, a4, .int x] dX6_believed_66 rfl,
  fun d L x y st h => fk_r_ishl dX6_believed_68,
  fun d L x y st h => fk_r_ior dX6_believed_69,
  fun d a0 a1 a2 a3 a4 a5 x st h => fk_w_istore 4 6 [] [a0, a1, a2, a3, a4, a5] [a0, a1, a2, a3, .int x, a5] dX6_believed_70 rfl rfl (by decide) rfl,
  fun d a0 a1 a2 a3 a4 x st h => fk_w_iinc 5 6 (1) [] [a0, a1, a2, a3, a4, .int x] [a0, a1, a2, a3, a4, .int (x + nI 1)] dX6_believed_72 rfl rfl rfl (by decide) rfl,
  fun d L st h => fk_r_goto dX6_believed_75 (by decide),
  fun d a0 a1 a2 a3 a5 x st h => fk_w_iload 4 [a0, a1, a2, a3, .int x, a5] dX6_believed_78 rfl,
  fun d L x h => fk_r_ret dX6_believed_80 (Or.inl rfl)⟩
theorem hX6_believed_22 : ∀ (d : Nat) (a0 a1 a2 a3 a4 : Value) (x : Int32) (st : List Value) (h : fk_H), fk_ev d qX6_believed 22 [a0, a1, a2, a3, a4, .int x] st h = fk_ev d qX6_believed 24 [a0, a1, a2, a3, a4, .int x] (.int x :: st) h := fun d a0 a1 a2 a3 a4 x st h => fk_w_iload 5 [a0, a1, a2, a3, a4, .int x] dX6_believed_22 rfl
theorem dX7_copyFrom_0 : decode cX7_copyFrom 0 = .ok (.aload_n 1, 1) := by decide +kernel
theorem dX7_copyFrom_1 : decode cX7_copyFrom 1 = .ok (.getfield 9, 3) := by decide +kernel
theorem dX7_copyFrom_4 : decode cX7_copyFrom 4 = .ok (.iconst 0, 1) := by decide +kernel
theorem dX7_copyFrom_5 : decode cX7_copyFrom 5 = .ok (.aload_n 0, 1) := by decide +kernel
theorem dX7_copyFrom_6 : decode cX7_copyFrom 6 = .ok (.getfield 9, 3) := by decide +kernel
theorem dX7_copyFrom_9 : decode cX7_copyFrom 9 = .ok (.iconst 0, 1) := by decide +kernel
theorem dX7_copyFrom_10 : decode cX7_copyFrom 10 = .ok (.aload_n 0, 1) := by decide +kernel
theorem dX7_copyFrom_11 : decode cX7_copyFrom 11 = .ok (.getfield 9, 3) := by decide +kernel
theorem dX7_copyFrom_14 : decode cX7_copyFrom 14 = .ok (.arraylength, 1) := by decide +kernel
theorem dX7_copyFrom_15 : decode cX7_copyFrom 15 = .ok (.invokestatic 15, 3) := by decide +kernel
theorem dX7_copyFrom_18 : decode cX7_copyFrom 18 = .ok (.return_, 1) := by decide +kernel
theorem rX7_copyFrom : (∀ (d : Nat) (a0 : Value) (x : Nat) (st : List Value) (h : fk_H), fk_ev d qX7_copyFrom 0 [a0, .ref x] st h = fk_ev d qX7_copyFrom 1 [a0, .ref x] (.ref x :: st) h) ∧
  (∀ (d : Nat) (L st : List Value) (N : Nat) (y : Nat → Nat → Int32) (l : Nat → Nat → Int64) (c : Nat), fk_at c 7 → fk_ev d qX7_copyFrom 1 L (.ref c :: st) (fk_E N y l) = fk_ev d qX7_copyFrom 4 L (.ref (fk_cr c 0) :: st) (fk_E N y l)) ∧
  (∀ (d : Nat) (L st : List Value) (h : fk_H), fk_ev d qX7_copyFrom 4 L st h = fk_ev d qX7_copyFrom 5 L (.int (nI 0) :: st) h) ∧
  (∀ (d : Nat) (a1 : Value) (x : Nat) (st : List Value) (h : fk_H), fk_ev d qX7_copyFrom 5 [.ref x, a1] st h = fk_ev d qX7_copyFrom 6 [.ref x, a1] (.ref x :: st) h) ∧
  (∀ (d : Nat) (L st : List Value) (N : Nat) (y : Nat → Nat → Int32) (l : Nat → Nat → Int64) (c : Nat), fk_at c 7 → fk_ev d qX7_copyFrom 6 L (.ref c :: st) (fk_E N y l) = fk_ev d qX7_copyFrom 9 L (.ref (fk_cr c 0) :: st) (fk_E N y l)) ∧
  (∀ (d : Nat) (L st : List Value) (h : fk_H), fk_ev d qX7_copyFrom 9 L st h = fk_ev d qX7_copyFrom 10 L (.int (nI 0) :: st) h) ∧
  (∀ (d : Nat) (a1 : Value) (x : Nat) (st : List Value) (h : fk_H), fk_ev d qX7_copyFrom 10 [.ref x, a1] st h = fk_ev d qX7_copyFrom 11 [.ref x, a1] (.ref x :: st) h) ∧
  (∀ (d : Nat) (L st : List Value) (N : Nat) (y : Nat → Nat → Int32) (l : Nat → Nat → Int64) (c : Nat), fk_at c 7 → fk_ev d qX7_copyFrom 11 L (.ref c :: st) (fk_E N y l) = fk_ev d qX7_copyFrom 14 L (.ref (fk_cr c 0) :: st) (fk_E N y l)) ∧
  (∀ (d : Nat) (L st : List Value) (N : Nat) (y : Nat → Nat → Int32) (l : Nat → Nat → Int64) (c : Nat), fk_at c 20 → fk_ev d qX7_copyFrom 14 L (.ref c :: st) (fk_E N y l) = fk_ev d qX7_copyFrom 15 L (.int (nI (fk_shp c).2) :: st) (fk_E N y l)) ∧
  (∀ (d : Nat) (L : List Value) (n dp a sp a0 : Nat) (N : Nat) (y : Nat → Nat → Int32) (l : Nat → Nat → Int64), fk_at a 20 → fk_at a0 20 → sp + n ≤ (fk_shp a0).2 → dp + n ≤ (fk_shp a).2 → ((fk_shp a0).2 < 2 ^ 31 ∧ (fk_shp a).2 < 2 ^ 31) → fk_ev d qX7_copyFrom 15 L (.int (nI n) :: .int (nI dp) :: .ref a :: .int (nI sp) :: .ref a0 :: []) (fk_E N y l) = fk_ev d qX7_copyFrom 18 L [] (fk_E N (fk_uc y a0 sp a dp n) l)) ∧
  (∀ (d : Nat) (L : List Value) (h : fk_H), fk_ev d qX7_copyFrom 18 L [] h = some (none, h)) := ⟨fun d a0 x st h => fk_w_aloadn 1 [a0, .ref x] dX7_copyFrom_0 rfl,
  fun d L st N y l c hc => fk_g_getC rfl lf_7_9 (by decide) rfl dX7_copyFrom_1 hc,
  fun d L st h => fk_w_iconst dX7_copyFrom_4 (by decide),
  fun d a1 x st h => fk_w_aloadn 0 [.ref x, a1] dX7_copyFrom_5 rfl,
  fun d L st N y l c hc => fk_g_getC rfl lf_7_9 (by decide) rfl dX7_copyFrom_6 hc,
  fun d L st h => fk_w_iconst dX7_copyFrom_9 (by decide),
  fun d a1 x st h => fk_w_aloadn 0 [.ref x, a1] dX7_copyFrom_10 rfl,
  fun d L st N y l c hc => fk_g_getC rfl lf_7_9 (by decide) rfl dX7_copyFrom_11 hc,
  fun d L st N y l c hc => fk_h_alen dX7_copyFrom_14 hc,
  fun d L n dp a sp a0  N y l ha ha0 h1 h2 hb => fk_p_copy dX7_copyFrom_15 ln_7_15 lp_7_15 (by simp) ha ha0 h1 h2 hb,
  fun d L h => fk_r_vret dX7_copyFrom_18 rfl⟩
theorem dX7_remember_0 : decode cX7_remember 0 = .ok (.aload_n 1, 1) := by decide +kernel
theorem dX7_remember_1 : decode cX7_remember 1 = .ok (.getfield 21, 3) := by decide +kernel
theorem dX7_remember_4 : decode cX7_remember 4 = .ok (.bipush 48, 2) := by decide +kernel
theorem dX7_remember_6 : decode cX7_remember 6 = .ok (.irem, 1) := by decide +kernel
theorem dX7_remember_7 : decode cX7_remember 7 = .ok (.bipush 64, 2) := by decide +kernel
theorem dX7_remember_9 : decode cX7_remember 9 = .ok (.imul, 1) := by decide +kernel
theorem dX7_remember_10 : decode cX7_remember 10 = .ok (.istore_n 2, 1) := by decide +kernel
theorem dX7_remember_11 : decode cX7_remember 11 = .ok (.iconst 0, 1) := by decide +kernel
theorem dX7_remember_12 : decode cX7_remember 12 = .ok (.istore_n 3, 1) := by decide +kernel
theorem dX7_remember_13 : decode cX7_remember 13 = .ok (.iload_n 3, 1) := by decide +kernel
theorem dX7_remember_14 : decode cX7_remember 14 = .ok (.bipush 64, 2) := by decide +kernel
theorem dX7_remember_16 : decode cX7_remember 16 = .ok (.if_icmp .ge 39, 3) := by decide +kernel
theorem dX7_remember_19 : decode cX7_remember 19 = .ok (.aload_n 0, 1) := by decide +kernel
theorem dX7_remember_20 : decode cX7_remember 20 = .ok (.getfield 9, 3) := by decide +kernel
theorem dX7_remember_23 : decode cX7_remember 23 = .ok (.iload_n 2, 1) := by decide +kernel
theorem dX7_remember_24 : decode cX7_remember 24 = .ok (.iload_n 3, 1) := by decide +kernel
theorem dX7_remember_25 : decode cX7_remember 25 = .ok (.iadd, 1) := by decide +kernel
theorem dX7_remember_26 : decode cX7_remember 26 = .ok (.aload_n 1, 1) := by decide +kernel
theorem dX7_remember_27 : decode cX7_remember 27 = .ok (.iload_n 3, 1) := by decide +kernel
theorem dX7_remember_28 : decode cX7_remember 28 = .ok (.invokevirtual 27, 3) := by decide +kernel
theorem dX7_remember_31 : decode cX7_remember 31 = .ok (.ifCond .eq 15, 3) := by decide +kernel
theorem dX7_remember_34 : decode cX7_remember 34 = .ok (.aload_n 1, 1) := by decide +kernel
theorem dX7_remember_35 : decode cX7_remember 35 = .ok (.getfield 31, 3) := by decide +kernel
theorem dX7_remember_38 : decode cX7_remember 38 = .ok (.iload_n 3, 1) := by decide +kernel
theorem dX7_remember_39 : decode cX7_remember 39 = .ok (.aaload, 1) := by decide +kernel
theorem dX7_remember_40 : decode cX7_remember 40 = .ok (.getfield 35, 3) := by decide +kernel
theorem dX7_remember_43 : decode cX7_remember 43 = .ok (.goto 5, 3) := by decide +kernel
theorem dX7_remember_46 : decode cX7_remember 46 = .ok (.bipush (-2), 2) := by decide +kernel
theorem dX7_remember_48 : decode cX7_remember 48 = .ok (.iastore, 1) := by decide +kernel
theorem dX7_remember_49 : decode cX7_remember 49 = .ok (.iinc 3 1, 3) := by decide +kernel
theorem dX7_remember_52 : decode cX7_remember 52 = .ok (.goto (-39), 3) := by decide +kernel
theorem dX7_remember_55 : decode cX7_remember 55 = .ok (.return_, 1) := by decide +kernel
theorem rX7_remember : (∀ (d : Nat) (a0 a2 a3 : Value) (x : Nat) (st : List Value) (h : fk_H), fk_ev d qX7_remember 0 [a0, .ref x, a2, a3] st h = fk_ev d qX7_remember 1 [a0, .ref x, a2, a3] (.ref x :: st) h) ∧
  (∀ (d : Nat) (L st : List Value) (N : Nat) (y : Nat → Nat → Int32) (l : Nat → Nat → Int64) (c : Nat), fk_at c 8 → fk_ev d qX7_remember 1 L (.ref c :: st) (fk_E N y l) = fk_ev d qX7_remember 4 L (.int (y c 3) :: st) (fk_E N y l)) ∧
  (∀ (d : Nat) (L st : List Value) (h : fk_H), fk_ev d qX7_remember 4 L st h = fk_ev d qX7_remember 6 L (.int (nI 48) :: st) h) ∧
  (∀ (d : Nat) (L : List Value) (x y : Int32) (st : List Value) (h : fk_H), fk_ev d qX7_remember 6 L (.int y :: .int x :: st) h = if y = 0 then none else fk_ev d qX7_remember 7 L (.int (x - x / y * y) :: st) h) ∧
  (∀ (d : Nat) (L st : List Value) (h : fk_H), fk_ev d qX7_remember 7 L st h = fk_ev d qX7_remember 9 L (.int (nI 64) :: st) h) ∧
  (∀ (d : Nat) (L : List Value) (x y : Int32) (st : List Value) (h : fk_H), fk_ev d qX7_remember 9 L (.int y :: .int x :: st) h = fk_ev d qX7_remember 10 L (.int (x * y) :: st) h) ∧
  (∀ (d : Nat) (a0 a1 a2 a3 : Value) (x : Int32) (st : List Value) (h : fk_H), fk_ev d qX7_remember 10 [a0, a1, a2, a3] (.int x :: st) h = fk_ev d qX7_remember 11 [a0, a1, .int x, a3] st h) ∧
  (∀ (d : Nat) (L st : List Value) (h : fk_H), fk_ev d qX7_remember 11 L st h = fk_ev d qX7_remember 12 L (.int (nI 0) :: st) h) ∧
  (∀ (d : Nat) (a0 a1 a2 a3 : Value) (x : Int32) (st : List Value) (h : fk_H), fk_ev d qX7_remember 12 [a0, a1, a2, a3] (.int x :: st) h = fk_ev d qX7_remember 13 [a0, a1, a2, .int x] st h) ∧
  (∀ (d : Nat) (L st : List Value) (h : fk_H), fk_ev d qX7_remember 14 L st h = fk_ev d qX7_remember 16 L (.int (nI 64) :: st) h) ∧
  (∀ (d : Nat) (L : List Value) (x y : Int32) (st : List Value) (h : fk_H), fk_ev d qX7_remember 16 L (.int y :: .int x :: st) h = if y ≤ x then fk_ev d qX7_remember 55 L st h else fk_ev d qX7_remember 19 L st h) ∧
  (∀ (d : Nat) (a1 a2 a3 : Value) (x : Nat) (st : List Value) (h : fk_H), fk_ev d qX7_remember 19 [.ref x, a1, a2, a3] st h = fk_ev d qX7_remember 20 [.ref x, a1, a2, a3] (.ref x :: st) h) ∧
  (∀ (d : Nat) (L st : List Value) (N : Nat) (y : Nat → Nat → Int32) (l : Nat → Nat → Int64) (c : Nat), fk_at c 7 → fk_ev d qX7_remember 20 L (.ref c :: st) (fk_E N y l) = fk_ev d qX7_remember 23 L (.ref (fk_cr c 0) :: st) (fk_E N y l)) ∧
  (∀ (d : Nat) (a0 a1 a3 : Value) (x : Int32) (st : List Value) (h : fk_H), fk_ev d qX7_remember 23 [a0, a1, .int x, a3] st h = fk_ev d qX7_remember 24 [a0, a1, .int x, a3] (.int x :: st) h) ∧
  (∀ (d : Nat) (a0 a1 a2 : Value) (x : Int32) (st : List Value) (h : fk_H), fk_ev d qX7_remember 24 [a0, a1, a2, .int x] st h = fk_ev d qX7_remember 25 [a0, a1, a2, .int x] (.int x :: st) h) ∧
  (∀ (d : Nat) (L : List Value) (x y : Int32) (st : List Value) (h : fk_H), fk_ev d qX7_remember 25 L (.int y :: .int x :: st) h = fk_ev d qX7_remember 26 L (.int (x + y) :: st) h) ∧
  (∀ (d : Nat) (a0 a2 a3 : Value) (x : Nat) (st : List Value) (h : fk_H), fk_ev d qX7_remember 26 [a0, .ref x, a2, a3] st h = fk_ev d qX7_remember 27 [a0, .ref x, a2, a3] (.ref x :: st) h) ∧
  (∀ (d : Nat) (a0 a1 a2 : Value) (x : Int32) (st : List Value) (h : fk_H), fk_ev d qX7_remember 27 [a0, a1, a2, .int x] st h = fk_ev d qX7_remember 28 [a0, a1, a2, .int x] (.int x :: st) h) ∧
  (∀ (d : Nat) (L : List Value) (x0 : Int32) (w0 w1 : Value) (N : Nat) (y : Nat → Nat → Int32) (l : Nat → Nat → Int64) (c : Nat), fk_at c 8 → fk_ev (d + 1) qX7_remember 28 L (.int x0 :: .ref c :: [w0, w1]) (fk_E N y l) = (fk_ev d qX8_isAtPlace 0 [.ref c, .int x0] [] (fk_E N y l)).bind fun o => fk_ev (d + 1) qX7_remember 31 L (o.1.toList ++ [w0, w1]) o.2) ∧
  (∀ (d : Nat) (L : List Value) (x : Int32) (st : List Value) (h : fk_H), fk_ev d qX7_remember 31 L (.int x :: st) h = if x = nI 0 then fk_ev d qX7_remember 46 L st h else fk_ev d qX7_remember 34 L st h) ∧
  (∀ (d : Nat) (a0 a2 a3 : Value) (x : Nat) (st : List Value) (h : fk_H), fk_ev d qX7_remember 34 [a0, .ref x, a2, a3] st h = fk_ev d qX7_remember 35 [a0, .ref x, a2, a3] (.ref x :: st) h) ∧
  (∀ (d : Nat) (L st : List Value) (N : Nat) (y : Nat → Nat → Int32) (l : Nat → Nat → Int64) (c : Nat), fk_at c 8 → fk_ev d qX7_remember 35 L (.ref c :: st) (fk_E N y l) = fk_ev d qX7_remember 38 L (.ref (fk_cr c 0) :: st) (fk_E N y l)) ∧
  (∀ (d : Nat) (a0 a1 a2 : Value) (x : Int32) (st : List Value) (h : fk_H), fk_ev d qX7_remember 38 [a0, a1, a2, .int x] st h = fk_ev d qX7_remember 39 [a0, a1, a2, .int x] (.int x :: st) h) ∧
  (∀ (d : Nat) (L st : List Value) (N : Nat) (y : Nat → Nat → Int32) (l : Nat → Nat → Int64) (c i : Nat), fk_at c 24 → i < (fk_shp c).2 → (fk_shp c).2 < 2 ^ 31 → fk_ev d qX7_remember 39 L (.int (nI i) :: .ref c :: st) (fk_E N y l) = fk_ev d qX7_remember 40 L (.ref (c + 2 + i) :: st) (fk_E N y l)) ∧
  (∀ (d : Nat) (L st : List Value) (N : Nat) (y : Nat → Nat → Int32) (l : Nat → Nat → Int64) (c : Nat), fk_at c 0 → fk_ev d qX7_remember 40 L (.ref c :: st) (fk_E N y l) = fk_ev d qX7_remember 43 L (.int (y c 6) :: st) (fk_E N y l)) ∧
  (∀ (d : Nat) (L st : List Value) (h : fk_H), fk_ev d qX7_remember 43 L st h = fk_ev d qX7_remember 48 L st h) ∧
  (∀ (d : Nat) (L st : List Value) (h : fk_H), fk_ev d qX7_remember 46 L st h = fk_ev d qX7_remember 48 L (.int ((-2 : Int32)) :: st) h) ∧
  (∀ (d : Nat) (L st : List Value) (N : Nat) (y : Nat → Nat → Int32) (l : Nat → Nat → Int64) (c i : Nat) (v : Int32), fk_at c 20 → i < (fk_shp c).2 → (fk_shp c).2 < 2 ^ 31 → fk_ev d qX7_remember 48 L (.int v :: .int (nI i) :: .ref c :: st) (fk_E N y l) = fk_ev d qX7_remember 49 L st (fk_E N (fk_u y c i v) l)) ∧
  (∀ (d : Nat) (a0 a1 a2 : Value) (x : Int32) (st : List Value) (h : fk_H), fk_ev d qX7_remember 49 [a0, a1, a2, .int x] st h = fk_ev d qX7_remember 52 [a0, a1, a2, .int (x + nI 1)] st h) ∧
  (∀ (d : Nat) (L st : List Value) (h : fk_H), fk_ev d qX7_remember 52 L st h = fk_ev d qX7_remember 13 L st h) ∧
  (∀ (d : Nat) (L : List Value) (h : fk_H), fk_ev d qX7_remember 55 L [] h = some (none, h)) := ⟨fun d a0 a2 a3 x st h => fk_w_aloadn 1 [a0, .ref x, a2, a3] dX7_remember_0 rfl,
  fun d L st N y l c hc => fk_g_getI rfl lf_7_21 (by decide) dX7_remember_1 hc,
  fun d L st h => fk_w_bipush dX7_remember_4 (by decide),
  fun d L x y st h => fk_r_irem dX7_remember_6,
  fun d L st h => fk_w_bipush dX7_remember_7 (by decide),
  fun d L x y st h => fk_r_imul dX7_remember_9,
  fun d a0 a1 a2 a3 x st h => fk_w_istoren 2 4 [] [a0, a1, a2, a3] [a0, a1, .int x, a3] dX7_remember_10 rfl rfl (by decide) rfl,
  fun d L st h => fk_w_iconst dX7_remember_11 (by decide),
  fun d a0 a1 a2 a3 x st h => fk_w_istoren 3 4 [] [a0, a1, a2, a3] [a0, a1, a2, .int x] dX7_remember_12 rfl rfl (by decide) rfl,
  fun d L st h => fk_w_bipush dX7_remember_14 (by decide),
  fun d L x y st h => fk_r_icmp_ge dX7_remember_16 (by decide),
  fun d a1 a2 a3 x st h => fk_w_aloadn 0 [.ref x, a1, a2, a3] dX7_remember_19 rfl,
  fun d L st N y l c hc => fk_g_getC rfl lf_7_9 (by decide) rfl dX7_remember_20 hc,
  fun d a0 a1 a3 x st h => fk_w_iloadn 2 [a0, a1, .int x, a3] dX7_remember_23 rfl,
  fun d a0 a1 a2 x st h => fk_w_iloadn 3 [a0, a1, a2, .int x] dX7_remember_24 rfl,
  fun d L x y st h => fk_r_iadd dX7_remember_25,
  fun d a0 a2 a3 x st h => fk_w_aloadn 1 [a0, .ref x, a2, a3] dX7_remember_26 rfl,
  fun d a0 a1 a2 x st h => fk_w_iloadn 3 [a0, a1, a2, .int x] dX7_remember_27 rfl,
  fun d L x0 w0 w1 N y l c hc => fk_g_call [.int x0] [w0, w1] rfl lm_7_27 dX7_remember_28 rfl ⟨rfl, by decide⟩ (by simp) hc,
  fun d L x st h => fk_r_if_eq dX7_remember_31 (by decide),
  fun d a0 a2 a3 x st h => fk_w_aloadn 1 [a0, .ref x, a2, a3] dX7_remember_34 rfl,
  fun d L st N y l c hc => fk_g_getC rfl lf_7_31 (by decide) rfl dX7_remember_35 hc,
  fun d a0 a1 a2 x st h => fk_w_iloadn 3 [a0, a1, a2, .int x] dX7_remember_38 rfl,
  fun d L st N y l c i hc hi hl => fk_h_aald dX7_remember_39 hc hi hl,
  fun d L st N y l c hc => fk_g_getI rfl lf_7_35 (by decide) dX7_remember_40 hc,
  fun d L st h => fk_r_goto dX7_remember_43 (by decide),
  fun d L st h => fk_w_bipush dX7_remember_46 (by decide),
  fun d L st N y l c i v hc hi hl => fk_h_iast dX7_remember_48 hc hi hl,
  fun d a0 a1 a2 x st h => fk_w_iinc 3 4 (1) [] [a0, a1, a2, .int x] [a0, a1, a2, .int (x + nI 1)] dX7_remember_49 rfl rfl rfl (by decide) rfl,
  fun d L st h => fk_r_goto dX7_remember_52 (by decide),
  fun d L h => fk_r_vret dX7_remember_55 rfl⟩
theorem hX7_remember_13 : ∀ (d : Nat) (a0 a1 a2 : Value) (x : Int32) (st : List Value) (h : fk_H), fk_ev d qX7_remember 13 [a0, a1, a2, .int x] st h = fk_ev d qX7_remember 14 [a0, a1, a2, .int x] (.int x :: st) h := fun d a0 a1 a2 x st h => fk_w_iloadn 3 [a0, a1, a2, .int x] dX7_remember_13 rfl
theorem dX7_isRemembered_0 : decode cX7_isRemembered 0 = .ok (.iload_n 2, 1) := by decide +kernel
theorem dX7_isRemembered_1 : decode cX7_isRemembered 1 = .ok (.ifCond .lt 26, 3) := by decide +kernel
theorem dX7_isRemembered_4 : decode cX7_isRemembered 4 = .ok (.iload_n 2, 1) := by decide +kernel
theorem dX7_isRemembered_5 : decode cX7_isRemembered 5 = .ok (.aload_n 1, 1) := by decide +kernel
theorem dX7_isRemembered_6 : decode cX7_isRemembered 6 = .ok (.getfield 21, 3) := by decide +kernel
theorem dX7_isRemembered_9 : decode cX7_isRemembered 9 = .ok (.if_icmp .gt 18, 3) := by decide +kernel
theorem dX7_isRemembered_12 : decode cX7_isRemembered 12 = .ok (.iload_n 2, 1) := by decide +kernel
theorem dX7_isRemembered_13 : decode cX7_isRemembered 13 = .ok (.aload_n 1, 1) := by decide +kernel
theorem dX7_isRemembered_14 : decode cX7_isRemembered 14 = .ok (.getfield 21, 3) := by decide +kernel
theorem dX7_isRemembered_17 : decode cX7_isRemembered 17 = .ok (.bipush 48, 2) := by decide +kernel
theorem dX7_isRemembered_19 : decode cX7_isRemembered 19 = .ok (.isub, 1) := by decide +kernel
theorem dX7_isRemembered_20 : decode cX7_isRemembered 20 = .ok (.if_icmp .le 7, 3) := by decide +kernel
theorem dX7_isRemembered_23 : decode cX7_isRemembered 23 = .ok (.iconst 1, 1) := by decide +kernel
theorem dX7_isRemembered_24 : decode cX7_isRemembered 24 = .ok (.goto 4, 3) := by decide +kernel
theorem dX7_isRemembered_27 : decode cX7_isRemembered 27 = .ok (.iconst 0, 1) := by decide +kernel
theorem dX7_isRemembered_28 : decode cX7_isRemembered 28 = .ok (.ireturn, 1) := by decide +kernel
theorem rX7_isRemembered : (∀ (d : Nat) (a0 a1 : Value) (x : Int32) (st : List Value) (h : fk_H), fk_ev d qX7_isRemembered 0 [a0, a1, .int x] st h = fk_ev d qX7_isRemembered 1 [a0, a1, .int x] (.int x :: st) h) ∧
  (∀ (d : Nat) (L : List Value) (x : Int32) (st : List Value) (h : fk_H), fk_ev d qX7_isRemembered 1 L (.int x :: st) h = if x < nI 0 then fk_ev d qX7_isRemembered 27 L st h else fk_ev d qX7_isRemembered 4 L st h) ∧
  (∀ (d : Nat) (a0 a1 : Value) (x : Int32) (st : List Value) (h : fk_H), fk_ev d qX7_isRemembered 4 [a0, a1, .int x] st h = fk_ev d qX7_isRemembered 5 [a0, a1, .int x] (.int x :: st) h) ∧
  (∀ (d : Nat) (a0 a2 : Value) (x : Nat) (st : List Value) (h : fk_H), fk_ev d qX7_isRemembered 5 [a0, .ref x, a2] st h = fk_ev d qX7_isRemembered 6 [a0, .ref x, a2] (.ref x :: st) h) ∧
  (∀ (d : Nat) (L st : List Value) (N : Nat) (y : Nat → Nat → Int32) (l : Nat → Nat → Int64) (c : Nat), fk_at c 8 → fk_ev d qX7_isRemembered 6 L (.ref c :: st) (fk_E N y l) = fk_ev d qX7_isRemembered 9 L (.int (y c 3) :: st) (fk_E N y l)) ∧
  (∀ (d : Nat) (L : List Value) (x y : Int32) (st : List Value) (h : fk_H), fk_ev d qX7_isRemembered 9 L (.int y :: .int x :: st) h = if y < x then fk_ev d qX7_isRemembered 27 L st h else fk_ev d qX7_isRemembered 12 L st h) ∧
  (∀ (d : Nat) (a0 a1 : Value) (x : Int32) (st : List Value) (h : fk_H), fk_ev d qX7_isRemembered 12 [a0, a1, .int x] st h = fk_ev d qX7_isRemembered 13 [a0, a1, .int x] (.int x :: st) h) ∧
  (∀ (d : Nat) (a0 a2 : Value) (x : Nat) (st : List Value) (h : fk_H), fk_ev d qX7_isRemembered 13 [a0, .ref x, a2] st h = fk_ev d qX7_isRemembered 14 [a0, .ref x, a2] (.ref x :: st) h) ∧
  (∀ (d : Nat) (L st : List Value) (N : Nat) (y : Nat → Nat → Int32) (l : Nat → Nat → Int64) (c : Nat), fk_at c 8 → fk_ev d qX7_isRemembered 14 L (.ref c :: st) (fk_E N y l) = fk_ev d qX7_isRemembered 17 L (.int (y c 3) :: st) (fk_E N y l)) ∧
  (∀ (d : Nat) (L st : List Value) (h : fk_H), fk_ev d qX7_isRemembered 17 L st h = fk_ev d qX7_isRemembered 19 L (.int (nI 48) :: st) h) ∧
  (∀ (d : Nat) (L : List Value) (x y : Int32) (st : List Value) (h : fk_H), fk_ev d qX7_isRemembered 19 L (.int y :: .int x :: st) h = fk_ev d qX7_isRemembered 20 L (.int (x - y) :: st) h) ∧
  (∀ (d : Nat) (L : List Value) (x y : Int32) (st : List Value) (h : fk_H), fk_ev d qX7_isRemembered 20 L (.int y :: .int x :: st) h = if x ≤ y then fk_ev d qX7_isRemembered 27 L st h else fk_ev d qX7_isRemembered 23 L st h) ∧
  (∀ (d : Nat) (L st : List Value) (h : fk_H), fk_ev d qX7_isRemembered 23 L st h = fk_ev d qX7_isRemembered 24 L (.int (nI 1) :: st) h) ∧
  (∀ (d : Nat) (L st : List Value) (h : fk_H), fk_ev d qX7_isRemembered 24 L st h = fk_ev d qX7_isRemembered 28 L st h) ∧
  (∀ (d : Nat) (L st : List Value) (h : fk_H), fk_ev d qX7_isRemembered 27 L st h = fk_ev d qX7_isRemembered 28 L (.int (nI 0) :: st) h) ∧
  (∀ (d : Nat) (L : List Value) (h : fk_H), fk_ev d qX7_isRemembered 28 L [.int (nI 0)] h = some (some (.int (nI 0)), h)) ∧
  (∀ (d : Nat) (L : List Value) (h : fk_H), fk_ev d qX7_isRemembered 28 L [.int (nI 1)] h = some (some (.int (nI 1)), h)) ∧
  (∀ (d : Nat) (L : List Value) (p : Prop) [Decidable p] (h : fk_H), fk_ev d qX7_isRemembered 28 L [.int (fk_b p)] h = some (some (.int (fk_b p)), h)) ∧
  (∀ (d : Nat) (L : List Value) (x : Int32) (h : fk_H), (x = nI 0 ∨ x = nI 1) → fk_ev d qX7_isRemembered 28 L [.int x] h = some (some (.int x), h)) := ⟨fun d a0 a1 x st h => fk_w_iloadn 2 [a0, a1, .int x] dX7_isRemembered_0 rfl,
  fun d L x st h => fk_r_if_lt dX7_isRemembered_1 (by decide),
  fun d a0 a1 x st h => fk_w_iloadn 2 [a0, a1, .int x] dX7_isRemembered_4 rfl,
  fun d a0 a2 x st h => fk_w_aloadn 1 [a0, .ref x, a2] dX7_isRemembered_5 rfl,
  fun d L st N y l c hc => fk_g_getI rfl lf_7_21 (by decide) dX7_isRemembered_6 hc,
  fun d L x y st h => fk_r_icmp_gt dX7_isRemembered_9 (by decide),
  fun d a0 a1 x st h => fk_w_iloadn 2 [a0, a1, .int x] dX7_isRemembered_12 rfl,
  fun d a0 a2 x st h => fk_w_aloadn 1 [a0, .ref x, a2] dX7_isRemembered_13 rfl,
  fun d L st N y l c hc => fk_g_getI rfl lf_7_21 (by decide) dX7_isRemembered_14 hc,
  fun d L st h => fk_w_bipush dX7_isRemembered_17 (by decide),
  fun d L x y st h => fk_r_isub dX7_isRemembered_19,
  fun d L x y st h => fk_r_icmp_le dX7_isRemembered_20 (by decide),
  fun d L st h => fk_w_iconst dX7_isRemembered_23 (by decide),
  fun d L st h => fk_r_goto dX7_isRemembered_24 (by decide),
  fun d L st h => fk_w_iconst dX7_isRemembered_27 (by decide),
  fun d L h => fk_r_ret dX7_isRemembered_28 (Or.inr (Or.inl ⟨rfl, by decide⟩)),
  fun d L h => fk_r_ret dX7_isRemembered_28 (Or.inr (Or.inl ⟨rfl, by decide⟩)),
  fun d L p _ h => fk_r_ret dX7_isRemembered_28 (Or.inr (Or.inl ⟨rfl, fk_b_01⟩)),
  fun d L x h hx => fk_r_ret dX7_isRemembered_28 (Or.inr (Or.inl ⟨rfl, hx⟩))⟩
theorem dX7_whereWas_0 : decode cX7_whereWas 0 = .ok (.aload_n 0, 1) := by decide +kernel
theorem dX7_whereWas_1 : decode cX7_whereWas 1 = .ok (.aload_n 1, 1) := by decide +kernel
theorem dX7_whereWas_2 : decode cX7_whereWas 2 = .ok (.iload_n 3, 1) := by decide +kernel
theorem dX7_whereWas_3 : decode cX7_whereWas 3 = .ok (.invokevirtual 40, 3) := by decide +kernel
theorem dX7_whereWas_6 : decode cX7_whereWas 6 = .ok (.ifCond .ne 6, 3) := by decide +kernel
theorem dX7_whereWas_9 : decode cX7_whereWas 9 = .ok (.bipush (-3), 2) := by decide +kernel
theorem dX7_whereWas_11 : decode cX7_whereWas 11 = .ok (.ireturn, 1) := by decide +kernel
theorem dX7_whereWas_12 : decode cX7_whereWas 12 = .ok (.iload_n 2, 1) := by decide +kernel
theorem dX7_whereWas_13 : decode cX7_whereWas 13 = .ok (.istore 4, 2) := by decide +kernel
theorem dX7_whereWas_15 : decode cX7_whereWas 15 = .ok (.iconst 0, 1) := by decide +kernel
theorem dX7_whereWas_16 : decode cX7_whereWas 16 = .ok (.istore 5, 2) := by decide +kernel
theorem dX7_whereWas_18 : decode cX7_whereWas 18 = .ok (.iload 5, 2) := by decide +kernel
theorem dX7_whereWas_20 : decode cX7_whereWas 20 = .ok (.bipush 64, 2) := by decide +kernel
theorem dX7_whereWas_22 : decode cX7_whereWas 22 = .ok (.if_icmp .ge 32, 3) := by decide +kernel
theorem dX7_whereWas_25 : decode cX7_whereWas 25 = .ok (.aload_n 0, 1) := by decide +kernel
theorem dX7_whereWas_26 : decode cX7_whereWas 26 = .ok (.aload_n 1, 1) := by decide +kernel
theorem dX7_whereWas_27 : decode cX7_whereWas 27 = .ok (.iload 4, 2) := by decide +kernel
theorem dX7_whereWas_29 : decode cX7_whereWas 29 = .ok (.iload_n 3, 1) := by decide +kernel
theorem dX7_whereWas_30 : decode cX7_whereWas 30 = .ok (.invokevirtual 44, 3) := by decide +kernel
theorem dX7_whereWas_33 : decode cX7_whereWas 33 = .ok (.ifCond .eq 21, 3) := by decide +kernel
theorem dX7_whereWas_36 : decode cX7_whereWas 36 = .ok (.aload_n 1, 1) := by decide +kernel
theorem dX7_whereWas_37 : decode cX7_whereWas 37 = .ok (.getfield 31, 3) := by decide +kernel
theorem dX7_whereWas_40 : decode cX7_whereWas 40 = .ok (.iload 4, 2) := by decide +kernel
theorem dX7_whereWas_42 : decode cX7_whereWas 42 = .ok (.aaload, 1) := by decide +kernel
theorem dX7_whereWas_43 : decode cX7_whereWas 43 = .ok (.getfield 48, 3) := by decide +kernel
theorem dX7_whereWas_46 : decode cX7_whereWas 46 = .ok (.istore 4, 2) := by decide +kernel
theorem dX7_whereWas_48 : decode cX7_whereWas 48 = .ok (.iinc 5 1, 3) := by decide +kernel
theorem dX7_whereWas_51 : decode cX7_whereWas 51 = .ok (.goto (-33), 3) := by decide +kernel
theorem dX7_whereWas_54 : decode cX7_whereWas 54 = .ok (.iload_n 3, 1) := by decide +kernel
theorem dX7_whereWas_55 : decode cX7_whereWas 55 = .ok (.aload_n 1, 1) := by decide +kernel
theorem dX7_whereWas_56 : decode cX7_whereWas 56 = .ok (.getfield 21, 3) := by decide +kernel
theorem dX7_whereWas_59 : decode cX7_whereWas 59 = .ok (.if_icmp .ne 28, 3) := by decide +kernel
theorem dX7_whereWas_62 : decode cX7_whereWas 62 = .ok (.aload_n 1, 1) := by decide +kernel
theorem dX7_whereWas_63 : decode cX7_whereWas 63 = .ok (.iload 4, 2) := by decide +kernel
theorem dX7_whereWas_65 : decode cX7_whereWas 65 = .ok (.invokevirtual 27, 3) := by decide +kernel
theorem dX7_whereWas_68 : decode cX7_whereWas 68 = .ok (.ifCond .eq 16, 3) := by decide +kernel
theorem dX7_whereWas_71 : decode cX7_whereWas 71 = .ok (.aload_n 1, 1) := by decide +kernel
theorem dX7_whereWas_72 : decode cX7_whereWas 72 = .ok (.getfield 31, 3) := by decide +kernel
theorem dX7_whereWas_75 : decode cX7_whereWas 75 = .ok (.iload 4, 2) := by decide +kernel
theorem dX7_whereWas_77 : decode cX7_whereWas 77 = .ok (.aaload, 1) := by decide +kernel
theorem dX7_whereWas_78 : decode cX7_whereWas 78 = .ok (.getfield 35, 3) := by decide +kernel
theorem dX7_whereWas_81 : decode cX7_whereWas 81 = .ok (.goto 5, 3) := by decide +kernel
theorem dX7_whereWas_84 : decode cX7_whereWas 84 = .ok (.bipush (-2), 2) := by decide +kernel
theorem dX7_whereWas_86 : decode cX7_whereWas 86 = .ok (.ireturn, 1) := by decide +kernel
theorem dX7_whereWas_87 : decode cX7_whereWas 87 = .ok (.iload 4, 2) := by decide +kernel
theorem dX7_whereWas_89 : decode cX7_whereWas 89 = .ok (.bipush 64, 2) := by decide +kernel
theorem dX7_whereWas_91 : decode cX7_whereWas 91 = .ok (.invokestatic 51, 3) := by decide +kernel
theorem dX7_whereWas_94 : decode cX7_whereWas 94 = .ok (.ifCond .eq 21, 3) := by decide +kernel
theorem dX7_whereWas_97 : decode cX7_whereWas 97 = .ok (.aload_n 0, 1) := by decide +kernel
theorem dX7_whereWas_98 : decode cX7_whereWas 98 = .ok (.getfield 9, 3) := by decide +kernel
theorem dX7_whereWas_101 : decode cX7_whereWas 101 = .ok (.iload_n 3, 1) := by decide +kernel
theorem dX7_whereWas_102 : decode cX7_whereWas 102 = .ok (.bipush 48, 2) := by decide +kernel
theorem dX7_whereWas_104 : decode cX7_whereWas 104 = .ok (.irem, 1) := by decide +kernel
theorem dX7_whereWas_105 : decode cX7_whereWas 105 = .ok (.bipush 64, 2) := by decide +kernel
theorem dX7_whereWas_107 : decode cX7_whereWas 107 = .ok (.imul, 1) := by decide +kernel
theorem dX7_whereWas_108 : decode cX7_whereWas 108 = .ok (.iload 4, 2) := by decide +kernel
theorem dX7_whereWas_110 : decode cX7_whereWas 110 = .ok (.iadd, 1) := by decide +kernel
theorem dX7_whereWas_111 : decode cX7_whereWas 111 = .ok (.iaload, 1) := by decide +kernel
theorem dX7_whereWas_112 : decode cX7_whereWas 112 = .ok (.goto 5, 3) := by decide +kernel
theorem dX7_whereWas_115 : decode cX7_whereWas 115 = .ok (.bipush (-2), 2) := by decide +kernel
theorem dX7_whereWas_117 : decode cX7_whereWas 117 = .ok (.ireturn, 1) := by decide +kernel
theorem rX7_whereWas : (∀ (d : Nat) (a1 a2 a3 a4 a5 : Value) (x : Nat) (st : List Value) (h : fk_H), fk_ev d qX7_whereWas 0 [.ref x, a1, a2, a3, a4, a5] st h = fk_ev d qX7_whereWas 1 [.ref x, a1, a2, a3, a4, a5] (.ref x :: st) h) ∧
  (∀ (d : Nat) (a0 a2 a3 a4 a5 : Value) (x : Nat) (st : List Value) (h : fk_H), fk_ev d qX7_whereWas 1 [a0, .ref x, a2, a3, a4, a5] st h = fk_ev d qX7_whereWas 2 [a0, .ref x, a2, a3, a4, a5] (.ref x :: st) h) ∧
  (∀ (d : Nat) (a0 a1 a2 a4 a5 : Value) (x : Int32) (st : List Value) (h : fk_H), fk_ev d qX7_whereWas 2 [a0, a1, a2, .int x, a4, a5] st h = fk_ev d qX7_whereWas 3 [a0, a1, a2, .int x, a4, a5] (.int x :: st) h) ∧
  (∀ (d : Nat) (L : List Value) (x0 : Nat) (x1 : Int32)  (N : Nat) (y : Nat → Nat → Int32) (l : Nat → Nat → Int64) (c : Nat), fk_at c 7 → fk_ev (d + 1) qX7_whereWas 3 L (.int x1 :: .ref x0 :: .ref c :: []) (fk_E N y l) = (fk_ev d qX7_isRemembered 0 [.ref c, .ref x0, .int x1] [] (fk_E N y l)).bind fun o => fk_ev (d + 1) qX7_whereWas 6 L (o.1.toList ++ []) o.2) ∧
  (∀ (d : Nat) (L : List Value) (x : Int32) (st : List Value) (h : fk_H), fk_ev d qX7_whereWas 6 L (.int x :: st) h = if ¬ x = nI 0 then fk_ev d qX7_whereWas 12 L st h else fk_ev d qX7_whereWas 9 L st h) ∧
  (∀ (d : Nat) (L st : List Value) (h : fk_H), fk_ev d qX7_whereWas 9 L st h = fk_ev d qX7_whereWas 11 L (.int ((-3 : Int32)) :: st) h) ∧
  (∀ (d : Nat) (L : List Value) (x : Int32) (h : fk_H), fk_ev d qX7_whereWas 11 L [.int x] h = some (some (.int x), h)) ∧
  (∀ (d : Nat) (a0 a1 a3 a4 a5 : Value) (x : Int32) (st : List Value) (h : fk_H), fk_ev d qX7_whereWas 12 [a0, a1, .int x, a3, a4, a5] st h = fk_ev d qX7_whereWas 13 [a0, a1, .int x, a3, a4, a5] (.int x :: st) h) ∧
  (∀ (d : Nat) (a0 a1 a2 a3 a4 a5 : Value) (x : Int32) (st : List Value) (h : fk_H), fk_ev d qX7_whereWas 13 [a0, a1, a2, a3, a4, a5] (.int x :: st) h = fk_ev d qX7_whereWas 15 [a0, a1, a2, a3, .int x, a5] st h) ∧
  (∀ (d : Nat) (L st : List Value) (h : fk_H), fk_ev d qX7_whereWas 15 L st h = fk_ev d qX7_whereWas 16 L (.int (nI 0) :: st) h) ∧
  (∀ (d : Nat) (a0 a1 a2 a3 a4 a5 : Value) (x : Int32) (st : List Value) (h : fk_H), fk_ev d qX7_whereWas 16 [a0, a1, a2, a3, a4, a5] (.int x :: st) h = fk_ev d qX7_whereWas 18 [a0, a1, a2, a3, a4, .int x] st h) ∧
  (∀ (d : Nat) (L st : List Value) (h : fk_H), fk_ev d qX7_whereWas 20 L st h = fk_ev d qX7_whereWas 22 L (.int (nI 64) :: st) h) ∧
  (∀ (d : Nat) (L : List Value) (x y : Int32) (st : List Value) (h : fk_H), fk_ev d qX7_whereWas 22 L (.int y :: .int x :: st) h = if y ≤ x then fk_ev d qX7_whereWas 54 L st h else fk_ev d qX7_whereWas 25 L st h) ∧
  (∀ (d : Nat) (a1 a2 a3 a4 a5 : Value) (x : Nat) (st : List Value) (h : fk_H), fk_ev d qX7_whereWas 25 [.ref x, a1, a2, a3, a4, a5] st h = fk_ev d qX7_whereWas 26 [.ref x, a1, a2, a3, a4, a5] (.ref x :: st) h) ∧
  (∀ (d : Nat) (a0 a2 a3 a4 a5 : Value) (x : Nat) (st : List Value) (h : fk_H), fk_ev d qX7_whereWas 26 [a0, .ref x, a2, a3, a4, a5] st h = fk_ev d qX7_whereWas 27 [a0, .ref x, a2, a3, a4, a5] (.ref x :: st) h) ∧
  (∀ (d : Nat) (a0 a1 a2 a3 a5 : Value) (x : Int32) (st : List Value) (h : fk_H), fk_ev d qX7_whereWas 27 [a0, a1, a2, a3, .int x, a5] st h = fk_ev d qX7_whereWas 29 [a0, a1, a2, a3, .int x, a5] (.int x :: st) h) ∧
  (∀ (d : Nat) (a0 a1 a2 a4 a5 : Value) (x : Int32) (st : List Value) (h : fk_H), fk_ev d qX7_whereWas 29 [a0, a1, a2, .int x, a4, a5] st h = fk_ev d qX7_whereWas 30 [a0, a1, a2, .int x, a4, a5] (.int x :: st) h) ∧
  (∀ (d : Nat) (L : List Value) (x0 : Nat) (x1 : Int32) (x2 : Int32)  (N : Nat) (y : Nat → Nat → Int32) (l : Nat → Nat → Int64) (c : Nat), fk_at c 7 → fk_ev (d + 1) qX7_whereWas 30 L (.int x2 :: .int x1 :: .ref x0 :: .ref c :: []) (fk_E N y l) = (fk_ev d qX7_isBeforeIt 0 [.ref c, .ref x0, .int x1, .int x2] [] (fk_E N y l)).bind fun o => fk_ev (d + 1) qX7_whereWas 33 L (o.1.toList ++ []) o.2) ∧
  (∀ (d : Nat) (L : List Value) (x : Int32) (st : List Value) (h : fk_H), fk_ev d qX7_whereWas 33 L (.int x :: st) h = if x = nI 0 then fk_ev d qX7_whereWas 54 L st h else fk_ev d qX7_whereWas 36 L st h) ∧
  (∀ (d : Nat) (a0 a2 a3 a4 a5 : Value) (x : Nat) (st : List Value) (h : fk_H), fk_ev d qX7_whereWas 36 [a0, .ref x, a2, a3, a4, a5] st h = fk_ev d qX7_whereWas 37 [a0, .ref x, a2, a3, a4, a5] (.ref x :: st) h) ∧
  (∀ (d : Nat) (L st : List Value) (N : Nat) (y : Nat → Nat → Int32) (l : Nat → Nat → Int64) (c : Nat), fk_at c 8 → fk_ev d qX7_whereWas 37 L (.ref c :: st) (fk_E N y l) = fk_ev d qX7_whereWas 40 L (.ref (fk_cr c 0) :: st) (fk_E N y l)) ∧
  (∀ (d : Nat) (a0 a1 a2 a3 a5 : Value) (x : Int32) (st : List Value) (h : fk_H), fk_ev d qX7_whereWas 40 [a0, a1, a2, a3, .int x, a5] st h = fk_ev d qX7_whereWas 42 [a0, a1, a2, a3, .int x, a5] (.int x :: st) h) ∧
  (∀ (d : Nat) (L st : List Value) (N : Nat) (y : Nat → Nat → Int32) (l : Nat → Nat → Int64) (c i : Nat), fk_at c 24 → i < (fk_shp c).2 → (fk_shp c).2 < 2 ^ 31 → fk_ev d qX7_whereWas 42 L (.int (nI i) :: .ref c :: st) (fk_E N y l) = fk_ev d qX7_whereWas 43 L (.ref (c + 2 + i) :: st) (fk_E N y l)) ∧
  (∀ (d : Nat) (L st : List Value) (N : Nat) (y : Nat → Nat → Int32) (l : Nat → Nat → Int64) (c : Nat), fk_at c 0 → fk_ev d qX7_whereWas 43 L (.ref c :: st) (fk_E N y l) = fk_ev d qX7_whereWas 46 L (.int (y c 2) :: st) (fk_E N y l)) ∧
  (∀ (d : Nat) (a0 a1 a2 a3 a4 a5 : Value) (x : Int32) (st : List Value) (h : fk_H), fk_ev d qX7_whereWas 46 [a0, a1, a2, a3, a4, a5] (.int x :: st) h = fk_ev d qX7_whereWas 48 [a0, a1, a2, a3, .int x, a5] st h) ∧
  (∀ (d : Nat) (a0 a1 a2 a3 a4 : Value) (x : Int32) (st : List Value) (h : fk_H), fk_ev d qX7_whereWas 48 [a0, a1, a2, a3, a4, .int x] st h = fk_ev d qX7_whereWas 51 [a0, a1, a2, a3, a4, .int (x + nI 1)] st h) ∧
  (∀ (d : Nat) (L st : List Value) (h : fk_H), fk_ev d qX7_whereWas 51 L st h = fk_ev d qX7_whereWas 18 L st h) ∧
  (∀ (d : Nat) (a0 a1 a2 a4 a5 : Value) (x : Int32) (st : List Value) (h : fk_H), fk_ev d qX7_whereWas 54 [a0, a1, a2, .int x, a4, a5] st h = fk_ev d qX7_whereWas 55 [a0, a1, a2, .int x, a4, a5] (.int x :: st) h) ∧
  (∀ (d : Nat) (a0 a2 a3 a4 a5 : Value) (x : Nat) (st : List Value) (h : fk_H), fk_ev d qX7_whereWas 55 [a0, .ref x, a2, a3, a4, a5] st h = fk_ev d qX7_whereWas 56 [a0, .ref x, a2, a3, a4, a5] (.ref x :: st) h) ∧
  (∀ (d : Nat) (L st : List Value) (N : Nat) (y : Nat → Nat → Int32) (l : Nat → Nat → Int64) (c : Nat), fk_at c 8 → fk_ev d qX7_whereWas 56 L (.ref c :: st) (fk_E N y l) = fk_ev d qX7_whereWas 59 L (.int (y c 3) :: st) (fk_E N y l)) ∧
  (∀ (d : Nat) (L : List Value) (x y : Int32) (st : List Value) (h : fk_H), fk_ev d qX7_whereWas 59 L (.int y :: .int x :: st) h = if ¬ x = y then fk_ev d qX7_whereWas 87 L st h else fk_ev d qX7_whereWas 62 L st h) ∧
  (∀ (d : Nat) (a0 a2 a3 a4 a5 : Value) (x : Nat) (st : List Value) (h : fk_H), fk_ev d qX7_whereWas 62 [a0, .ref x, a2, a3, a4, a5] st h = fk_ev d qX7_whereWas 63 [a0, .ref x, a2, a3, a4, a5] (.ref x :: st) h) ∧
  (∀ (d : Nat) (a0 a1 a2 a3 a5 : Value) (x : Int32) (st : List Value) (h : fk_H), fk_ev d qX7_whereWas 63 [a0, a1, a2, a3, .int x, a5] st h = fk_ev d qX7_whereWas 65 [a0, a1, a2, a3, .int x, a5] (.int x :: st) h) ∧
  (∀ (d : Nat) (L : List Value) (x0 : Int32)  (N : Nat) (y : Nat → Nat → Int32) (l : Nat → Nat → Int64) (c : Nat), fk_at c 8 → fk_ev (d + 1) qX7_whereWas 65 L (.int x0 :: .ref c :: []) (fk_E N y l) = (fk_ev d qX8_isAtPlace 0 [.ref c, .int x0] [] (fk_E N y l)).bind fun o => fk_ev (d + 1) qX7_whereWas 68 L (o.1.toList ++ []) o.2) ∧
  (∀ (d : Nat) (L : List Value) (x : Int32) (st : List Value) (h : fk_H), fk_ev d qX7_whereWas 68 L (.int x :: st) h = if x = nI 0 then fk_ev d qX7_whereWas 84 L st h else fk_ev d qX7_whereWas 71 L st h) ∧
  (∀ (d : Nat) (a0 a2 a3 a4 a5 : Value) (x : Nat) (st : List Value) (h : fk_H), fk_ev d qX7_whereWas 71 [a0, .ref x, a2, a3, a4, a5] st h = fk_ev d qX7_whereWas 72 [a0, .ref x, a2, a3, a4, a5] (.ref x :: st) h) ∧
  (∀ (d : Nat) (L st : List Value) (N : Nat) (y : Nat → Nat → Int32) (l : Nat → Nat → Int64) (c : Nat), fk_at c 8 → fk_ev d qX7_whereWas 72 L (.ref c :: st) (fk_E N y l) = fk_ev d qX7_whereWas 75 L (.ref (fk_cr c 0) :: st) (fk_E N y l)) ∧
  (∀ (d : Nat) (a0 a1 a2 a3 a5 : Value) (x : Int32) (st : List Value) (h : fk_H), fk_ev d qX7_whereWas 75 [a0, a1, a2, a3, .int x, a5] st h = fk_ev d qX7_whereWas 77 [a0, a1, a2, a3, .int x, a5] (.int x :: st) h) ∧
  (∀ (d : Nat) (L st : List Value) (N : Nat) (y : Nat → Nat → Int32) (l : Nat → Nat → Int64) (c i : Nat), fk_at c 24 → i < (fk_shp c).2 → (fk_shp c).2 < 2 ^ 31 → fk_ev d qX7_whereWas 77 L (.int (nI i) :: .ref c :: st) (fk_E N y l) = fk_ev d qX7_whereWas 78 L (.ref (c + 2 + i) :: st) (fk_E N y l)) ∧
  (∀ (d : Nat) (L st : List Value) (N : Nat) (y : Nat → Nat → Int32) (l : Nat → Nat → Int64) (c : Nat), fk_at c 0 → fk_ev d qX7_whereWas 78 L (.ref c :: st) (fk_E N y l) = fk_ev d qX7_whereWas 81 L (.int (y c 6) :: st) (fk_E N y l)) ∧
  (∀ (d : Nat) (L st : List Value) (h : fk_H), fk_ev d qX7_whereWas 81 L st h = fk_ev d qX7_whereWas 86 L st h) ∧
  (∀ (d : Nat) (L st : List Value) (h : fk_H), fk_ev d qX7_whereWas 84 L st h = fk_ev d qX7_whereWas 86 L (.int ((-2 : Int32)) :: st) h) ∧
  (∀ (d : Nat) (L : List Value) (x : Int32) (h : fk_H), fk_ev d qX7_whereWas 86 L [.int x] h = some (some (.int x), h)) ∧
  (∀ (d : Nat) (a0 a1 a2 a3 a5 : Value) (x : Int32) (st : List Value) (h : fk_H), fk_ev d qX7_whereWas 87 [a0, a1, a2, a3, .int x, a5] st h = fk_ev d qX7_whereWas 89 [a0, a1, a2, a3, .int x, a5] (.int x :: st) h) ∧
  (∀ (d : Nat) (L st : List Value) (h : fk_H), fk_ev d qX7_whereWas 89 L st h = fk_ev d qX7_whereWas 91 L (.int (nI 64) :: st) h) ∧
  (∀ (d : Nat) (L : List Value) (x0 : Int32) (x1 : Int32)  (h : fk_H), fk_ev (d + 1) qX7_whereWas 91 L (.int x1 :: .int x0 :: []) h = (fk_ev d qX11_within 0 [.int x0, .int x1] [] h).bind fun o => fk_ev (d + 1) qX7_whereWas 94 L (o.1.toList ++ []) o.2) ∧
  (∀ (d : Nat) (L : List Value) (x : Int32) (st : List Value) (h : fk_H), fk_ev d qX7_whereWas 94 L (.int x :: st) h = if x = nI 0 then fk_ev d qX7_whereWas 115 L st h else fk_ev d qX7_whereWas 97 L st h) ∧
  (∀ (d : Nat) (a1 a2 a3 a4 a5 : Value) (x : Nat) (st : List Value) (h : fk_H), fk_ev d qX7_whereWas 97 [.ref x, a1, a2, a3, a4, a5] st h = fk_ev d qX7_whereWas 98 [.ref x, a1, a2, a3, a4, a5] (.ref x :: st) h) ∧
  (∀ (d : Nat) (L st : List Value) (N : Nat) (y : Nat → Nat → Int32) (l : Nat → Nat → Int64) (c : Nat), fk_at c 7 → fk_ev d qX7_whereWas 98 L (.ref c :: st) (fk_E N y l) = fk_ev d qX7_whereWas 101 L (.ref (fk_cr c 0) :: st) (fk_E N y l)) ∧
  (∀ (d : Nat) (a0 a1 a2 a4 a5 : Value) (x : Int32) (st : List Value) (h : fk_H), fk_ev d qX7_whereWas 101 [a0, a1, a2, .int x, a4, a5] st h = fk_ev d qX7_whereWas 102 [a0, a1, a2, .int x, a4, a5] (.int x :: st) h) ∧
  (∀ (d : Nat) (L st : List Value) (h : fk_H), fk_ev d qX7_whereWas 102 L st h = fk_ev d qX7_whereWas 104 L (.int (nI 48) :: st) h) ∧
  (∀ (d : Nat) (L : List Value) (x y : Int32) (st : List Value) (h : fk_H), fk_ev d qX7_whereWas 104 L (.int y :: .int x :: st) h = if y = 0 then none else fk_ev d qX7_whereWas 105 L (.int (x - x / y * y) :: st) h) ∧
  (∀ (d : Nat) (L st : List Value) (h : fk_H), fk_ev d qX7_whereWas 105 L st h = fk_ev d qX7_whereWas 107 L (.int (nI 64) :: st) h) ∧
  (∀ (d : Nat) (L : List Value) (x y : Int32) (st : List Value) (h : fk_H), fk_ev d qX7_whereWas 107 L (.int y :: .int x :: st) h = fk_ev d qX7_whereWas 108 L (.int (x * y) :: st) h) ∧
  (∀ (d : Nat) (a0 a1 a2 a3 a5 : Value) (x : Int32) (st : List Value) (h : fk_H), fk_ev d qX7_whereWas 108 [a0, a1, a2, a3, .int x, a5] st h = fk_ev d qX7_whereWas 110 [a0, a1, a2, a3, .int x, a5] (.int x :: st) h) ∧
  (∀ (d : Nat) (L : List Value) (x y : Int32) (st : List Value) (h : fk_H), fk_ev d qX7_whereWas 110 L (.int y :: .int x :: st) h = fk_ev d qX7_whereWas 111 L (.int (x + y) :: st) h) ∧
  (∀ (d : Nat) (L st : List Value) (N : Nat) (y : Nat → Nat → Int32) (l : Nat → Nat → Int64) (c i : Nat), fk_at c 20 → i < (fk_shp c).2 → (fk_shp c).2 < 2 ^ 31 → fk_ev d qX7_whereWas 111 L (.int (nI i) :: .ref c :: st) (fk_E N y l) = fk_ev d qX7_whereWas 112 L (.int (y c i) :: st) (fk_E N y l)) ∧
  (∀ (d : Nat) (L st : List Value) (h : fk_H), fk_ev d qX7_whereWas 112 L st h = fk_ev d qX7_whereWas 117 L st h) ∧
  (∀ (d : Nat) (L st : List Value) (h : fk_H), fk_ev d qX7_whereWas 115 L st h = fk_ev d qX7_whereWas 117 L (.int ((-2 : Int32)) :: st) h) ∧
  (∀ (d : Nat) (L : List Value) (x : Int32) (h : fk_H), fk_ev d qX7_whereWas 117 L [.int x] h = some (some (.int x), h)) := ⟨fun d a1 a2 a3 a4 a5 x st h => fk_w_aloadn 0 [.ref x, a1, a2, a3, a4, a5] dX7_whereWas_0 rfl,
  fun d a0 a2 a3 a4 a5 x st h => fk_w_aloadn 1 [a0, .ref x, a2, a3, a4, a5] dX7_whereWas_1 rfl,
  fun d a0 a1 a2 a4 a5 x st h => fk_w_iloadn 3 [a0, a1, a2, .int x, a4, a5] dX7_whereWas_2 rfl,
  fun d L x0 x1 N y l c hc => fk_g_call [.ref x0, .int x1] [] rfl lm_7_40 dX7_whereWas_3 rfl ⟨rfl, by decide⟩ (by simp) hc,
  fun d L x st h => fk_r_if_ne dX7_whereWas_6 (by decide),
  fun d L st h => fk_w_bipush dX7_whereWas_9 (by decide),
  fun d L x h => fk_r_ret dX7_whereWas_11 (Or.inl rfl),
  fun d a0 a1 a3 a4 a5 x st h => fk_w_iloadn 2 [a0, a1, .int x, a3, a4, a5] dX7_whereWas_12 rfl,
  fun d a0 a1 a2 a3 a4 a5 x st h => fk_w_istore 4 6 [] [a0, a1, a2, a3, a4, a5] [a0, a1, a2, a3, .int x, a5] dX7_whereWas_13 rfl rfl (by decide) rfl,
  fun d L st h => fk_w_iconst dX7_whereWas_15 (by decide),
  fun d a0 a1 a2 a3 a4 a5 x st h => fk_w_istore 5 6 [] [a0, a1, a2, a3, a4, a5] [a0, a1, a2, a3, a4, .int x] dX7_whereWas_16 rfl rfl (by decide) rfl,
  fun d L st h => fk_w_bipush dX7_whereWas_20 (by decide),
  fun d L x y st h => fk_r_icmp_ge dX7_whereWas_22 (by decide),
  fun d a1 a2 a3 a4 a5 x st h => fk_w_aloadn 0 [.ref x, a1, a2, a3, a4, a5] dX7_whereWas_25 rfl,
  fun d a0 a2 a3 a4 a5 x st h => fk_w_aloadn 1 [a0, .ref x, a2, a3, a4, a5] dX7_whereWas_26 rfl,
  fun d a0 a1 a2 a3 a5 x st h => fk_w_iload 4 [a0, a1, a2, a3, .int x, a5] dX7_whereWas_27 rfl,
  fun d a0 a1 a2 a4 a5 x st h => fk_w_iloadn 3 [a0, a1, a2, .int x, a4, a5] dX7_whereWas_29 rfl,
  fun d L x0 x1 x2 N y l c hc => fk_g_call [.ref x0, .int x1, .int x2] [] rfl lm_7_44 dX7_whereWas_30 rfl ⟨rfl, by decide⟩ (by simp) hc,
  fun d L x st h => fk_r_if_eq dX7_whereWas_33 (by decide),
  fun d a0 a2 a3 a4 a5 x st h => fk_w_aloadn 1 [a0, .ref x, a2, a3, a4, a5] dX7_whereWas_36 rfl,
  fun d L st N y l c hc => fk_g_getC rfl lf_7_31 (by decide) rfl dX7_whereWas_37 hc,
  fun d a0 a1 a2 a3 a5 x st h => fk_w_iload 4 [a0, a1, a2, a3, .int x, a5] dX7_whereWas_40 rfl,
  fun d L st N y l c i hc hi hl => fk_h_aald dX7_whereWas_42 hc hi hl,
  fun d L st N y l c hc => fk_g_getI rfl lf_7_48 (by decide) dX7_whereWas_43 hc,
  fun d a0 a1 a2 a3 a4 a5 x st h => fk_w_istore 4 6 [] [a0, a1, a2, a3, a4, a5] [a0, a1, a2, a3, .int x, a5] dX7_whereWas_46 rfl rfl (by decide) rfl,
  fun d a0 a1 a2 a3 a4 x st h => fk_w_iinc 5 6 (1) [] [a0, a1, a2, a3, a4, .int x] [a0, a1, a2, a3, a4, .int (x + nI 1)] dX7_whereWas_48 rfl rfl rfl (by decide) rfl,
  fun d L st h => fk_r_goto dX7_whereWas_51 (by decide),
  fun d a0 a1 a2 a4 a5 x st h => fk_w_iloadn 3 [a0, a1, a2, .int x, a4, a5] dX7_whereWas_54 rfl,
  fun d a0 a2 a3 a4 a5 x st h => fk_w_aloadn 1 [a0, .ref x, a2, a3, a4, a5] dX7_whereWas_55 rfl,
  fun d L st N y l c hc => fk_g_getI rfl lf_7_21 (by decide) dX7_whereWas_56 hc,
  fun d L x y st h => fk_r_icmp_ne dX7_whereWas_59 (by decide),
  fun d a0 a2 a3 a4 a5 x st h => fk_w_aloadn 1 [a0, .ref x, a2, a3, a4, a5] dX7_whereWas_62 rfl,
  fun d a0 a1 a2 a3 a5 x st h => fk_w_iload 4 [a0, a1, a2, a3, .int x, a5] dX7_whereWas_63 rfl,
  fun d L x0 N y l c hc => fk_g_call [.int x0] [] rfl lm_7_27 dX7_whereWas_65 rfl ⟨rfl, by decide⟩ (by simp) hc,
  fun d L x st h => fk_r_if_eq dX7_whereWas_68 (by decide),
  fun d a0 a2 a3 a4 a5 x st h => fk_w_aloadn 1 [a0, .ref x, a2, a3, a4, a5] dX7_whereWas_71 rfl,
  fun d L st N y l c hc => fk_g_getC rfl lf_7_31 (by decide) rfl dX7_whereWas_72 hc,
  fun d a0 a1 a2 a3 a5 x st h => fk_w_iload 4 [a0, a1, a2, a3, .int x, a5] dX7_whereWas_75 rfl,
  fun d L st N y l c i hc hi hl => fk_h_aald dX7_whereWas_77 hc hi hl,
  fun d L st N y l c hc => fk_g_getI rfl lf_7_35 (by decide) dX7_whereWas_78 hc,
  fun d L st h => fk_r_goto dX7_whereWas_81 (by decide),
  fun d L st h => fk_w_bipush dX7_whereWas_84 (by decide),
  fun d L x h => fk_r_ret dX7_whereWas_86 (Or.inl rfl),
  fun d a0 a1 a2 a3 a5 x st h => fk_w_iload 4 [a0, a1, a2, a3, .int x, a5] dX7_whereWas_87 rfl,
  fun d L st h => fk_w_bipush dX7_whereWas_89 (by decide),
  fun d L x0 x1 h => fk_g_calls [.int x0, .int x1] [] rfl lm_7_51 dX7_whereWas_91 rfl ⟨rfl, by decide⟩ (by simp),
  fun d L x st h => fk_r_if_eq dX7_whereWas_94 (by decide),
  fun d a1 a2 a3 a4 a5 x st h => fk_w_aloadn 0 [.ref x, a1, a2, a3, a4, a5] dX7_whereWas_97 rfl,
  fun d L st N y l c hc => fk_g_getC rfl lf_7_9 (by decide) rfl dX7_whereWas_98 hc,
  fun d a0 a1 a2 a4 a5 x st h => fk_w_iloadn 3 [a0, a1, a2, .int x, a4, a5] dX7_whereWas_101 rfl,
  fun d L st h => fk_w_bipush dX7_whereWas_102 (by decide),
  fun d L x y st h => fk_r_irem dX7_whereWas_104,
  fun d L st h => fk_w_bipush dX7_whereWas_105 (by decide),
  fun d L x y st h => fk_r_imul dX7_whereWas_107,
  fun d a0 a1 a2 a3 a5 x st h => fk_w_iload 4 [a0, a1, a2, a3, .int x, a5] dX7_whereWas_108 rfl,
  fun d L x y st h => fk_r_iadd dX7_whereWas_110,
  fun d L st N y l c i hc hi hl => fk_h_iald dX7_whereWas_111 hc hi hl,
  fun d L st h => fk_r_goto dX7_whereWas_112 (by decide),
  fun d L st h => fk_w_bipush dX7_whereWas_115 (by decide),
  fun d L x h => fk_r_ret dX7_whereWas_117 (Or.inl rfl)⟩
theorem hX7_whereWas_18 : ∀ (d : Nat) (a0 a1 a2 a3 a4 : Value) (x : Int32) (st : List Value) (h : fk_H), fk_ev d qX7_whereWas 18 [a0, a1, a2, a3, a4, .int x] st h = fk_ev d qX7_whereWas 20 [a0, a1, a2, a3, a4, .int x] (.int x :: st) h := fun d a0 a1 a2 a3 a4 x st h => fk_w_iload 5 [a0, a1, a2, a3, a4, .int x] dX7_whereWas_18 rfl
theorem dX7_isBeforeIt_0 : decode cX7_isBeforeIt 0 = .ok (.aload_n 1, 1) := by decide +kernel
theorem dX7_isBeforeIt_1 : decode cX7_isBeforeIt 1 = .ok (.iload_n 2, 1) := by decide +kernel
theorem dX7_isBeforeIt_2 : decode cX7_isBeforeIt 2 = .ok (.invokevirtual 55, 3) := by decide +kernel
theorem dX7_isBeforeIt_5 : decode cX7_isBeforeIt 5 = .ok (.ifCond .eq 32, 3) := by decide +kernel
theorem dX7_isBeforeIt_8 : decode cX7_isBeforeIt 8 = .ok (.aload_n 1, 1) := by decide +kernel
theorem dX7_isBeforeIt_9 : decode cX7_isBeforeIt 9 = .ok (.getfield 31, 3) := by decide +kernel
theorem dX7_isBeforeIt_12 : decode cX7_isBeforeIt 12 = .ok (.iload_n 2, 1) := by decide +kernel
theorem dX7_isBeforeIt_13 : decode cX7_isBeforeIt 13 = .ok (.aaload, 1) := by decide +kernel
theorem dX7_isBeforeIt_14 : decode cX7_isBeforeIt 14 = .ok (.getfield 48, 3) := by decide +kernel
theorem dX7_isBeforeIt_17 : decode cX7_isBeforeIt 17 = .ok (.ifCond .lt 20, 3) := by decide +kernel
theorem dX7_isBeforeIt_20 : decode cX7_isBeforeIt 20 = .ok (.iload_n 3, 1) := by decide +kernel
theorem dX7_isBeforeIt_21 : decode cX7_isBeforeIt 21 = .ok (.aload_n 1, 1) := by decide +kernel
theorem dX7_isBeforeIt_22 : decode cX7_isBeforeIt 22 = .ok (.getfield 31, 3) := by decide +kernel
theorem dX7_isBeforeIt_25 : decode cX7_isBeforeIt 25 = .ok (.iload_n 2, 1) := by decide +kernel
theorem dX7_isBeforeIt_26 : decode cX7_isBeforeIt 26 = .ok (.aaload, 1) := by decide +kernel
theorem dX7_isBeforeIt_27 : decode cX7_isBeforeIt 27 = .ok (.getfield 58, 3) := by decide +kernel
theorem dX7_isBeforeIt_30 : decode cX7_isBeforeIt 30 = .ok (.if_icmp .gt 7, 3) := by decide +kernel
theorem dX7_isBeforeIt_33 : decode cX7_isBeforeIt 33 = .ok (.iconst 1, 1) := by decide +kernel
theorem dX7_isBeforeIt_34 : decode cX7_isBeforeIt 34 = .ok (.goto 4, 3) := by decide +kernel
theorem dX7_isBeforeIt_37 : decode cX7_isBeforeIt 37 = .ok (.iconst 0, 1) := by decide +kernel
theorem dX7_isBeforeIt_38 : decode cX7_isBeforeIt 38 = .ok (.ireturn, 1) := by decide +kernel
theorem rX7_isBeforeIt : (∀ (d : Nat) (a0 a2 a3 : Value) (x : Nat) (st : List Value) (h : fk_H), fk_ev d qX7_isBeforeIt 0 [a0, .ref x, a2, a3] st h = fk_ev d qX7_isBeforeIt 1 [a0, .ref x, a2, a3] (.ref x :: st) h) ∧
  (∀ (d : Nat) (a0 a1 a3 : Value) (x : Int32) (st : List Value) (h : fk_H), fk_ev d qX7_isBeforeIt 1 [a0, a1, .int x, a3] st h = fk_ev d qX7_isBeforeIt 2 [a0, a1, .int x, a3] (.int x :: st) h) ∧
  (∀ (d : Nat) (L : List Value) (x0 : Int32)  (N : Nat) (y : Nat → Nat → Int32) (l : Nat → Nat → Int64) (c : Nat), fk_at c 8 → fk_ev (d + 1) qX7_isBeforeIt 2 L (.int x0 :: .ref c :: []) (fk_E N y l) = (fk_ev d qX8_hasBeen 0 [.ref c, .int x0] [] (fk_E N y l)).bind fun o => fk_ev (d + 1) qX7_isBeforeIt 5 L (o.1.toList ++ []) o.2) ∧
  (∀ (d : Nat) (L : List Value) (x : Int32) (st : List Value) (h : fk_H), fk_ev d qX7_isBeforeIt 5 L (.int x :: st) h = if x = nI 0 then fk_ev d qX7_isBeforeIt 37 L st h else fk_ev d qX7_isBeforeIt 8 L st h) ∧
  (∀ (d : Nat) (a0 a2 a3 : Value) (x : Nat) (st : List Value) (h : fk_H), fk_ev d qX7_isBeforeIt 8 [a0, .ref x, a2, a3] st h = fk_ev d qX7_isBeforeIt 9 [a0, .ref x, a2, a3] (.ref x :: st) h) ∧
  (∀ (d : Nat) (L st : List Value) (N : Nat) (y : Nat → Nat → Int32) (l : Nat → Nat → Int64) (c : Nat), fk_at c 8 → fk_ev d qX7_isBeforeIt 9 L (.ref c :: st) (fk_E N y l) = fk_ev d qX7_isBeforeIt 12 L (.ref (fk_cr c 0) :: st) (fk_E N y l)) ∧
  (∀ (d : Nat) (a0 a1 a3 : Value) (x : Int32) (st : List Value) (h : fk_H), fk_ev d qX7_isBeforeIt 12 [a0, a1, .int x, a3] st h = fk_ev d qX7_isBeforeIt 13 [a0, a1, .int x, a3] (.int x :: st) h) ∧
  (∀ (d : Nat) (L st : List Value) (N : Nat) (y : Nat → Nat → Int32) (l : Nat → Nat → Int64) (c i : Nat), fk_at c 24 → i < (fk_shp c).2 → (fk_shp c).2 < 2 ^ 31 → fk_ev d qX7_isBeforeIt 13 L (.int (nI i) :: .ref c :: st) (fk_E N y l) = fk_ev d qX7_isBeforeIt 14 L (.ref (c + 2 + i) :: st) (fk_E N y l)) ∧
  (∀ (d : Nat) (L st : List Value) (N : Nat) (y : Nat → Nat → Int32) (l : Nat → Nat → Int64) (c : Nat), fk_at c 0 → fk_ev d qX7_isBeforeIt 14 L (.ref c :: st) (fk_E N y l) = fk_ev d qX7_isBeforeIt 17 L (.int (y c 2) :: st) (fk_E N y l)) ∧
  (∀ (d : Nat) (L : List Value) (x : Int32) (st : List Value) (h : fk_H), fk_ev d qX7_isBeforeIt 17 L (.int x :: st) h = if x < nI 0 then fk_ev d qX7_isBeforeIt 37 L st h else fk_ev d qX7_isBeforeIt 20 L st h) ∧
  (∀ (d : Nat) (a0 a1 a2 : Value) (x : Int32) (st : List Value) (h : fk_H), fk_ev d qX7_isBeforeIt 20 [a0, a1, a2, .int x] st h = fk_ev d qX7_isBeforeIt 21 [a0, a1, a2, .int x] (.int x :: st) h) ∧
  (∀ (d : Nat) (a0 a2 a3 : Value) (x : Nat) (st : List Value) (h : fk_H), fk_ev d qX7_isBeforeIt 21 [a0, .ref x, a2, a3] st h = fk_ev d qX7_isBeforeIt 22 [a0, .ref x, a2, a3] (.ref x :: st) h) ∧
  (∀ (d : Nat) (L st : List Value) (N : Nat) (y : Nat → Nat → Int32) (l : Nat → Nat → Int64) (c : Nat), fk_at c 8 → fk_ev d qX7_isBeforeIt 22 L (.ref c :: st) (fk_E N y l) = fk_ev d qX7_isBeforeIt 25 L (.ref (fk_cr c 0) :: st) (fk_E N y l)) ∧
  (∀ (d : Nat) (a0 a1 a3 : Value) (x : Int32) (st : List Value) (h : fk_H), fk_ev d qX7_isBeforeIt 25 [a0, a1, .int x, a3] st h = fk_ev d qX7_isBeforeIt 26 [a0, a1, .int x, a3] (.int x :: st) h) ∧
  (∀ (d : Nat) (L st : List Value) (N : Nat) (y : Nat → Nat → Int32) (l : Nat → Nat → Int64) (c i : Nat), fk_at c 24 → i < (fk_shp c).2 → (fk_shp c).2 < 2 ^ 31 → fk_ev d qX7_isBeforeIt 26 L (.int (nI i) :: .ref c :: st) (fk_E N y l) = fk_ev d qX7_isBeforeIt 27 L (.ref (c + 2 + i) :: st) (fk_E N y l)) ∧
  (∀ (d : Nat) (L st : List Value) (N : Nat) (y : Nat → Nat → Int32) (l : Nat → Nat → Int64) (c : Nat), fk_at c 0 → fk_ev d qX7_isBeforeIt 27 L (.ref c :: st) (fk_E N y l) = fk_ev d qX7_isBeforeIt 30 L (.int (y c 3) :: st) (fk_E N y l)) ∧
  (∀ (d : Nat) (L : List Value) (x y : Int32) (st : List Value) (h : fk_H), fk_ev d qX7_isBeforeIt 30 L (.int y :: .int x :: st) h = if y < x then fk_ev d qX7_isBeforeIt 37 L st h else fk_ev d qX7_isBeforeIt 33 L st h) ∧
  (∀ (d : Nat) (L st : List Value) (h : fk_H), fk_ev d qX7_isBeforeIt 33 L st h = fk_ev d qX7_isBeforeIt 34 L (.int (nI 1) :: st) h) ∧
  (∀ (d : Nat) (L st : List Value) (h : fk_H), fk_ev d qX7_isBeforeIt 34 L st h = fk_ev d qX7_isBeforeIt 38 L st h) ∧
  (∀ (d : Nat) (L st : List Value) (h : fk_H), fk_ev d qX7_isBeforeIt 37 L st h = fk_ev d qX7_isBeforeIt 38 L (.int (nI 0) :: st) h) ∧
  (∀ (d : Nat) (L : List Value) (h : fk_H), fk_ev d qX7_isBeforeIt 38 L [.int (nI 0)] h = some (some (.int (nI 0)), h)) ∧
  (∀ (d : Nat) (L : List Value) (h : fk_H), fk_ev d qX7_isBeforeIt 38 L [.int (nI 1)] h = some (some (.int (nI 1)), h)) ∧
  (∀ (d : Nat) (L : List Value) (p : Prop) [Decidable p] (h : fk_H), fk_ev d qX7_isBeforeIt 38 L [.int (fk_b p)] h = some (some (.int (fk_b p)), h)) ∧
  (∀ (d : Nat) (L : List Value) (x : Int32) (h : fk_H), (x = nI 0 ∨ x = nI 1) → fk_ev d qX7_isBeforeIt 38 L [.int x] h = some (some (.int x), h)) := ⟨fun d a0 a2 a3 x st h => fk_w_aloadn 1 [a0, .ref x, a2, a3] dX7_isBeforeIt_0 rfl,
  fun d a0 a1 a3 x st h => fk_w_iloadn 2 [a0, a1, .int x, a3] dX7_isBeforeIt_1 rfl,
  fun d L x0 N y l c hc => fk_g_call [.int x0] [] rfl lm_7_55 dX7_isBeforeIt_2 rfl ⟨rfl, by decide⟩ (by simp) hc,
  fun d L x st h => fk_r_if_eq dX7_isBeforeIt_5 (by decide),
  fun d a0 a2 a3 x st h => fk_w_aloadn 1 [a0, .ref x, a2, a3] dX7_isBeforeIt_8 rfl,
  fun d L st N y l c hc => fk_g_getC rfl lf_7_31 (by decide) rfl dX7_isBeforeIt_9 hc,
  fun d a0 a1 a3 x st h => fk_w_iloadn 2 [a0, a1, .int x, a3] dX7_isBeforeIt_12 rfl,
  fun d L st N y l c i hc hi hl => fk_h_aald dX7_isBeforeIt_13 hc hi hl,
  fun d L st N y l c hc => fk_g_getI rfl lf_7_48 (by decide) dX7_isBeforeIt_14 hc,
  fun d L x st h => fk_r_if_lt dX7_isBeforeIt_17 (by decide),
  fun d a0 a1 a2 x st h => fk_w_iloadn 3 [a0, a1, a2, .int x] dX7_isBeforeIt_20 rfl,
  fun d a0 a2 a3 x st h => fk_w_aloadn 1 [a0, .ref x, a2, a3] dX7_isBeforeIt_21 rfl,
  fun d L st N y l c hc => fk_g_getC rfl lf_7_31 (by decide) rfl dX7_isBeforeIt_22 hc,
  fun d a0 a1 a3 x st h => fk_w_iloadn 2 [a0, a1, .int x, a3] dX7_isBeforeIt_25 rfl,
  fun d L st N y l c i hc hi hl => fk_h_aald dX7_isBeforeIt_26 hc hi hl,
  fun d L st N y l c hc => fk_g_getI rfl lf_7_58 (by decide) dX7_isBeforeIt_27 hc,
  fun d L x y st h => fk_r_icmp_gt dX7_isBeforeIt_30 (by decide),
  fun d L st h => fk_w_iconst dX7_isBeforeIt_33 (by decide),
  fun d L st h => fk_r_goto dX7_isBeforeIt_34 (by decide),
  fun d L st h => fk_w_iconst dX7_isBeforeIt_37 (by decide),
  fun d L h => fk_r_ret dX7_isBeforeIt_38 (Or.inr (Or.inl ⟨rfl, by decide⟩)),
  fun d L h => fk_r_ret dX7_isBeforeIt_38 (Or.inr (Or.inl ⟨rfl, by decide⟩)),
  fun d L p _ h => fk_r_ret dX7_isBeforeIt_38 (Or.inr (Or.inl ⟨rfl, fk_b_01⟩)),
  fun d L x h hx => fk_r_ret dX7_isBeforeIt_38 (Or.inr (Or.inl ⟨rfl, hx⟩))⟩
theorem dX8_copyFrom_0 : decode cX8_copyFrom 0 = .ok (.iconst 0, 1) := by decide +kernel
theorem dX8_copyFrom_1 : decode cX8_copyFrom 1 = .ok (.istore_n 2, 1) := by decide +kernel
theorem dX8_copyFrom_2 : decode cX8_copyFrom 2 = .ok (.iload_n 2, 1) := by decide +kernel
theorem dX8_copyFrom_3 : decode cX8_copyFrom 3 = .ok (.aload_n 1, 1) := by decide +kernel
theorem dX8_copyFrom_4 : decode cX8_copyFrom 4 = .ok (.getfield 21, 3) := by decide +kernel
theorem dX8_copyFrom_7 : decode cX8_copyFrom 7 = .ok (.if_icmp .ge 24, 3) := by decide +kernel
theorem dX8_copyFrom_10 : decode cX8_copyFrom 10 = .ok (.aload_n 0, 1) := by decide +kernel
theorem dX8_copyFrom_11 : decode cX8_copyFrom 11 = .ok (.getfield 11, 3) := by decide +kernel
theorem dX8_copyFrom_14 : decode cX8_copyFrom 14 = .ok (.iload_n 2, 1) := by decide +kernel
theorem dX8_copyFrom_15 : decode cX8_copyFrom 15 = .ok (.aaload, 1) := by decide +kernel
theorem dX8_copyFrom_16 : decode cX8_copyFrom 16 = .ok (.aload_n 1, 1) := by decide +kernel
theorem dX8_copyFrom_17 : decode cX8_copyFrom 17 = .ok (.getfield 11, 3) := by decide +kernel
theorem dX8_copyFrom_20 : decode cX8_copyFrom 20 = .ok (.iload_n 2, 1) := by decide +kernel
theorem dX8_copyFrom_21 : decode cX8_copyFrom 21 = .ok (.aaload, 1) := by decide +kernel
theorem dX8_copyFrom_22 : decode cX8_copyFrom 22 = .ok (.invokevirtual 46, 3) := by decide +kernel
theorem dX8_copyFrom_25 : decode cX8_copyFrom 25 = .ok (.iinc 2 1, 3) := by decide +kernel
theorem dX8_copyFrom_28 : decode cX8_copyFrom 28 = .ok (.goto (-26), 3) := by decide +kernel
theorem dX8_copyFrom_31 : decode cX8_copyFrom 31 = .ok (.aload_n 1, 1) := by decide +kernel
theorem dX8_copyFrom_32 : decode cX8_copyFrom 32 = .ok (.getfield 17, 3) := by decide +kernel
theorem dX8_copyFrom_35 : decode cX8_copyFrom 35 = .ok (.iconst 0, 1) := by decide +kernel
theorem dX8_copyFrom_36 : decode cX8_copyFrom 36 = .ok (.aload_n 0, 1) := by decide +kernel
theorem dX8_copyFrom_37 : decode cX8_copyFrom 37 = .ok (.getfield 17, 3) := by decide +kernel
theorem dX8_copyFrom_40 : decode cX8_copyFrom 40 = .ok (.iconst 0, 1) := by decide +kernel
theorem dX8_copyFrom_41 : decode cX8_copyFrom 41 = .ok (.iconst 4, 1) := by decide +kernel
theorem dX8_copyFrom_42 : decode cX8_copyFrom 42 = .ok (.invokestatic 50, 3) := by decide +kernel
theorem dX8_copyFrom_45 : decode cX8_copyFrom 45 = .ok (.aload_n 0, 1) := by decide +kernel
theorem dX8_copyFrom_46 : decode cX8_copyFrom 46 = .ok (.aload_n 1, 1) := by decide +kernel
theorem dX8_copyFrom_47 : decode cX8_copyFrom 47 = .ok (.getfield 21, 3) := by decide +kernel
theorem dX8_copyFrom_50 : decode cX8_copyFrom 50 = .ok (.putfield 21, 3) := by decide +kernel
theorem dX8_copyFrom_53 : decode cX8_copyFrom 53 = .ok (.aload_n 0, 1) := by decide +kernel
theorem dX8_copyFrom_54 : decode cX8_copyFrom 54 = .ok (.aload_n 1, 1) := by decide +kernel
theorem dX8_copyFrom_55 : decode cX8_copyFrom 55 = .ok (.getfield 25, 3) := by decide +kernel
theorem dX8_copyFrom_58 : decode cX8_copyFrom 58 = .ok (.putfield 25, 3) := by decide +kernel
theorem dX8_copyFrom_61 : decode cX8_copyFrom 61 = .ok (.aload_n 0, 1) := by decide +kernel
theorem dX8_copyFrom_62 : decode cX8_copyFrom 62 = .ok (.aload_n 1, 1) := by decide +kernel
theorem dX8_copyFrom_63 : decode cX8_copyFrom 63 = .ok (.getfield 28, 3) := by decide +kernel
theorem dX8_copyFrom_66 : decode cX8_copyFrom 66 = .ok (.putfield 28, 3) := by decide +kernel
theorem dX8_copyFrom_69 : decode cX8_copyFrom 69 = .ok (.aload_n 0, 1) := by decide +kernel
theorem dX8_copyFrom_70 : decode cX8_copyFrom 70 = .ok (.aload_n 1, 1) := by decide +kernel
theorem dX8_copyFrom_71 : decode cX8_copyFrom 71 = .ok (.getfield 31, 3) := by decide +kernel
theorem dX8_copyFrom_74 : decode cX8_copyFrom 74 = .ok (.putfield 31, 3) := by decide +kernel
theorem dX8_copyFrom_77 : decode cX8_copyFrom 77 = .ok (.aload_n 0, 1) := by decide +kernel
theorem dX8_copyFrom_78 : decode cX8_copyFrom 78 = .ok (.aload_n 1, 1) := by decide +kernel
theorem dX8_copyFrom_79 : decode cX8_copyFrom 79 = .ok (.getfield 34, 3) := by decide +kernel
theorem dX8_copyFrom_82 : decode cX8_copyFrom 82 = .ok (.putfield 34, 3) := by decide +kernel
theorem dX8_copyFrom_85 : decode cX8_copyFrom 85 = .ok (.aload_n 0, 1) := by decide +kernel
theorem dX8_copyFrom_86 : decode cX8_copyFrom 86 = .ok (.aload_n 1, 1) := by decide +kernel
theorem dX8_copyFrom_87 : decode cX8_copyFrom 87 = .ok (.getfield 37, 3) := by decide +kernel
theorem dX8_copyFrom_90 : decode cX8_copyFrom 90 = .ok (.putfield 37, 3) := by decide +kernel
theorem dX8_copyFrom_93 : decode cX8_copyFrom 93 = .ok (.aload_n 0, 1) := by decide +kernel
theorem dX8_copyFrom_94 : decode cX8_copyFrom 94 = .ok (.aload_n 1, 1) := by decide +kernel
theorem dX8_copyFrom_95 : decode cX8_copyFrom 95 = .ok (.getfield 40, 3) := by decide +kernel
theorem dX8_copyFrom_98 : decode cX8_copyFrom 98 = .ok (.putfield 40, 3) := by decide +kernel
theorem dX8_copyFrom_101 : decode cX8_copyFrom 101 = .ok (.return_, 1) := by decide +kernel
theorem rX8_copyFrom : (∀ (d : Nat) (L st : List Value) (h : fk_H), fk_ev d qX8_copyFrom 0 L st h = fk_ev d qX8_copyFrom 1 L (.int (nI 0) :: st) h) ∧
  (∀ (d : Nat) (a0 a1 a2 : Value) (x : Int32) (st : List Value) (h : fk_H), fk_ev d qX8_copyFrom 1 [a0, a1, a2] (.int x :: st) h = fk_ev d qX8_copyFrom 2 [a0, a1, .int x] st h) ∧
  (∀ (d : Nat) (a0 a2 : Value) (x : Nat) (st : List Value) (h : fk_H), fk_ev d qX8_copyFrom 3 [a0, .ref x, a2] st h = fk_ev d qX8_copyFrom 4 [a0, .ref x, a2] (.ref x :: st) h) ∧
  (∀ (d : Nat) (L st : List Value) (N : Nat) (y : Nat → Nat → Int32) (l : Nat → Nat → Int64) (c : Nat), fk_at c 8 → fk_ev d qX8_copyFrom 4 L (.ref c :: st) (fk_E N y l) = fk_ev d qX8_copyFrom 7 L (.int (y c 2) :: st) (fk_E N y l)) ∧
  (∀ (d : Nat) (L : List Value) (x y : Int32) (st : List Value) (h : fk_H), fk_ev d qX8_copyFrom 7 L (.int y :: .int x :: st) h = if y ≤ x then fk_ev d qX8_copyFrom 31 L st h else fk_ev d qX8_copyFrom 10 L st h) ∧
  (∀ (d : Nat) (a1 a2 : Value) (x : Nat) (st : List Value) (h : fk_H), fk_ev d qX8_copyFrom 10 [.ref x, a1, a2] st h = fk_ev d qX8_copyFrom 11 [.ref x, a1, a2] (.ref x :: st) h) ∧
  (∀ (d : Nat) (L st : List Value) (N : Nat) (y : Nat → Nat → Int32) (l : Nat → Nat → Int64) (c : Nat), fk_at c 8 → fk_ev d qX8_copyFrom 11 L (.ref c :: st) (fk_E N y l) = fk_ev d qX8_copyFrom 14 L (.ref (fk_cr c 0) :: st) (fk_E N y l)) ∧
  (∀ (d : Nat) (a0 a1 : Value) (x : Int32) (st : List Value) (h : fk_H), fk_ev d qX8_copyFrom 14 [a0, a1, .int x] st h = fk_ev d qX8_copyFrom 15 [a0, a1, .int x] (.int x :: st) h) ∧
  (∀ (d : Nat) (L st : List Value) (N : Nat) (y : Nat → Nat → Int32) (l : Nat → Nat → Int64) (c i : Nat), fk_at c 24 → i < (fk_shp c).2 → (fk_shp c).2 < 2 ^ 31 → fk_ev d qX8_copyFrom 15 L (.int (nI i) :: .ref c :: st) (fk_E N y l) = fk_ev d qX8_copyFrom 16 L (.ref (c + 2 + i) :: st) (fk_E N y l)) ∧
  (∀ (d : Nat) (a0 a2 : Value) (x : Nat) (st : List Value) (h : fk_H), fk_ev d qX8_copyFrom 16 [a0, .ref x, a2] st h = fk_ev d qX8_copyFrom 17 [a0, .ref x, a2] (.ref x :: st) h) ∧
  (∀ (d : Nat) (L st : List Value) (N : Nat) (y : Nat → Nat → Int32) (l : Nat → Nat → Int64) (c : Nat), fk_at c 8 → fk_ev d qX8_copyFrom 17 L (.ref c :: st) (fk_E N y l) = fk_ev d qX8_copyFrom 20 L (.ref (fk_cr c 0) :: st) (fk_E N y l)) ∧
  (∀ (d : Nat) (a0 a1 : Value) (x : Int32) (st : List Value) (h : fk_H), fk_ev d qX8_copyFrom 20 [a0, a1, .int x] st h = fk_ev d qX8_copyFrom 21 [a0, a1, .int x] (.int x :: st) h) ∧
  (∀ (d : Nat) (L st : List Value) (N : Nat) (y : Nat → Nat → Int32) (l : Nat → Nat → Int64) (c i : Nat), fk_at c 24 → i < (fk_shp c).2 → (fk_shp c).2 < 2 ^ 31 → fk_ev d qX8_copyFrom 21 L (.int (nI i) :: .ref c :: st) (fk_E N y l) = fk_ev d qX8_copyFrom 22 L (.ref (c + 2 + i) :: st) (fk_E N y l)) ∧
  (∀ (d : Nat) (L : List Value) (x0 : Nat)  (N : Nat) (y : Nat → Nat → Int32) (l : Nat → Nat → Int64) (c : Nat), fk_at c 0 → fk_ev (d + 1) qX8_copyFrom 22 L (.ref x0 :: .ref c :: []) (fk_E N y l) = (fk_ev d qX0_copyFrom 0 [.ref c, .ref x0] [] (fk_E N y l)).bind fun o => fk_ev (d + 1) qX8_copyFrom 25 L (o.1.toList ++ []) o.2) ∧
  (∀ (d : Nat) (a0 a1 : Value) (x : Int32) (st : List Value) (h : fk_H), fk_ev d qX8_copyFrom 25 [a0, a1, .int x] st h = fk_ev d qX8_copyFrom 28 [a0, a1, .int (x + nI 1)] st h) ∧
  (∀ (d : Nat) (L st : List Value) (h : fk_H), fk_ev d qX8_copyFrom 28 L st h = fk_ev d qX8_copyFrom 2 L st h) ∧
  (∀ (d : Nat) (a0 a2 : Value) (x : Nat) (st : List Value) (h : fk_H), fk_ev d qX8_copyFrom 31 [a0, .ref x, a2] st h = fk_ev d qX8_copyFrom 32 [a0, .ref x, a2] (.ref x :: st) h) ∧
  (∀ (d : Nat) (L st : List Value) (N : Nat) (y : Nat → Nat → Int32) (l : Nat → Nat → Int64) (c : Nat), fk_at c 8 → fk_ev d qX8_copyFrom 32 L (.ref c :: st) (fk_E N y l) = fk_ev d qX8_copyFrom 35 L (.ref (fk_cr c 1) :: st) (fk_E N y l)) ∧
  (∀ (d : Nat) (L st : List Value) (h : fk_H), fk_ev d qX8_copyFrom 35 L st h = fk_ev d qX8_copyFrom 36 L (.int (nI 0) :: st) h) ∧
  (∀ (d : Nat) (a1 a2 : Value) (x : Nat) (st : List Value) (h : fk_H), fk_ev d qX8_copyFrom 36 [.ref x, a1, a2] st h = fk_ev d qX8_copyFrom 37 [.ref x, a1, a2] (.ref x :: st) h) ∧
  (∀ (d : Nat) (L st : List Value) (N : Nat) (y : Nat → Nat → Int32) (l : Nat → Nat → Int64) (c : Nat), fk_at c 8 → fk_ev d qX8_copyFrom 37 L (.ref c :: st) (fk_E N y l) = fk_ev d qX8_copyFrom 40 L (.ref (fk_cr c 1) :: st) (fk_E N y l)) ∧
  (∀ (d : Nat) (L st : List Value) (h : fk_H), fk_ev d qX8_copyFrom 40 L st h = fk_ev d qX8_copyFrom 41 L (.int (nI 0) :: st) h) ∧
  (∀ (d : Nat) (L st : List Value) (h : fk_H), fk_ev d qX8_copyFrom 41 L st h = fk_ev d qX8_copyFrom 42 L (.int (nI 4) :: st) h) ∧
  (∀ (d : Nat) (L : List Value) (n dp a sp a0 : Nat) (N : Nat) (y : Nat → Nat → Int32) (l : Nat → Nat → Int64), fk_at a 20 → fk_at a0 20 → sp + n ≤ (fk_shp a0).2 → dp + n ≤ (fk_shp a).2 → ((fk_shp a0).2 < 2 ^ 31 ∧ (fk_shp a).2 < 2 ^ 31) → fk_ev d qX8_copyFrom 42 L (.int (nI n) :: .int (nI dp) :: .ref a :: .int (nI sp) :: .ref a0 :: []) (fk_E N y l) = fk_ev d qX8_copyFrom 45 L [] (fk_E N (fk_uc y a0 sp a dp n) l)) ∧
  (∀ (d : Nat) (a1 a2 : Value) (x : Nat) (st : List Value) (h : fk_H), fk_ev d qX8_copyFrom 45 [.ref x, a1, a2] st h = fk_ev d qX8_copyFrom 46 [.ref x, a1, a2] (.ref x :: st) h) ∧
  (∀ (d : Nat) (a0 a2 : Value) (x : Nat) (st : List Value) (h : fk_H), fk_ev d qX8_copyFrom 46 [a0, .ref x, a2] st h = fk_ev d qX8_copyFrom 47 [a0, .ref x, a2] (.ref x :: st) h) ∧
  (∀ (d : Nat) (L st : List Value) (N : Nat) (y : Nat → Nat → Int32) (l : Nat → Nat → Int64) (c : Nat), fk_at c 8 → fk_ev d qX8_copyFrom 47 L (.ref c :: st) (fk_E N y l) = fk_ev d qX8_copyFrom 50 L (.int (y c 2) :: st) (fk_E N y l)) ∧
  (∀ (d : Nat) (L st : List Value) (N : Nat) (y : Nat → Nat → Int32) (l : Nat → Nat → Int64) (c : Nat) (v : Int32), fk_at c 8 → fk_ev d qX8_copyFrom 50 L (.int v :: .ref c :: st) (fk_E N y l) = fk_ev d qX8_copyFrom 53 L st (fk_E N (fk_u y c 2 v) l)) ∧
  (∀ (d : Nat) (a1 a2 : Value) (x : Nat) (st : List Value) (h : fk_H), fk_ev d qX8_copyFrom 53 [.ref x, a1, a2] st h = fk_ev d qX8_copyFrom 54 [.ref x, a1, a2] (.ref x :: st) h) ∧
  (∀ (d : Nat) (a0 a2 : Value) (x : Nat) (st : List Value) (h : fk_H), fk_ev d qX8_copyFrom 54 [a0, .ref x, a2] st h = fk_ev d qX8_copyFrom 55 [a0, .ref x, a2] (.ref x :: st) h) ∧
  (∀ (d : Nat) (L st : List Value) (N : Nat) (y : Nat → Nat → Int32) (l : Nat → Nat → Int64) (c : Nat), fk_at c 8 → fk_ev d qX8_copyFrom 55 L (.ref c :: st) (fk_E N y l) = fk_ev d qX8_copyFrom 58 L (.int (y c 3) :: st) (fk_E N y l)) ∧
  (∀ (d : Nat) (L st : List Value) (N : Nat) (y : Nat → Nat → Int32) (l : Nat → Nat → Int64) (c : Nat) (v : Int32), fk_at c 8 → fk_ev d qX8_copyFrom 58 L (.int v :: .ref c :: st) (fk_E N y l) = fk_ev d qX8_copyFrom 61 L st (fk_E N (fk_u y c 3 v) l)) ∧
  (∀ (d : Nat) (a1 a2 : Value) (x : Nat) (st : List Value) (h : fk_H), fk_ev d qX8_copyFrom 61 [.ref x, a1, a2] st h = fk_ev d qX8_copyFrom 62 [.ref x, a1, a2] (.ref x :: st) h) ∧
  (∀ (d : Nat) (a0 a2 : Value) (x : Nat) (st : List Value) (h : fk_H), fk_ev d qX8_copyFrom 62 [a0, .ref x, a2] st h = fk_ev d qX8_copyFrom 63 [a0, .ref x, a2] (.ref x :: st) h) ∧
  (∀ (d : Nat) (L st : List Value) (N : Nat) (y : Nat → Nat → Int32) (l : Nat → Nat → Int64) (c : Nat), fk_at c 8 → fk_ev d qX8_copyFrom 63 L (.ref c :: st) (fk_E N y l) = fk_ev d qX8_copyFrom 66 L (.int (y c 4) :: st) (fk_E N y l)) ∧
  (∀ (d : Nat) (L st : List Value) (N : Nat) (y : Nat → Nat → Int32) (l : Nat → Nat → Int64) (c : Nat) (v : Int32), fk_at c 8 → fk_ev d qX8_copyFrom 66 L (.int v :: .ref c :: st) (fk_E N y l) = fk_ev d qX8_copyFrom 69 L st (fk_E N (fk_u y c 4 v) l)) ∧
  (∀ (d : Nat) (a1 a2 : Value) (x : Nat) (st : List Value) (h : fk_H), fk_ev d qX8_copyFrom 69 [.ref x, a1, a2] st h = fk_ev d qX8_copyFrom 70 [.ref x, a1, a2] (.ref x :: st) h) ∧
  (∀ (d : Nat) (a0 a2 : Value) (x : Nat) (st : List Value) (h : fk_H), fk_ev d qX8_copyFrom 70 [a0, .ref x, a2] st h = fk_ev d qX8_copyFrom 71 [a0, .ref x, a2] (.ref x :: st) h) ∧
  (∀ (d : Nat) (L st : List Value) (N : Nat) (y : Nat → Nat → Int32) (l : Nat → Nat → Int64) (c : Nat), fk_at c 8 → fk_ev d qX8_copyFrom 71 L (.ref c :: st) (fk_E N y l) = fk_ev d qX8_copyFrom 74 L (.int (y c 5) :: st) (fk_E N y l)) ∧
  (∀ (d : Nat) (L st : List Value) (N : Nat) (y : Nat → Nat → Int32) (l : Nat → Nat → Int64) (c : Nat) (v : Int32), fk_at c 8 → fk_ev d qX8_copyFrom 74 L (.int v :: .ref c :: st) (fk_E N y l) = fk_ev d qX8_copyFrom 77 L st (fk_E N (fk_u y c 5 v) l)) ∧
  (∀ (d : Nat) (a1 a2 : Value) (x : Nat) (st : List Value) (h : fk_H), fk_ev d qX8_copyFrom 77 [.ref x, a1, a2] st h = fk_ev d qX8_copyFrom 78 [.ref x, a1, a2] (.ref x :: st) h) ∧
  (∀ (d : Nat) (a0 a2 : Value) (x : Nat) (st : List Value) (h : fk_H), fk_ev d qX8_copyFrom 78 [a0, .ref x, a2] st h = fk_ev d qX8_copyFrom 79 [a0, .ref x, a2] (.ref x :: st) h) ∧
  (∀ (d : Nat) (L st : List Value) (N : Nat) (y : Nat → Nat → Int32) (l : Nat → Nat → Int64) (c : Nat), fk_at c 8 → fk_ev d qX8_copyFrom 79 L (.ref c :: st) (fk_E N y l) = fk_ev d qX8_copyFrom 82 L (.int (y c 6) :: st) (fk_E N y l)) ∧
  (∀ (d : Nat) (L st : List Value) (N : Nat) (y : Nat → Nat → Int32) (l : Nat → Nat → Int64) (c : Nat) (v : Int32), fk_at c 8 → fk_ev d qX8_copyFrom 82 L (.int v :: .ref c :: st) (fk_E N y l) = fk_ev d qX8_copyFrom 85 L st (fk_E N (fk_u y c 6 v) l)) ∧
  (∀ (d : Nat) (a1 a2 : Value) (x : Nat) (st : List Value) (h : fk_H), fk_ev d qX8_copyFrom 85 [.ref x, a1, a2] st h = fk_ev d qX8_copyFrom 86 [.ref x, a1, a2] (.ref x :: st) h) ∧
  (∀ (d : Nat) (a0 a2 : Value) (x : Nat) (st : List Value) (h : fk_H), fk_ev d qX8_copyFrom 86 [a0, .ref x, a2] st h = fk_ev d qX8_copyFrom 87 [a0, .ref x, a2] (.ref x :: st) h) ∧
  (∀ (d : Nat) (L st : List Value) (N : Nat) (y : Nat → Nat → Int32) (l : Nat → Nat → Int64) (c : Nat), fk_at c 8 → fk_ev d qX8_copyFrom 87 L (.ref c :: st) (fk_E N y l) = fk_ev d qX8_copyFrom 90 L (.int (y c 7) :: st) (fk_E N y l)) ∧
  (∀ (d : Nat) (L st : List Value) (N : Nat) (y : Nat → Nat → Int32) (l : Nat → Nat → Int64) (c : Nat) (v : Int32), fk_at c 8 → fk_ev d qX8_copyFrom 90 L (.int v :: .ref c :: st) (fk_E N y l) = fk_ev d qX8_copyFrom 93 L st (fk_E N (fk_u y c 7 v) l)) ∧
  (∀ (d : Nat) (a1 a2 : Value) (x : Nat) (st : List Value) (h : fk_H), fk_ev d qX8_copyFrom 93 [.ref x, a1, a2] st h = fk_ev d qX8_copyFrom 94 [.ref x, a1, a2] (.ref x :: st) h) ∧
  (∀ (d : Nat) (a0 a2 : Value) (x : Nat) (st : List Value) (h : fk_H), fk_ev d qX8_copyFrom 94 [a0, .ref x, a2] st h = fk_ev d qX8_copyFrom 95 [a0, .ref x, a2] (.ref x :: st) h) ∧
  (∀ (d : Nat) (L st : List Value) (N : Nat) (y : Nat → Nat → Int32) (l : Nat → Nat → Int64) (c : Nat), fk_at c 8 → fk_ev d qX8_copyFrom 95 L (.ref c :: st) (fk_E N y l) = fk_ev d qX8_copyFrom 98 L (.int (y c 8) :: st) (fk_E N y l)) ∧
  (∀ (d : Nat) (L st : List Value) (N : Nat) (y : Nat → Nat → Int32) (l : Nat → Nat → Int64) (c : Nat) (v : Int32), fk_at c 8 → fk_ev d qX8_copyFrom 98 L (.int v :: .ref c :: st) (fk_E N y l) = fk_ev d qX8_copyFrom 101 L st (fk_E N (fk_u y c 8 v) l)) ∧
  (∀ (d : Nat) (L : List Value) (h : fk_H), fk_ev d qX8_copyFrom 101 L [] h = some (none, h)) := ⟨fun d L st h => fk_w_iconst dX8_copyFrom_0 (by decide),
  fun d a0 a1 a2 x st h => fk_w_istoren 2 3 [] [a0, a1, a2] [a0, a1, .int x] dX8_copyFrom_1 rfl rfl (by decide) rfl,
  fun d a0 a2 x st h => fk_w_aloadn 1 [a0, .ref x, a2] dX8_copyFrom_3 rfl,
  fun d L st N y l c hc => fk_g_getI rfl lf_8_21 (by decide) dX8_copyFrom_4 hc,
  fun d L x y st h => fk_r_icmp_ge dX8_copyFrom_7 (by decide),
  fun d a1 a2 x st h => fk_w_aloadn 0 [.ref x, a1, a2] dX8_copyFrom_10 rfl,
  fun d L st N y l c hc => fk_g_getC rfl lf_8_11 (by decide) rfl dX8_copyFrom_11 hc,
  fun d a0 a1 x st h => fk_w_iloadn 2 [a0, a1, .int x] dX8_copyFrom_14 rfl,
  fun d L st N y l c i hc hi hl => fk_h_aald dX8_copyFrom_15 hc hi hl,
  fun d a0 a2 x st h => fk_w_aloadn 1 [a0, .ref x, a2] dX8_copyFrom_16 rfl,
  fun d L st N y l c hc => fk_g_getC rfl lf_8_11 (by decide) rfl dX8_copyFrom_17 hc,
  fun d a0 a1 x st h => fk_w_iloadn 2 [a0, a1, .int x] dX8_copyFrom_20 rfl,
  fun d L st N y l c i hc hi hl => fk_h_aald dX8_copyFrom_21 hc hi hl,
  fun d L x0 N y l c hc => fk_g_call [.ref x0] [] rfl lm_8_46 dX8_copyFrom_22 rfl ⟨rfl, by decide⟩ (by simp) hc,
  fun d a0 a1 x st h => fk_w_iinc 2 3 (1) [] [a0, a1, .int x] [a0, a1, .int (x + nI 1)] dX8_copyFrom_25 rfl rfl rfl (by decide) rfl,
  fun d L st h => fk_r_goto dX8_copyFrom_28 (by decide),
  fun d a0 a2 x st h => fk_w_aloadn 1 [a0, .ref x, a2] dX8_copyFrom_31 rfl,
  fun d L st N y l c hc => fk_g_getC rfl lf_8_17 (by decide) rfl dX8_copyFrom_32 hc,
  fun d L st h => fk_w_iconst dX8_copyFrom_35 (by decide),
  fun d a1 a2 x st h => fk_w_aloadn 0 [.ref x, a1, a2] dX8_copyFrom_36 rfl,
  fun d L st N y l c hc => fk_g_getC rfl lf_8_17 (by decide) rfl dX8_copyFrom_37 hc,
  fun d L st h => fk_w_iconst dX8_copyFrom_40 (by decide),
  fun d L st h => fk_w_iconst dX8_copyFrom_41 (by decide),
  fun d L n dp a sp a0  N y l ha ha0 h1 h2 hb => fk_p_copy dX8_copyFrom_42 ln_8_50 lp_8_50 (by simp) ha ha0 h1 h2 hb,
  fun d a1 a2 x st h => fk_w_aloadn 0 [.ref x, a1, a2] dX8_copyFrom_45 rfl,
  fun d a0 a2 x st h => fk_w_aloadn 1 [a0, .ref x, a2] dX8_copyFrom_46 rfl,
  fun d L st N y l c hc => fk_g_getI rfl lf_8_21 (by decide) dX8_copyFrom_47 hc,
  fun d L st N y l c v hc => fk_g_putI rfl lf_8_21 (by decide) dX8_copyFrom_50 rfl hc,
  fun d a1 a2 x st h => fk_w_aloadn 0 [.ref x, a1, a2] dX8_copyFrom_53 rfl,
  fun d a0 a2 x st h => fk_w_aloadn 1 [a0, .ref x, a2] dX8_copyFrom_54 rfl,
  fun d L st N y l c hc => fk_g_getI rfl lf_8_25 (by decide) dX8_copyFrom_55 hc,
  fun d L st N y l c v hc => fk_g_putI rfl lf_8_25 (by decide) dX8_copyFrom_58 rfl hc,
  fun d a1 a2 x st h => fk_w_aloadn 0 [.ref x, a1, a2] dX8_copyFrom_61 rfl,
  fun d a0 a2 x st h => fk_w_aloadn 1 [a0, .ref x, a2] dX8_copyFrom_62 rfl,
  fun d L st N y l c hc => fk_g_getI rfl lf_8_28 (by decide) dX8_copyFrom_63 hc,
  fun d L st N y l c v hc => fk_g_putI rfl lf_8_28 (by decide) dX8_copyFrom_66 rfl hc,
  fun d a1 a2 x st h => fk_w_aloadn 0 [.ref x, a1, a2] dX8_copyFrom_69 rfl,
  fun d a0 a2 x st h => fk_w_aloadn 1 [a0, .ref x, a2] dX8_copyFrom_70 rfl,
  fun d L st N y l c hc => fk_g_getI rfl lf_8_31 (by decide) dX8_copyFrom_71 hc,
  fun d L st N y l c v hc => fk_g_putI rfl lf_8_31 (by decide) dX8_copyFrom_74 rfl hc,
  fun d a1 a2 x st h => fk_w_aloadn 0 [.ref x, a1, a2] dX8_copyFrom_77 rfl,
  fun d a0 a2 x st h => fk_w_aloadn 1 [a0, .ref x, a2] dX8_copyFrom_78 rfl,
  fun d L st N y l c hc => fk_g_getI rfl lf_8_34 (by decide) dX8_copyFrom_79 hc,
  fun d L st N y l c v hc => fk_g_putI rfl lf_8_34 (by decide) dX8_copyFrom_82 rfl hc,
  fun d a1 a2 x st h => fk_w_aloadn 0 [.ref x, a1, a2] dX8_copyFrom_85 rfl,
  fun d a0 a2 x st h => fk_w_aloadn 1 [a0, .ref x, a2] dX8_copyFrom_86 rfl,
  fun d L st N y l c hc => fk_g_getI rfl lf_8_37 (by decide) dX8_copyFrom_87 hc,
  fun d L st N y l c v hc => fk_g_putI rfl lf_8_37 (by decide) dX8_copyFrom_90 rfl hc,
  fun d a1 a2 x st h => fk_w_aloadn 0 [.ref x, a1, a2] dX8_copyFrom_93 rfl,
  fun d a0 a2 x st h => fk_w_aloadn 1 [a0, .ref x, a2] dX8_copyFrom_94 rfl,
  fun d L st N y l c hc => fk_g_getI rfl lf_8_40 (by decide) dX8_copyFrom_95 hc,
  fun d L st N y l c v hc => fk_g_putI rfl lf_8_40 (by decide) dX8_copyFrom_98 rfl hc,
  fun d L h => fk_r_vret dX8_copyFrom_101 rfl⟩
theorem hX8_copyFrom_2 : ∀ (d : Nat) (a0 a1 : Value) (x : Int32) (st : List Value) (h : fk_H), fk_ev d qX8_copyFrom 2 [a0, a1, .int x] st h = fk_ev d qX8_copyFrom 3 [a0, a1, .int x] (.int x :: st) h := fun d a0 a1 x st h => fk_w_iloadn 2 [a0, a1, .int x] dX8_copyFrom_2 rfl
theorem dX8_clearTallies_0 : decode cX8_clearTallies 0 = .ok (.aload_n 0, 1) := by decide +kernel
theorem dX8_clearTallies_1 : decode cX8_clearTallies 1 = .ok (.iconst 0, 1) := by decide +kernel
theorem dX8_clearTallies_2 : decode cX8_clearTallies 2 = .ok (.putfield 31, 3) := by decide +kernel
theorem dX8_clearTallies_5 : decode cX8_clearTallies 5 = .ok (.aload_n 0, 1) := by decide +kernel
theorem dX8_clearTallies_6 : decode cX8_clearTallies 6 = .ok (.iconst 0, 1) := by decide +kernel
theorem dX8_clearTallies_7 : decode cX8_clearTallies 7 = .ok (.putfield 34, 3) := by decide +kernel
theorem dX8_clearTallies_10 : decode cX8_clearTallies 10 = .ok (.aload_n 0, 1) := by decide +kernel
theorem dX8_clearTallies_11 : decode cX8_clearTallies 11 = .ok (.iconst 0, 1) := by decide +kernel
theorem dX8_clearTallies_12 : decode cX8_clearTallies 12 = .ok (.putfield 37, 3) := by decide +kernel
theorem dX8_clearTallies_15 : decode cX8_clearTallies 15 = .ok (.aload_n 0, 1) := by decide +kernel
theorem dX8_clearTallies_16 : decode cX8_clearTallies 16 = .ok (.iconst 0, 1) := by decide +kernel
theorem dX8_clearTallies_17 : decode cX8_clearTallies 17 = .ok (.putfield 40, 3) := by decide +kernel
theorem dX8_clearTallies_20 : decode cX8_clearTallies 20 = .ok (.return_, 1) := by decide +kernel
theorem rX8_clearTallies : (∀ (d : Nat) (x : Nat) (st : List Value) (h : fk_H), fk_ev d qX8_clearTallies 0 [.ref x] st h = fk_ev d qX8_clearTallies 1 [.ref x] (.ref x :: st) h) ∧
  (∀ (d : Nat) (L st : List Value) (h : fk_H), fk_ev d qX8_clearTallies 1 L st h = fk_ev d qX8_clearTallies 2 L (.int (nI 0) :: st) h) ∧
  (∀ (d : Nat) (L st : List Value) (N : Nat) (y : Nat → Nat → Int32) (l : Nat → Nat → Int64) (c : Nat) (v : Int32), fk_at c 8 → fk_ev d qX8_clearTallies 2 L (.int v :: .ref c :: st) (fk_E N y l) = fk_ev d qX8_clearTallies 5 L st (fk_E N (fk_u y c 5 v) l)) ∧
  (∀ (d : Nat) (x : Nat) (st : List Value) (h : fk_H), fk_ev d qX8_clearTallies 5 [.ref x] st h = fk_ev d qX8_clearTallies 6 [.ref x] (.ref x :: st) h) ∧
  (∀ (d : Nat) (L st : List Value) (h : fk_H), fk_ev d qX8_clearTallies 6 L st h = fk_ev d qX8_clearTallies 7 L (.int (nI 0) :: st) h) ∧
  (∀ (d : Nat) (L st : List Value) (N : Nat) (y : Nat → Nat → Int32) (l : Nat → Nat → Int64) (c : Nat) (v : Int32), fk_at c 8 → fk_ev d qX8_clearTallies 7 L (.int v :: .ref c :: st) (fk_E N y l) = fk_ev d qX8_clearTallies 10 L st (fk_E N (fk_u y c 6 v) l)) ∧
  (∀ (d : Nat) (x : Nat) (st : List Value) (h : fk_H), fk_ev d qX8_clearTallies 10 [.ref x] st h = fk_ev d qX8_clearTallies 11 [.ref x] (.ref x :: st) h) ∧
  (∀ (d : Nat) (L st : List Value) (h : fk_H), fk_ev d qX8_clearTallies 11 L st h = fk_ev d qX8_clearTallies 12 L (.int (nI 0) :: st) h) ∧
  (∀ (d : Nat) (L st : List Value) (N : Nat) (y : Nat → Nat → Int32) (l : Nat → Nat → Int64) (c : Nat) (v : Int32), fk_at c 8 → fk_ev d qX8_clearTallies 12 L (.int v :: .ref c :: st) (fk_E N y l) = fk_ev d qX8_clearTallies 15 L st (fk_E N (fk_u y c 7 v) l)) ∧
  (∀ (d : Nat) (x : Nat) (st : List Value) (h : fk_H), fk_ev d qX8_clearTallies 15 [.ref x] st h = fk_ev d qX8_clearTallies 16 [.ref x] (.ref x :: st) h) ∧
  (∀ (d : Nat) (L st : List Value) (h : fk_H), fk_ev d qX8_clearTallies 16 L st h = fk_ev d qX8_clearTallies 17 L (.int (nI 0) :: st) h) ∧
  (∀ (d : Nat) (L st : List Value) (N : Nat) (y : Nat → Nat → Int32) (l : Nat → Nat → Int64) (c : Nat) (v : Int32), fk_at c 8 → fk_ev d qX8_clearTallies 17 L (.int v :: .ref c :: st) (fk_E N y l) = fk_ev d qX8_clearTallies 20 L st (fk_E N (fk_u y c 8 v) l)) ∧
  (∀ (d : Nat) (L : List Value) (h : fk_H), fk_ev d qX8_clearTallies 20 L [] h = some (none, h)) := ⟨fun d  x st h => fk_w_aloadn 0 [.ref x] dX8_clearTallies_0 rfl,
  fun d L st h => fk_w_iconst dX8_clearTallies_1 (by decide),
  fun d L st N y l c v hc => fk_g_putI rfl lf_8_31 (by decide) dX8_clearTallies_2 rfl hc,
  fun d  x st h => fk_w_aloadn 0 [.ref x] dX8_clearTallies_5 rfl,
  fun d L st h => fk_w_iconst dX8_clearTallies_6 (by decide),
  fun d L st N y l c v hc => fk_g_putI rfl lf_8_34 (by decide) dX8_clearTallies_7 rfl hc,
  fun d  x st h => fk_w_aloadn 0 [.ref x] dX8_clearTallies_10 rfl,
  fun d L st h => fk_w_iconst dX8_clearTallies_11 (by decide),
  fun d L st N y l c v hc => fk_g_putI rfl lf_8_37 (by decide) dX8_clearTallies_12 rfl hc,
  fun d  x st h => fk_w_aloadn 0 [.ref x] dX8_clearTallies_15 rfl,
  fun d L st h => fk_w_iconst dX8_clearTallies_16 (by decide),
  fun d L st N y l c v hc => fk_g_putI rfl lf_8_40 (by decide) dX8_clearTallies_17 rfl hc,
  fun d L h => fk_r_vret dX8_clearTallies_20 rfl⟩
theorem dX8_hasBeen_0 : decode cX8_hasBeen 0 = .ok (.iload_n 1, 1) := by decide +kernel
theorem dX8_hasBeen_1 : decode cX8_hasBeen 1 = .ok (.aload_n 0, 1) := by decide +kernel
theorem dX8_hasBeen_2 : decode cX8_hasBeen 2 = .ok (.getfield 21, 3) := by decide +kernel
theorem dX8_hasBeen_5 : decode cX8_hasBeen 5 = .ok (.invokestatic 56, 3) := by decide +kernel
theorem dX8_hasBeen_8 : decode cX8_hasBeen 8 = .ok (.ireturn, 1) := by decide +kernel
theorem rX8_hasBeen : (∀ (d : Nat) (a0 : Value) (x : Int32) (st : List Value) (h : fk_H), fk_ev d qX8_hasBeen 0 [a0, .int x] st h = fk_ev d qX8_hasBeen 1 [a0, .int x] (.int x :: st) h) ∧
  (∀ (d : Nat) (a1 : Value) (x : Nat) (st : List Value) (h : fk_H), fk_ev d qX8_hasBeen 1 [.ref x, a1] st h = fk_ev d qX8_hasBeen 2 [.ref x, a1] (.ref x :: st) h) ∧
  (∀ (d : Nat) (L st : List Value) (N : Nat) (y : Nat → Nat → Int32) (l : Nat → Nat → Int64) (c : Nat), fk_at c 8 → fk_ev d qX8_hasBeen 2 L (.ref c :: st) (fk_E N y l) = fk_ev d qX8_hasBeen 5 L (.int (y c 2) :: st) (fk_E N y l)) ∧
  (∀ (d : Nat) (L : List Value) (x0 : Int32) (x1 : Int32)  (h : fk_H), fk_ev (d + 1) qX8_hasBeen 5 L (.int x1 :: .int x0 :: []) h = (fk_ev d qX11_within 0 [.int x0, .int x1] [] h).bind fun o => fk_ev (d + 1) qX8_hasBeen 8 L (o.1.toList ++ []) o.2) ∧
  (∀ (d : Nat) (L : List Value) (h : fk_H), fk_ev d qX8_hasBeen 8 L [.int (nI 0)] h = some (some (.int (nI 0)), h)) ∧
  (∀ (d : Nat) (L : List Value) (h : fk_H), fk_ev d qX8_hasBeen 8 L [.int (nI 1)] h = some (some (.int (nI 1)), h)) ∧
  (∀ (d : Nat) (L : List Value) (p : Prop) [Decidable p] (h : fk_H), fk_ev d qX8_hasBeen 8 L [.int (fk_b p)] h = some (some (.int (fk_b p)), h)) ∧
  (∀ (d : Nat) (L : List Value) (x : Int32) (h : fk_H), (x = nI 0 ∨ x = nI 1) → fk_ev d qX8_hasBeen 8 L [.int x] h = some (some (.int x), h)) := ⟨fun d a0 x st h => fk_w_iloadn 1 [a0, .int x] dX8_hasBeen_0 rfl,
  fun d a1 x st h => fk_w_aloadn 0 [.ref x, a1] dX8_hasBeen_1 rfl,
  fun d L st N y l c hc => fk_g_getI rfl lf_8_21 (by decide) dX8_hasBeen_2 hc,
  fun d L x0 x1 h => fk_g_calls [.int x0, .int x1] [] rfl lm_8_56 dX8_hasBeen_5 rfl ⟨rfl, by decide⟩ (by simp),
  fun d L h => fk_r_ret dX8_hasBeen_8 (Or.inr (Or.inl ⟨rfl, by decide⟩)),
  fun d L h => fk_r_ret dX8_hasBeen_8 (Or.inr (Or.inl ⟨rfl, by decide⟩)),
  fun d L p _ h => fk_r_ret dX8_hasBeen_8 (Or.inr (Or.inl ⟨rfl, fk_b_01⟩)),
  fun d L x h hx => fk_r_ret dX8_hasBeen_8 (Or.inr (Or.inl ⟨rfl, hx⟩))⟩
theorem dX8_isLiving_0 : decode cX8_isLiving 0 = .ok (.iload_n 1, 1) := by decide +kernel
theorem dX8_isLiving_1 : decode cX8_isLiving 1 = .ok (.aload_n 0, 1) := by decide +kernel
theorem dX8_isLiving_2 : decode cX8_isLiving 2 = .ok (.getfield 21, 3) := by decide +kernel
theorem dX8_isLiving_5 : decode cX8_isLiving 5 = .ok (.invokestatic 56, 3) := by decide +kernel
theorem dX8_isLiving_8 : decode cX8_isLiving 8 = .ok (.ifCond .eq 19, 3) := by decide +kernel
theorem dX8_isLiving_11 : decode cX8_isLiving 11 = .ok (.aload_n 0, 1) := by decide +kernel
theorem dX8_isLiving_12 : decode cX8_isLiving 12 = .ok (.getfield 11, 3) := by decide +kernel
theorem dX8_isLiving_15 : decode cX8_isLiving 15 = .ok (.iload_n 1, 1) := by decide +kernel
theorem dX8_isLiving_16 : decode cX8_isLiving 16 = .ok (.aaload, 1) := by decide +kernel
theorem dX8_isLiving_17 : decode cX8_isLiving 17 = .ok (.getfield 60, 3) := by decide +kernel
theorem dX8_isLiving_20 : decode cX8_isLiving 20 = .ok (.ifCond .eq 7, 3) := by decide +kernel
theorem dX8_isLiving_23 : decode cX8_isLiving 23 = .ok (.iconst 1, 1) := by decide +kernel
theorem dX8_isLiving_24 : decode cX8_isLiving 24 = .ok (.goto 4, 3) := by decide +kernel
theorem dX8_isLiving_27 : decode cX8_isLiving 27 = .ok (.iconst 0, 1) := by decide +kernel
theorem dX8_isLiving_28 : decode cX8_isLiving 28 = .ok (.ireturn, 1) := by decide +kernel
theorem rX8_isLiving : (∀ (d : Nat) (a0 : Value) (x : Int32) (st : List Value) (h : fk_H), fk_ev d qX8_isLiving 0 [a0, .int x] st h = fk_ev d qX8_isLiving 1 [a0, .int x] (.int x :: st) h) ∧
  (∀ (d : Nat) (a1 : Value) (x : Nat) (st : List Value) (h : fk_H), fk_ev d qX8_isLiving 1 [.ref x, a1] st h = fk_ev d qX8_isLiving 2 [.ref x, a1] (.ref x :: st) h) ∧
  (∀ (d : Nat) (L st : List Value) (N : Nat) (y : Nat → Nat → Int32) (l : Nat → Nat → Int64) (c : Nat), fk_at c 8 → fk_ev d qX8_isLiving 2 L (.ref c :: st) (fk_E N y l) = fk_ev d qX8_isLiving 5 L (.int (y c 2) :: st) (fk_E N y l)) ∧
  (∀ (d : Nat) (L : List Value) (x0 : Int32) (x1 : Int32)  (h : fk_H), fk_ev (d + 1) qX8_isLiving 5 L (.int x1 :: .int x0 :: []) h = (fk_ev d qX11_within 0 [.int x0, .int x1] [] h).bind fun o => fk_ev (d + 1) qX8_isLiving 8 L (o.1.toList ++ []) o.2) ∧
  (∀ (d : Nat) (L : List Value) (x : Int32) (st : List Value) (h : fk_H), fk_ev d qX8_isLiving 8 L (.int x :: st) h = if x = nI 0 then fk_ev d qX8_isLiving 27 L st h else fk_ev d qX8_isLiving 11 L st h) ∧
  (∀ (d : Nat) (a1 : Value) (x : Nat) (st : List Value) (h : fk_H), fk_ev d qX8_isLiving 11 [.ref x, a1] st h = fk_ev d qX8_isLiving 12 [.ref x, a1] (.ref x :: st) h) ∧
  (∀ (d : Nat) (L st : List Value) (N : Nat) (y : Nat → Nat → Int32) (l : Nat → Nat → Int64) (c : Nat), fk_at c 8 → fk_ev d qX8_isLiving 12 L (.ref c :: st) (fk_E N y l) = fk_ev d qX8_isLiving 15 L (.ref (fk_cr c 0) :: st) (fk_E N y l)) ∧
  (∀ (d : Nat) (a0 : Value) (x : Int32) (st : List Value) (h : fk_H), fk_ev d qX8_isLiving 15 [a0, .int x] st h = fk_ev d qX8_isLiving 16 [a0, .int x] (.int x :: st) h) ∧
  (∀ (d : Nat) (L st : List Value) (N : Nat) (y : Nat → Nat → Int32) (l : Nat → Nat → Int64) (c i : Nat), fk_at c 24 → i < (fk_shp c).2 → (fk_shp c).2 < 2 ^ 31 → fk_ev d qX8_isLiving 16 L (.int (nI i) :: .ref c :: st) (fk_E N y l) = fk_ev d qX8_isLiving 17 L (.ref (c + 2 + i) :: st) (fk_E N y l)) ∧
  (∀ (d : Nat) (L st : List Value) (N : Nat) (y : Nat → Nat → Int32) (l : Nat → Nat → Int64) (c : Nat), fk_at c 0 → fk_ev d qX8_isLiving 17 L (.ref c :: st) (fk_E N y l) = fk_ev d qX8_isLiving 20 L (.int (y c 4) :: st) (fk_E N y l)) ∧
  (∀ (d : Nat) (L : List Value) (x : Int32) (st : List Value) (h : fk_H), fk_ev d qX8_isLiving 20 L (.int x :: st) h = if x = nI 0 then fk_ev d qX8_isLiving 27 L st h else fk_ev d qX8_isLiving 23 L st h) ∧
  (∀ (d : Nat) (L st : List Value) (h : fk_H), fk_ev d qX8_isLiving 23 L st h = fk_ev d qX8_isLiving 24 L (.int (nI 1) :: st) h) ∧
  (∀ (d : Nat) (L st : List Value) (h : fk_H), fk_ev d qX8_isLiving 24 L st h = fk_ev d qX8_isLiving 28 L st h) ∧
  (∀ (d : Nat) (L st : List Value) (h : fk_H), fk_ev d qX8_isLiving 27 L st h = fk_ev d qX8_isLiving 28 L (.int (nI 0) :: st) h) ∧
  (∀ (d : Nat) (L : List Value) (h : fk_H), fk_ev d qX8_isLiving 28 L [.int (nI 0)] h = some (some (.int (nI 0)), h)) ∧
  (∀ (d : Nat) (L : List Value) (h : fk_H), fk_ev d qX8_isLiving 28 L [.int (nI 1)] h = some (some (.int (nI 1)), h)) ∧
  (∀ (d : Nat) (L : List Value) (p : Prop) [Decidable p] (h : fk_H), fk_ev d qX8_isLiving 28 L [.int (fk_b p)] h = some (some (.int (fk_b p)), h)) ∧
  (∀ (d : Nat) (L : List Value) (x : Int32) (h : fk_H), (x = nI 0 ∨ x = nI 1) → fk_ev d qX8_isLiving 28 L [.int x] h = some (some (.int x), h)) := ⟨fun d a0 x st h => fk_w_iloadn 1 [a0, .int x] dX8_isLiving_0 rfl,
  fun d a1 x st h => fk_w_aloadn 0 [.ref x, a1] dX8_isLiving_1 rfl,
  fun d L st N y l c hc => fk_g_getI rfl lf_8_21 (by decide) dX8_isLiving_2 hc,
  fun d L x0 x1 h => fk_g_calls [.int x0, .int x1] [] rfl lm_8_56 dX8_isLiving_5 rfl ⟨rfl, by decide⟩ (by simp),
  fun d L x st h => fk_r_if_eq dX8_isLiving_8 (by decide),
  fun d a1 x st h => fk_w_aloadn 0 [.ref x, a1] dX8_isLiving_11 rfl,
  fun d L st N y l c hc => fk_g_getC rfl lf_8_11 (by decide) rfl dX8_isLiving_12 hc,
  fun d a0 x st h => fk_w_iloadn 1 [a0, .int x] dX8_isLiving_15 rfl,
  fun d L st N y l c i hc hi hl => fk_h_aald dX8_isLiving_16 hc hi hl,
  fun d L st N y l c hc => fk_g_getI rfl lf_8_60 (by decide) dX8_isLiving_17 hc,
  fun d L x st h => fk_r_if_eq dX8_isLiving_20 (by decide),
  fun d L st h => fk_w_iconst dX8_isLiving_23 (by decide),
  fun d L st h => fk_r_goto dX8_isLiving_24 (by decide),
  fun d L st h => fk_w_iconst dX8_isLiving_27 (by decide),
  fun d L h => fk_r_ret dX8_isLiving_28 (Or.inr (Or.inl ⟨rfl, by decide⟩)),
  fun d L h => fk_r_ret dX8_isLiving_28 (Or.inr (Or.inl ⟨rfl, by decide⟩)),
  fun d L p _ h => fk_r_ret dX8_isLiving_28 (Or.inr (Or.inl ⟨rfl, fk_b_01⟩)),
  fun d L x h hx => fk_r_ret dX8_isLiving_28 (Or.inr (Or.inl ⟨rfl, hx⟩))⟩
theorem dX8_isAtPlace_0 : decode cX8_isAtPlace 0 = .ok (.iload_n 1, 1) := by decide +kernel
theorem dX8_isAtPlace_1 : decode cX8_isAtPlace 1 = .ok (.aload_n 0, 1) := by decide +kernel
theorem dX8_isAtPlace_2 : decode cX8_isAtPlace 2 = .ok (.getfield 21, 3) := by decide +kernel
theorem dX8_isAtPlace_5 : decode cX8_isAtPlace 5 = .ok (.invokestatic 56, 3) := by decide +kernel
theorem dX8_isAtPlace_8 : decode cX8_isAtPlace 8 = .ok (.ifCond .eq 31, 3) := by decide +kernel
theorem dX8_isAtPlace_11 : decode cX8_isAtPlace 11 = .ok (.aload_n 0, 1) := by decide +kernel
theorem dX8_isAtPlace_12 : decode cX8_isAtPlace 12 = .ok (.getfield 11, 3) := by decide +kernel
theorem dX8_isAtPlace_15 : decode cX8_isAtPlace 15 = .ok (.iload_n 1, 1) := by decide +kernel
theorem dX8_isAtPlace_16 : decode cX8_isAtPlace 16 = .ok (.aaload, 1) := by decide +kernel
theorem dX8_isAtPlace_17 : decode cX8_isAtPlace 17 = .ok (.getfield 60, 3) := by decide +kernel
theorem dX8_isAtPlace_20 : decode cX8_isAtPlace 20 = .ok (.ifCond .eq 19, 3) := by decide +kernel
theorem dX8_isAtPlace_23 : decode cX8_isAtPlace 23 = .ok (.aload_n 0, 1) := by decide +kernel
theorem dX8_isAtPlace_24 : decode cX8_isAtPlace 24 = .ok (.getfield 11, 3) := by decide +kernel
theorem dX8_isAtPlace_27 : decode cX8_isAtPlace 27 = .ok (.iload_n 1, 1) := by decide +kernel
theorem dX8_isAtPlace_28 : decode cX8_isAtPlace 28 = .ok (.aaload, 1) := by decide +kernel
theorem dX8_isAtPlace_29 : decode cX8_isAtPlace 29 = .ok (.getfield 64, 3) := by decide +kernel
theorem dX8_isAtPlace_32 : decode cX8_isAtPlace 32 = .ok (.ifCond .lt 7, 3) := by decide +kernel
theorem dX8_isAtPlace_35 : decode cX8_isAtPlace 35 = .ok (.iconst 1, 1) := by decide +kernel
theorem dX8_isAtPlace_36 : decode cX8_isAtPlace 36 = .ok (.goto 4, 3) := by decide +kernel
theorem dX8_isAtPlace_39 : decode cX8_isAtPlace 39 = .ok (.iconst 0, 1) := by decide +kernel
theorem dX8_isAtPlace_40 : decode cX8_isAtPlace 40 = .ok (.ireturn, 1) := by decide +kernel
theorem rX8_isAtPlace : (∀ (d : Nat) (a0 : Value) (x : Int32) (st : List Value) (h : fk_H), fk_ev d qX8_isAtPlace 0 [a0, .int x] st h = fk_ev d qX8_isAtPlace 1 [a0, .int x] (.int x :: st) h) ∧
  (∀ (d : Nat) (a1 : Value) (x : Nat) (st : List Value) (h : fk_H), fk_ev d qX8_isAtPlace 1 [.ref x, a1] st h = fk_ev d qX8_isAtPlace 2 [.ref x, a1] (.ref x :: st) h) ∧
  (∀ (d : Nat) (L st : List Value) (N : Nat) (y : Nat → Nat → Int32) (l : Nat → Nat → Int64) (c : Nat), fk_at c 8 → fk_ev d qX8_isAtPlace 2 L (.ref c :: st) (fk_E N y l) = fk_ev d qX8_isAtPlace 5 L (.int (y c 2) :: st) (fk_E N y l)) ∧
  (∀ (d : Nat) (L : List Value) (x0 : Int32) (x1 : Int32)  (h : fk_H), fk_ev (d + 1) qX8_isAtPlace 5 L (.int x1 :: .int x0 :: []) h = (fk_ev d qX11_within 0 [.int x0, .int x1] [] h).bind fun o => fk_ev (d + 1) qX8_isAtPlace 8 L (o.1.toList ++ []) o.2) ∧
  (∀ (d : Nat) (L : List Value) (x : Int32) (st : List Value) (h : fk_H), fk_ev d qX8_isAtPlace 8 L (.int x :: st) h = if x = nI 0 then fk_ev d qX8_isAtPlace 39 L st h else fk_ev d qX8_isAtPlace 11 L st h) ∧
  (∀ (d : Nat) (a1 : Value) (x : Nat) (st : List Value) (h : fk_H), fk_ev d qX8_isAtPlace 11 [.ref x, a1] st h = fk_ev d qX8_isAtPlace 12 [.ref x, a1] (.ref x :: st) h) ∧
  (∀ (d : Nat) (L st : List Value) (N : Nat) (y : Nat → Nat → Int32) (l : Nat → Nat → Int64) (c : Nat), fk_at c 8 → fk_ev d qX8_isAtPlace 12 L (.ref c :: st) (fk_E N y l) = fk_ev d qX8_isAtPlace 15 L (.ref (fk_cr c 0) :: st) (fk_E N y l)) ∧
  (∀ (d : Nat) (a0 : Value) (x : Int32) (st : List Value) (h : fk_H), fk_ev d qX8_isAtPlace 15 [a0, .int x] st h = fk_ev d qX8_isAtPlace 16 [a0, .int x] (.int x :: st) h) ∧
  (∀ (d : Nat) (L st : List Value) (N : Nat) (y : Nat → Nat → Int32) (l : Nat → Nat → Int64) (c i : Nat), fk_at c 24 → i < (fk_shp c).2 → (fk_shp c).2 < 2 ^ 31 → fk_ev d qX8_isAtPlace 16 L (.int (nI i) :: .ref c :: st) (fk_E N y l) = fk_ev d qX8_isAtPlace 17 L (.ref (c + 2 + i) :: st) (fk_E N y l)) ∧
  (∀ (d : Nat) (L st : List Value) (N : Nat) (y : Nat → Nat → Int32) (l : Nat → Nat → Int64) (c : Nat), fk_at c 0 → fk_ev d qX8_isAtPlace 17 L (.ref c :: st) (fk_E N y l) = fk_ev d qX8_isAtPlace 20 L (.int (y c 4) :: st) (fk_E N y l)) ∧
  (∀ (d : Nat) (L : List Value) (x : Int32) (st : List Value) (h : fk_H), fk_ev d qX8_isAtPlace 20 L (.int x :: st) h = if x = nI 0 then fk_ev d qX8_isAtPlace 39 L st h else fk_ev d qX8_isAtPlace 23 L st h) ∧
  (∀ (d : Nat) (a1 : Value) (x : Nat) (st : List Value) (h : fk_H), fk_ev d qX8_isAtPlace 23 [.ref x, a1] st h = fk_ev d qX8_isAtPlace 24 [.ref x, a1] (.ref x :: st) h) ∧
  (∀ (d : Nat) (L st : List Value) (N : Nat) (y : Nat → Nat → Int32) (l : Nat → Nat → Int64) (c : Nat), fk_at c 8 → fk_ev d qX8_isAtPlace 24 L (.ref c :: st) (fk_E N y l) = fk_ev d qX8_isAtPlace 27 L (.ref (fk_cr c 0) :: st) (fk_E N y l)) ∧
  (∀ (d : Nat) (a0 : Value) (x : Int32) (st : List Value) (h : fk_H), fk_ev d qX8_isAtPlace 27 [a0, .int x] st h = fk_ev d qX8_isAtPlace 28 [a0, .int x] (.int x :: st) h) ∧
  (∀ (d : Nat) (L st : List Value) (N : Nat) (y : Nat → Nat → Int32) (l : Nat → Nat → Int64) (c i : Nat), fk_at c 24 → i < (fk_shp c).2 → (fk_shp c).2 < 2 ^ 31 → fk_ev d qX8_isAtPlace 28 L (.int (nI i) :: .ref c :: st) (fk_E N y l) = fk_ev d qX8_isAtPlace 29 L (.ref (c + 2 + i) :: st) (fk_E N y l)) ∧
  (∀ (d : Nat) (L st : List Value) (N : Nat) (y : Nat → Nat → Int32) (l : Nat → Nat → Int64) (c : Nat), fk_at c 0 → fk_ev d qX8_isAtPlace 29 L (.ref c :: st) (fk_E N y l) = fk_ev d qX8_isAtPlace 32 L (.int (y c 6) :: st) (fk_E N y l)) ∧
  (∀ (d : Nat) (L : List Value) (x : Int32) (st : List Value) (h : fk_H), fk_ev d qX8_isAtPlace 32 L (.int x :: st) h = if x < nI 0 then fk_ev d qX8_isAtPlace 39 L st h else fk_ev d qX8_isAtPlace 35 L st h) ∧
  (∀ (d : Nat) (L st : List Value) (h : fk_H), fk_ev d qX8_isAtPlace 35 L st h = fk_ev d qX8_isAtPlace 36 L (.int (nI 1) :: st) h) ∧
  (∀ (d : Nat) (L st : List Value) (h : fk_H), fk_ev d qX8_isAtPlace 36 L st h = fk_ev d qX8_isAtPlace 40 L st h) ∧
  (∀ (d : Nat) (L st : List Value) (h : fk_H), fk_ev d qX8_isAtPlace 39 L st h = fk_ev d qX8_isAtPlace 40 L (.int (nI 0) :: st) h) ∧
  (∀ (d : Nat) (L : List Value) (h : fk_H), fk_ev d qX8_isAtPlace 40 L [.int (nI 0)] h = some (some (.int (nI 0)), h)) ∧
  (∀ (d : Nat) (L : List Value) (h : fk_H), fk_ev d qX8_isAtPlace 40 L [.int (nI 1)] h = some (some (.int (nI 1)), h)) ∧
  (∀ (d : Nat) (L : List Value) (p : Prop) [Decidable p] (h : fk_H), fk_ev d qX8_isAtPlace 40 L [.int (fk_b p)] h = some (some (.int (fk_b p)), h)) ∧
  (∀ (d : Nat) (L : List Value) (x : Int32) (h : fk_H), (x = nI 0 ∨ x = nI 1) → fk_ev d qX8_isAtPlace 40 L [.int x] h = some (some (.int x), h)) := ⟨fun d a0 x st h => fk_w_iloadn 1 [a0, .int x] dX8_isAtPlace_0 rfl,
  fun d a1 x st h => fk_w_aloadn 0 [.ref x, a1] dX8_isAtPlace_1 rfl,
  fun d L st N y l c hc => fk_g_getI rfl lf_8_21 (by decide) dX8_isAtPlace_2 hc,
  fun d L x0 x1 h => fk_g_calls [.int x0, .int x1] [] rfl lm_8_56 dX8_isAtPlace_5 rfl ⟨rfl, by decide⟩ (by simp),
  fun d L x st h => fk_r_if_eq dX8_isAtPlace_8 (by decide),
  fun d a1 x st h => fk_w_aloadn 0 [.ref x, a1] dX8_isAtPlace_11 rfl,
  fun d L st N y l c hc => fk_g_getC rfl lf_8_11 (by decide) rfl dX8_isAtPlace_12 hc,
  fun d a0 x st h => fk_w_iloadn 1 [a0, .int x] dX8_isAtPlace_15 rfl,
  fun d L st N y l c i hc hi hl => fk_h_aald dX8_isAtPlace_16 hc hi hl,
  fun d L st N y l c hc => fk_g_getI rfl lf_8_60 (by decide) dX8_isAtPlace_17 hc,
  fun d L x st h => fk_r_if_eq dX8_isAtPlace_20 (by decide),
  fun d a1 x st h => fk_w_aloadn 0 [.ref x, a1] dX8_isAtPlace_23 rfl,
  fun d L st N y l c hc => fk_g_getC rfl lf_8_11 (by decide) rfl dX8_isAtPlace_24 hc,
  fun d a0 x st h => fk_w_iloadn 1 [a0, .int x] dX8_isAtPlace_27 rfl,
  fun d L st N y l c i hc hi hl => fk_h_aald dX8_isAtPlace_28 hc hi hl,
  fun d L st N y l c hc => fk_g_getI rfl lf_8_64 (by decide) dX8_isAtPlace_29 hc,
  fun d L x st h => fk_r_if_lt dX8_isAtPlace_32 (by decide),
  fun d L st h => fk_w_iconst dX8_isAtPlace_35 (by decide),
  fun d L st h => fk_r_goto dX8_isAtPlace_36 (by decide),
  fun d L st h => fk_w_iconst dX8_isAtPlace_39 (by decide),
  fun d L h => fk_r_ret dX8_isAtPlace_40 (Or.inr (Or.inl ⟨rfl, by decide⟩)),
  fun d L h => fk_r_ret dX8_isAtPlace_40 (Or.inr (Or.inl ⟨rfl, by decide⟩)),
  fun d L p _ h => fk_r_ret dX8_isAtPlace_40 (Or.inr (Or.inl ⟨rfl, fk_b_01⟩)),
  fun d L x h hx => fk_r_ret dX8_isAtPlace_40 (Or.inr (Or.inl ⟨rfl, hx⟩))⟩
theorem dX8_livingInAll_0 : decode cX8_livingInAll 0 = .ok (.aload_n 0, 1) := by decide +kernel
theorem dX8_livingInAll_1 : decode cX8_livingInAll 1 = .ok (.getfield 17, 3) := by decide +kernel
theorem dX8_livingInAll_4 : decode cX8_livingInAll 4 = .ok (.iconst 0, 1) := by decide +kernel
theorem dX8_livingInAll_5 : decode cX8_livingInAll 5 = .ok (.iaload, 1) := by decide +kernel
theorem dX8_livingInAll_6 : decode cX8_livingInAll 6 = .ok (.aload_n 0, 1) := by decide +kernel
theorem dX8_livingInAll_7 : decode cX8_livingInAll 7 = .ok (.getfield 17, 3) := by decide +kernel
theorem dX8_livingInAll_10 : decode cX8_livingInAll 10 = .ok (.iconst 1, 1) := by decide +kernel
theorem dX8_livingInAll_11 : decode cX8_livingInAll 11 = .ok (.iaload, 1) := by decide +kernel
theorem dX8_livingInAll_12 : decode cX8_livingInAll 12 = .ok (.iadd, 1) := by decide +kernel
theorem dX8_livingInAll_13 : decode cX8_livingInAll 13 = .ok (.aload_n 0, 1) := by decide +kernel
theorem dX8_livingInAll_14 : decode cX8_livingInAll 14 = .ok (.getfield 17, 3) := by decide +kernel
theorem dX8_livingInAll_17 : decode cX8_livingInAll 17 = .ok (.iconst 2, 1) := by decide +kernel
theorem dX8_livingInAll_18 : decode cX8_livingInAll 18 = .ok (.iaload, 1) := by decide +kernel
theorem dX8_livingInAll_19 : decode cX8_livingInAll 19 = .ok (.iadd, 1) := by decide +kernel
theorem dX8_livingInAll_20 : decode cX8_livingInAll 20 = .ok (.aload_n 0, 1) := by decide +kernel
theorem dX8_livingInAll_21 : decode cX8_livingInAll 21 = .ok (.getfield 17, 3) := by decide +kernel
theorem dX8_livingInAll_24 : decode cX8_livingInAll 24 = .ok (.iconst 3, 1) := by decide +kernel
theorem dX8_livingInAll_25 : decode cX8_livingInAll 25 = .ok (.iaload, 1) := by decide +kernel
theorem dX8_livingInAll_26 : decode cX8_livingInAll 26 = .ok (.iadd, 1) := by decide +kernel
theorem dX8_livingInAll_27 : decode cX8_livingInAll 27 = .ok (.ireturn, 1) := by decide +kernel
theorem rX8_livingInAll : (∀ (d : Nat) (x : Nat) (st : List Value) (h : fk_H), fk_ev d qX8_livingInAll 0 [.ref x] st h = fk_ev d qX8_livingInAll 1 [.ref x] (.ref x :: st) h) ∧
  (∀ (d : Nat) (L st : List Value) (N : Nat) (y : Nat → Nat → Int32) (l : Nat → Nat → Int64) (c : Nat), fk_at c 8 → fk_ev d qX8_livingInAll 1 L (.ref c :: st) (fk_E N y l) = fk_ev d qX8_livingInAll 4 L (.ref (fk_cr c 1) :: st) (fk_E N y l)) ∧
  (∀ (d : Nat) (L st : List Value) (h : fk_H), fk_ev d qX8_livingInAll 4 L st h = fk_ev d qX8_livingInAll 5 L (.int (nI 0) :: st) h) ∧
  (∀ (d : Nat) (L st : List Value) (N : Nat) (y : Nat → Nat → Int32) (l : Nat → Nat → Int64) (c i : Nat), fk_at c 20 → i < (fk_shp c).2 → (fk_shp c).2 < 2 ^ 31 → fk_ev d qX8_livingInAll 5 L (.int (nI i) :: .ref c :: st) (fk_E N y l) = fk_ev d qX8_livingInAll 6 L (.int (y c i) :: st) (fk_E N y l)) ∧
  (∀ (d : Nat) (x : Nat) (st : List Value) (h : fk_H), fk_ev d qX8_livingInAll 6 [.ref x] st h = fk_ev d qX8_livingInAll 7 [.ref x] (.ref x :: st) h) ∧
  (∀ (d : Nat) (L st : List Value) (N : Nat) (y : Nat → Nat → Int32) (l : Nat → Nat → Int64) (c : Nat), fk_at c 8 → fk_ev d qX8_livingInAll 7 L (.ref c :: st) (fk_E N y l) = fk_ev d qX8_livingInAll 10 L (.ref (fk_cr c 1) :: st) (fk_E N y l)) ∧
  (∀ (d : Nat) (L st : List Value) (h : fk_H), fk_ev d qX8_livingInAll 10 L st h = fk_ev d qX8_livingInAll 11 L (.int (nI 1) :: st) h) ∧
  (∀ (d : Nat) (L st : List Value) (N : Nat) (y : Nat → Nat → Int32) (l : Nat → Nat → Int64) (c i : Nat), fk_at c 20 → i < (fk_shp c).2 → (fk_shp c).2 < 2 ^ 31 → fk_ev d qX8_livingInAll 11 L (.int (nI i) :: .ref c :: st) (fk_E N y l) = fk_ev d qX8_livingInAll 12 L (.int (y c i) :: st) (fk_E N y l)) ∧
  (∀ (d : Nat) (L : List Value) (x y : Int32) (st : List Value) (h : fk_H), fk_ev d qX8_livingInAll 12 L (.int y :: .int x :: st) h = fk_ev d qX8_livingInAll 13 L (.int (x + y) :: st) h) ∧
  (∀ (d : Nat) (x : Nat) (st : List Value) (h : fk_H), fk_ev d qX8_livingInAll 13 [.ref x] st h = fk_ev d qX8_livingInAll 14 [.ref x] (.ref x :: st) h) ∧
  (∀ (d : Nat) (L st : List Value) (N : Nat) (y : Nat → Nat → Int32) (l : Nat → Nat → Int64) (c : Nat), fk_at c 8 → fk_ev d qX8_livingInAll 14 L (.ref c :: st) (fk_E N y l) = fk_ev d qX8_livingInAll 17 L (.ref (fk_cr c 1) :: st) (fk_E N y l)) ∧
  (∀ (d : Nat) (L st : List Value) (h : fk_H), fk_ev d qX8_livingInAll 17 L st h = fk_ev d qX8_livingInAll 18 L (.int (nI 2) :: st) h) ∧
  (∀ (d : Nat) (L st : List Value) (N : Nat) (y : Nat → Nat → Int32) (l : Nat → Nat → Int64) (c i : Nat), fk_at c 20 → i < (fk_shp c).2 → (fk_shp c).2 < 2 ^ 31 → fk_ev d qX8_livingInAll 18 L (.int (nI i) :: .ref c :: st) (fk_E N y l) = fk_ev d qX8_livingInAll 19 L (.int (y c i) :: st) (fk_E N y l)) ∧
  (∀ (d : Nat) (L : List Value) (x y : Int32) (st : List Value) (h : fk_H), fk_ev d qX8_livingInAll 19 L (.int y :: .int x :: st) h = fk_ev d qX8_livingInAll 20 L (.int (x + y) :: st) h) ∧
  (∀ (d : Nat) (x : Nat) (st : List Value) (h : fk_H), fk_ev d qX8_livingInAll 20 [.ref x] st h = fk_ev d qX8_livingInAll 21 [.ref x] (.ref x :: st) h) ∧
  (∀ (d : Nat) (L st : List Value) (N : Nat) (y : Nat → Nat → Int32) (l : Nat → Nat → Int64) (c : Nat), fk_at c 8 → fk_ev d qX8_livingInAll 21 L (.ref c :: st) (fk_E N y l) = fk_ev d qX8_livingInAll 24 L (.ref (fk_cr c 1) :: st) (fk_E N y l)) ∧
  (∀ (d : Nat) (L st : List Value) (h : fk_H), fk_ev d qX8_livingInAll 24 L st h = fk_ev d qX8_livingInAll 25 L (.int (nI 3) :: st) h) ∧
  (∀ (d : Nat) (L st : List Value) (N : Nat) (y : Nat → Nat → Int32) (l : Nat → Nat → Int64) (c i : Nat), fk_at c 20 → i < (fk_shp c).2 → (fk_shp c).2 < 2 ^ 31 → fk_ev d qX8_livingInAll 25 L (.int (nI i) :: .ref c :: st) (fk_E N y l) = fk_ev d qX8_livingInAll 26 L (.int (y c i) :: st) (fk_E N y l)) ∧
  (∀ (d : Nat) (L : List Value) (x y : Int32) (st : List Value) (h : fk_H), fk_ev d qX8_livingInAll 26 L (.int y :: .int x :: st) h = fk_ev d qX8_livingInAll 27 L (.int (x + y) :: st) h) ∧
  (∀ (d : Nat) (L : List Value) (x : Int32) (h : fk_H), fk_ev d qX8_livingInAll 27 L [.int x] h = some (some (.int x), h)) := ⟨fun d  x st h => fk_w_aloadn 0 [.ref x] dX8_livingInAll_0 rfl,
  fun d L st N y l c hc => fk_g_getC rfl lf_8_17 (by decide) rfl dX8_livingInAll_1 hc,
  fun d L st h => fk_w_iconst dX8_livingInAll_4 (by decide),
  fun d L st N y l c i hc hi hl => fk_h_iald dX8_livingInAll_5 hc hi hl,
  fun d  x st h => fk_w_aloadn 0 [.ref x] dX8_livingInAll_6 rfl,
  fun d L st N y l c hc => fk_g_getC rfl lf_8_17 (by decide) rfl dX8_livingInAll_7 hc,
  fun d L st h => fk_w_iconst dX8_livingInAll_10 (by decide),
  fun d L st N y l c i hc hi hl => fk_h_iald dX8_livingInAll_11 hc hi hl,
  fun d L x y st h => fk_r_iadd dX8_livingInAll_12,
  fun d  x st h => fk_w_aloadn 0 [.ref x] dX8_livingInAll_13 rfl,
  fun d L st N y l c hc => fk_g_getC rfl lf_8_17 (by decide) rfl dX8_livingInAll_14 hc,
  fun d L st h => fk_w_iconst dX8_livingInAll_17 (by decide),
  fun d L st N y l c i hc hi hl => fk_h_iald dX8_livingInAll_18 hc hi hl,
  fun d L x y st h => fk_r_iadd dX8_livingInAll_19,
  fun d  x st h => fk_w_aloadn 0 [.ref x] dX8_livingInAll_20 rfl,
  fun d L st N y l c hc => fk_g_getC rfl lf_8_17 (by decide) rfl dX8_livingInAll_21 hc,
  fun d L st h => fk_w_iconst dX8_livingInAll_24 (by decide),
  fun d L st N y l c i hc hi hl => fk_h_iald dX8_livingInAll_25 hc hi hl,
  fun d L x y st h => fk_r_iadd dX8_livingInAll_26,
  fun d L x h => fk_r_ret dX8_livingInAll_27 (Or.inl rfl)⟩
theorem dX8_welcome_0 : decode cX8_welcome 0 = .ok (.iload_n 1, 1) := by decide +kernel
theorem dX8_welcome_1 : decode cX8_welcome 1 = .ok (.iconst 4, 1) := by decide +kernel
theorem dX8_welcome_2 : decode cX8_welcome 2 = .ok (.invokestatic 56, 3) := by decide +kernel
theorem dX8_welcome_5 : decode cX8_welcome 5 = .ok (.ifCond .eq 12, 3) := by decide +kernel
theorem dX8_welcome_8 : decode cX8_welcome 8 = .ok (.aload_n 0, 1) := by decide +kernel
theorem dX8_welcome_9 : decode cX8_welcome 9 = .ok (.getfield 21, 3) := by decide +kernel
theorem dX8_welcome_12 : decode cX8_welcome 12 = .ok (.bipush 64, 2) := by decide +kernel
theorem dX8_welcome_14 : decode cX8_welcome 14 = .ok (.if_icmp .lt 5, 3) := by decide +kernel
theorem dX8_welcome_17 : decode cX8_welcome 17 = .ok (.iconst (-1), 1) := by decide +kernel
theorem dX8_welcome_18 : decode cX8_welcome 18 = .ok (.ireturn, 1) := by decide +kernel
theorem dX8_welcome_19 : decode cX8_welcome 19 = .ok (.aload_n 0, 1) := by decide +kernel
theorem dX8_welcome_20 : decode cX8_welcome 20 = .ok (.getfield 21, 3) := by decide +kernel
theorem dX8_welcome_23 : decode cX8_welcome 23 = .ok (.istore_n 3, 1) := by decide +kernel
theorem dX8_welcome_24 : decode cX8_welcome 24 = .ok (.aload_n 0, 1) := by decide +kernel
theorem dX8_welcome_25 : decode cX8_welcome 25 = .ok (.getfield 11, 3) := by decide +kernel
theorem dX8_welcome_28 : decode cX8_welcome 28 = .ok (.iload_n 3, 1) := by decide +kernel
theorem dX8_welcome_29 : decode cX8_welcome 29 = .ok (.aaload, 1) := by decide +kernel
theorem dX8_welcome_30 : decode cX8_welcome 30 = .ok (.iload_n 1, 1) := by decide +kernel
theorem dX8_welcome_31 : decode cX8_welcome 31 = .ok (.iload_n 2, 1) := by decide +kernel
theorem dX8_welcome_32 : decode cX8_welcome 32 = .ok (.aload_n 0, 1) := by decide +kernel
theorem dX8_welcome_33 : decode cX8_welcome 33 = .ok (.getfield 25, 3) := by decide +kernel
theorem dX8_welcome_36 : decode cX8_welcome 36 = .ok (.invokevirtual 67, 3) := by decide +kernel
theorem dX8_welcome_39 : decode cX8_welcome 39 = .ok (.aload_n 0, 1) := by decide +kernel
theorem dX8_welcome_40 : decode cX8_welcome 40 = .ok (.dup, 1) := by decide +kernel
theorem dX8_welcome_41 : decode cX8_welcome 41 = .ok (.getfield 21, 3) := by decide +kernel
theorem dX8_welcome_44 : decode cX8_welcome 44 = .ok (.iconst 1, 1) := by decide +kernel
theorem dX8_welcome_45 : decode cX8_welcome 45 = .ok (.iadd, 1) := by decide +kernel
theorem dX8_welcome_46 : decode cX8_welcome 46 = .ok (.putfield 21, 3) := by decide +kernel
theorem dX8_welcome_49 : decode cX8_welcome 49 = .ok (.aload_n 0, 1) := by decide +kernel
theorem dX8_welcome_50 : decode cX8_welcome 50 = .ok (.getfield 17, 3) := by decide +kernel
theorem dX8_welcome_53 : decode cX8_welcome 53 = .ok (.iload_n 1, 1) := by decide +kernel
theorem dX8_welcome_54 : decode cX8_welcome 54 = .ok (.dup2, 1) := by decide +kernel
theorem dX8_welcome_55 : decode cX8_welcome 55 = .ok (.iaload, 1) := by decide +kernel
theorem dX8_welcome_56 : decode cX8_welcome 56 = .ok (.iconst 1, 1) := by decide +kernel
theorem dX8_welcome_57 : decode cX8_welcome 57 = .ok (.iadd, 1) := by decide +kernel
theorem dX8_welcome_58 : decode cX8_welcome 58 = .ok (.iastore, 1) := by decide +kernel
theorem dX8_welcome_59 : decode cX8_welcome 59 = .ok (.iload_n 3, 1) := by decide +kernel
theorem dX8_welcome_60 : decode cX8_welcome 60 = .ok (.ireturn, 1) := by decide +kernel
theorem rX8_welcome : (∀ (d : Nat) (a0 a2 a3 : Value) (x : Int32) (st : List Value) (h : fk_H), fk_ev d qX8_welcome 0 [a0, .int x, a2, a3] st h = fk_ev d qX8_welcome 1 [a0, .int x, a2, a3] (.int x :: st) h) ∧
  (∀ (d : Nat) (L st : List Value) (h : fk_H), fk_ev d qX8_welcome 1 L st h = fk_ev d qX8_welcome 2 L (.int (nI 4) :: st) h) ∧
  (∀ (d : Nat) (L : List Value) (x0 : Int32) (x1 : Int32)  (h : fk_H), fk_ev (d + 1) qX8_welcome 2 L (.int x1 :: .int x0 :: []) h = (fk_ev d qX11_within 0 [.int x0, .int x1] [] h).bind fun o => fk_ev (d + 1) qX8_welcome 5 L (o.1.toList ++ []) o.2) ∧
  (∀ (d : Nat) (L : List Value) (x : Int32) (st : List Value) (h : fk_H), fk_ev d qX8_welcome 5 L (.int x :: st) h = if x = nI 0 then fk_ev d qX8_welcome 17 L st h else fk_ev d qX8_welcome 8 L st h) ∧
  (∀ (d : Nat) (a1 a2 a3 : Value) (x : Nat) (st : List Value) (h : fk_H), fk_ev d qX8_welcome 8 [.ref x, a1, a2, a3] st h = fk_ev d qX8_welcome 9 [.ref x, a1, a2, a3] (.ref x :: st) h) ∧
  (∀ (d : Nat) (L st : List Value) (N : Nat) (y : Nat → Nat → Int32) (l : Nat → Nat → Int64) (c : Nat), fk_at c 8 → fk_ev d qX8_welcome 9 L (.ref c :: st) (fk_E N y l) = fk_ev d qX8_welcome 12 L (.int (y c 2) :: st) (fk_E N y l)) ∧
  (∀ (d : Nat) (L st : List Value) (h : fk_H), fk_ev d qX8_welcome 12 L st h = fk_ev d qX8_welcome 14 L (.int (nI 64) :: st) h) ∧
  (∀ (d : Nat) (L : List Value) (x y : Int32) (st : List Value) (h : fk_H), fk_ev d qX8_welcome 14 L (.int y :: .int x :: st) h = if x < y then fk_ev d qX8_welcome 19 L st h else fk_ev d qX8_welcome 17 L st h) ∧
  (∀ (d : Nat) (L st : List Value) (h : fk_H), fk_ev d qX8_welcome 17 L st h = fk_ev d qX8_welcome 18 L (.int ((-1 : Int32)) :: st) h) ∧
  (∀ (d : Nat) (L : List Value) (x : Int32) (h : fk_H), fk_ev d qX8_welcome 18 L [.int x] h = some (some (.int x), h)) ∧
  (∀ (d : Nat) (a1 a2 a3 : Value) (x : Nat) (st : List Value) (h : fk_H), fk_ev d qX8_welcome 19 [.ref x, a1, a2, a3] st h = fk_ev d qX8_welcome 20 [.ref x, a1, a2, a3] (.ref x :: st) h) ∧
  (∀ (d : Nat) (L st : List Value) (N : Nat) (y : Nat → Nat → Int32) (l : Nat → Nat → Int64) (c : Nat), fk_at c 8 → fk_ev d qX8_welcome 20 L (.ref c :: st) (fk_E N y l) = fk_ev d qX8_welcome 23 L (.int (y c 2) :: st) (fk_E N y l)) ∧
  (∀ (d : Nat) (a0 a1 a2 a3 : Value) (x : Int32) (st : List Value) (h : fk_H), fk_ev d qX8_welcome 23 [a0, a1, a2, a3] (.int x :: st) h = fk_ev d qX8_welcome 24 [a0, a1, a2, .int x] st h) ∧
  (∀ (d : Nat) (a1 a2 a3 : Value) (x : Nat) (st : List Value) (h : fk_H), fk_ev d qX8_welcome 24 [.ref x, a1, a2, a3] st h = fk_ev d qX8_welcome 25 [.ref x, a1, a2, a3] (.ref x :: st) h) ∧
  (∀ (d : Nat) (L st : List Value) (N : Nat) (y : Nat → Nat → Int32) (l : Nat → Nat → Int64) (c : Nat), fk_at c 8 → fk_ev d qX8_welcome 25 L (.ref c :: st) (fk_E N y l) = fk_ev d qX8_welcome 28 L (.ref (fk_cr c 0) :: st) (fk_E N y l)) ∧
  (∀ (d : Nat) (a0 a1 a2 : Value) (x : Int32) (st : List Value) (h : fk_H), fk_ev d qX8_welcome 28 [a0, a1, a2, .int x] st h = fk_ev d qX8_welcome 29 [a0, a1, a2, .int x] (.int x :: st) h) ∧
  (∀ (d : Nat) (L st : List Value) (N : Nat) (y : Nat → Nat → Int32) (l : Nat → Nat → Int64) (c i : Nat), fk_at c 24 → i < (fk_shp c).2 → (fk_shp c).2 < 2 ^ 31 → fk_ev d qX8_welcome 29 L (.int (nI i) :: .ref c :: st) (fk_E N y l) = fk_ev d qX8_welcome 30 L (.ref (c + 2 + i) :: st) (fk_E N y l)) ∧
  (∀ (d : Nat) (a0 a2 a3 : Value) (x : Int32) (st : List Value) (h : fk_H), fk_ev d qX8_welcome 30 [a0, .int x, a2, a3] st h = fk_ev d qX8_welcome 31 [a0, .int x, a2, a3] (.int x :: st) h) ∧
  (∀ (d : Nat) (a0 a1 a3 : Value) (x : Int32) (st : List Value) (h : fk_H), fk_ev d qX8_welcome 31 [a0, a1, .int x, a3] st h = fk_ev d qX8_welcome 32 [a0, a1, .int x, a3] (.int x :: st) h) ∧
  (∀ (d : Nat) (a1 a2 a3 : Value) (x : Nat) (st : List Value) (h : fk_H), fk_ev d qX8_welcome 32 [.ref x, a1, a2, a3] st h = fk_ev d qX8_welcome 33 [.ref x, a1, a2, a3] (.ref x :: st) h) ∧
  (∀ (d : Nat) (L st : List Value) (N : Nat) (y : Nat → Nat → Int32) (l : Nat → Nat → Int64) (c : Nat), fk_at c 8 → fk_ev d qX8_welcome 33 L (.ref c :: st) (fk_E N y l) = fk_ev d qX8_welcome 36 L (.int (y c 3) :: st) (fk_E N y l)) ∧
  (∀ (d : Nat) (L : List Value) (x0 : Int32) (x1 : Int32) (x2 : Int32)  (N : Nat) (y : Nat → Nat → Int32) (l : Nat → Nat → Int64) (c : Nat), fk_at c 0 → fk_ev (d + 1) qX8_welcome 36 L (.int x2 :: .int x1 :: .int x0 :: .ref c :: []) (fk_E N y l) = (fk_ev d qX0_beNew 0 [.ref c, .int x0, .int x1, .int x2] [] (fk_E N y l)).bind fun o => fk_ev (d + 1) qX8_welcome 39 L (o.1.toList ++ []) o.2) ∧
  (∀ (d : Nat) (a1 a2 a3 : Value) (x : Nat) (st : List Value) (h : fk_H), fk_ev d qX8_welcome 39 [.ref x, a1, a2, a3] st h = fk_ev d qX8_welcome 40 [.ref x, a1, a2, a3] (.ref x :: st) h) ∧
  (∀ (d : Nat) (L : List Value) (x : Nat) (st : List Value) (h : fk_H), fk_ev d qX8_welcome 40 L (.ref x :: st) h = fk_ev d qX8_welcome 41 L (.ref x :: .ref x :: st) h) ∧
  (∀ (d : Nat) (L st : List Value) (N : Nat) (y : Nat → Nat → Int32) (l : Nat → Nat → Int64) (c : Nat), fk_at c 8 → fk_ev d qX8_welcome 41 L (.ref c :: st) (fk_E N y l) = fk_ev d qX8_welcome 44 L (.int (y c 2) :: st) (fk_E N y l)) ∧
  (∀ (d : Nat) (L st : List Value) (h : fk_H), fk_ev d qX8_welcome 44 L st h = fk_ev d qX8_welcome 45 L (.int (nI 1) :: st) h) ∧
  (∀ (d : Nat) (L : List Value) (x y : Int32) (st : List Value) (h : fk_H), fk_ev d qX8_welcome 45 L (.int y :: .int x :: st) h = fk_ev d qX8_welcome 46 L (.int (x + y) :: st) h) ∧
  (∀ (d : Nat) (L st : List Value) (N : Nat) (y : Nat → Nat → Int32) (l : Nat → Nat → Int64) (c : Nat) (v : Int32), fk_at c 8 → fk_ev d qX8_welcome 46 L (.int v :: .ref c :: st) (fk_E N y l) = fk_ev d qX8_welcome 49 L st (fk_E N (fk_u y c 2 v) l)) ∧
  (∀ (d : Nat) (a1 a2 a3 : Value) (x : Nat) (st : List Value) (h : fk_H), fk_ev d qX8_welcome 49 [.ref x, a1, a2, a3] st h = fk_ev d qX8_welcome 50 [.ref x, a1, a2, a3] (.ref x :: st) h) ∧
  (∀ (d : Nat) (L st : List Value) (N : Nat) (y : Nat → Nat → Int32) (l : Nat → Nat → Int64) (c : Nat), fk_at c 8 → fk_ev d qX8_welcome 50 L (.ref c :: st) (fk_E N y l) = fk_ev d qX8_welcome 53 L (.ref (fk_cr c 1) :: st) (fk_E N y l)) ∧
  (∀ (d : Nat) (a0 a2 a3 : Value) (x : Int32) (st : List Value) (h : fk_H), fk_ev d qX8_welcome 53 [a0, .int x, a2, a3] st h = fk_ev d qX8_welcome 54 [a0, .int x, a2, a3] (.int x :: st) h) ∧
  (∀ (d : Nat) (L : List Value) (x : Int32) (c : Nat) (st : List Value) (h : fk_H), fk_ev d qX8_welcome 54 L (.int x :: .ref c :: st) h = fk_ev d qX8_welcome 55 L (.int x :: .ref c :: .int x :: .ref c :: st) h) ∧
  (∀ (d : Nat) (L st : List Value) (N : Nat) (y : Nat → Nat → Int32) (l : Nat → Nat → Int64) (c i : Nat), fk_at c 20 → i < (fk_shp c).2 → (fk_shp c).2 < 2 ^ 31 → fk_ev d qX8_welcome 55 L (.int (nI i) :: .ref c :: st) (fk_E N y l) = fk_ev d qX8_welcome 56 L (.int (y c i) :: st) (fk_E N y l)) ∧
  (∀ (d : Nat) (L st : List Value) (h : fk_H), fk_ev d qX8_welcome 56 L st h = fk_ev d qX8_welcome 57 L (.int (nI 1) :: st) h) ∧
  (∀ (d : Nat) (L : List Value) (x y : Int32) (st : List Value) (h : fk_H), fk_ev d qX8_welcome 57 L (.int y :: .int x :: st) h = fk_ev d qX8_welcome 58 L (.int (x + y) :: st) h) ∧
  (∀ (d : Nat) (L st : List Value) (N : Nat) (y : Nat → Nat → Int32) (l : Nat → Nat → Int64) (c i : Nat) (v : Int32), fk_at c 20 → i < (fk_shp c).2 → (fk_shp c).2 < 2 ^ 31 → fk_ev d qX8_welcome 58 L (.int v :: .int (nI i) :: .ref c :: st) (fk_E N y l) = fk_ev d qX8_welcome 59 L st (fk_E N (fk_u y c i v) l)) ∧
  (∀ (d : Nat) (a0 a1 a2 : Value) (x : Int32) (st : List Value) (h : fk_H), fk_ev d qX8_welcome 59 [a0, a1, a2, .int x] st h = fk_ev d qX8_welcome 60 [a0, a1, a2, .int x] (.int x :: st) h) ∧
  (∀ (d : Nat) (L : List Value) (x : Int32) (h : fk_H), fk_ev d qX8_welcome 60 L [.int x] h = some (some (.int x), h)) := ⟨fun d a0 a2 a3 x st h => fk_w_iloadn 1 [a0, .int x, a2, a3] dX8_welcome_0 rfl,
  fun d L st h => fk_w_iconst dX8_welcome_1 (by decide),
  fun d L x0 x1 h => fk_g_calls [.int x0, .int x1] [] rfl lm_8_56 dX8_welcome_2 rfl ⟨rfl, by decide⟩ (by simp),
  fun d L x st h => fk_r_if_eq dX8_welcome_5 (by decide),
  fun d a1 a2 a3 x st h => fk_w_aloadn 0 [.ref x, a1, a2, a3] dX8_welcome_8 rfl,
  fun d L st N y l c hc => fk_g_getI rfl lf_8_21 (by decide) dX8_welcome_9 hc,
  fun d L st h => fk_w_bipush dX8_welcome_12 (by decide),
  fun d L x y st h => fk_r_icmp_lt dX8_welcome_14 (by decide),
  fun d L st h => fk_w_iconst dX8_welcome_17 (by decide),
  fun d L x h => fk_r_ret dX8_welcome_18 (Or.inl rfl),
  fun d a1 a2 a3 x st h => fk_w_aloadn 0 [.ref x, a1, a2, a3] dX8_welcome_19 rfl,
  fun d L st N y l c hc => fk_g_getI rfl lf_8_21 (by decide) dX8_welcome_20 hc,
  fun d a0 a1 a2 a3 x st h => fk_w_istoren 3 4 [] [a0, a1, a2, a3] [a0, a1, a2, .int x] dX8_welcome_23 rfl rfl (by decide) rfl,
  fun d a1 a2 a3 x st h => fk_w_aloadn 0 [.ref x, a1, a2, a3] dX8_welcome_24 rfl,
  fun d L st N y l c hc => fk_g_getC rfl lf_8_11 (by decide) rfl dX8_welcome_25 hc,
  fun d a0 a1 a2 x st h => fk_w_iloadn 3 [a0, a1, a2, .int x] dX8_welcome_28 rfl,
  fun d L st N y l c i hc hi hl => fk_h_aald dX8_welcome_29 hc hi hl,
  fun d a0 a2 a3 x st h => fk_w_iloadn 1 [a0, .int x, a2, a3] dX8_welcome_30 rfl,
  fun d a0 a1 a3 x st h => fk_w_iloadn 2 [a0, a1, .int x, a3] dX8_welcome_31 rfl,
  fun d a1 a2 a3 x st h => fk_w_aloadn 0 [.ref x, a1, a2, a3] dX8_welcome_32 rfl,
  fun d L st N y l c hc => fk_g_getI rfl lf_8_25 (by decide) dX8_welcome_33 hc,
  fun d L x0 x1 x2 N y l c hc => fk_g_call [.int x0, .int x1, .int x2] [] rfl lm_8_67 dX8_welcome_36 rfl ⟨rfl, by decide⟩ (by simp) hc,
  fun d a1 a2 a3 x st h => fk_w_aloadn 0 [.ref x, a1, a2, a3] dX8_welcome_39 rfl,
  fun d L x st h => fk_r_dup_ref dX8_welcome_40,
  fun d L st N y l c hc => fk_g_getI rfl lf_8_21 (by decide) dX8_welcome_41 hc,
  fun d L st h => fk_w_iconst dX8_welcome_44 (by decide),
  fun d L x y st h => fk_r_iadd dX8_welcome_45,
  fun d L st N y l c v hc => fk_g_putI rfl lf_8_21 (by decide) dX8_welcome_46 rfl hc,
  fun d a1 a2 a3 x st h => fk_w_aloadn 0 [.ref x, a1, a2, a3] dX8_welcome_49 rfl,
  fun d L st N y l c hc => fk_g_getC rfl lf_8_17 (by decide) rfl dX8_welcome_50 hc,
  fun d a0 a2 a3 x st h => fk_w_iloadn 1 [a0, .int x, a2, a3] dX8_welcome_53 rfl,
  fun d L x c st h => fk_r_dup2 dX8_welcome_54,
  fun d L st N y l c i hc hi hl => fk_h_iald dX8_welcome_55 hc hi hl,
  fun d L st h => fk_w_iconst dX8_welcome_56 (by decide),
  fun d L x y st h => fk_r_iadd dX8_welcome_57,
  fun d L st N y l c i v hc hi hl => fk_h_iast dX8_welcome_58 hc hi hl,
  fun d a0 a1 a2 x st h => fk_w_iloadn 3 [a0, a1, a2, .int x] dX8_welcome_59 rfl,
  fun d L x h => fk_r_ret dX8_welcome_60 (Or.inl rfl)⟩
theorem dX8_part_0 : decode cX8_part 0 = .ok (.aload_n 0, 1) := by decide +kernel
theorem dX8_part_1 : decode cX8_part 1 = .ok (.getfield 21, 3) := by decide +kernel
theorem dX8_part_4 : decode cX8_part 4 = .ok (.bipush 64, 2) := by decide +kernel
theorem dX8_part_6 : decode cX8_part 6 = .ok (.if_icmp .lt 4, 3) := by decide +kernel
theorem dX8_part_9 : decode cX8_part 9 = .ok (.return_, 1) := by decide +kernel
theorem dX8_part_10 : decode cX8_part 10 = .ok (.aload_n 0, 1) := by decide +kernel
theorem dX8_part_11 : decode cX8_part 11 = .ok (.getfield 11, 3) := by decide +kernel
theorem dX8_part_14 : decode cX8_part 14 = .ok (.aload_n 0, 1) := by decide +kernel
theorem dX8_part_15 : decode cX8_part 15 = .ok (.getfield 21, 3) := by decide +kernel
theorem dX8_part_18 : decode cX8_part 18 = .ok (.aaload, 1) := by decide +kernel
theorem dX8_part_19 : decode cX8_part 19 = .ok (.astore 4, 2) := by decide +kernel
theorem dX8_part_21 : decode cX8_part 21 = .ok (.aload 4, 2) := by decide +kernel
theorem dX8_part_23 : decode cX8_part 23 = .ok (.aload_n 1, 1) := by decide +kernel
theorem dX8_part_24 : decode cX8_part 24 = .ok (.invokevirtual 46, 3) := by decide +kernel
theorem dX8_part_27 : decode cX8_part 27 = .ok (.aload 4, 2) := by decide +kernel
theorem dX8_part_29 : decode cX8_part 29 = .ok (.aload_n 1, 1) := by decide +kernel
theorem dX8_part_30 : decode cX8_part 30 = .ok (.getfield 71, 3) := by decide +kernel
theorem dX8_part_33 : decode cX8_part 33 = .ok (.putfield 74, 3) := by decide +kernel
theorem dX8_part_36 : decode cX8_part 36 = .ok (.aload 4, 2) := by decide +kernel
theorem dX8_part_38 : decode cX8_part 38 = .ok (.aload_n 0, 1) := by decide +kernel
theorem dX8_part_39 : decode cX8_part 39 = .ok (.getfield 25, 3) := by decide +kernel
theorem dX8_part_42 : decode cX8_part 42 = .ok (.putfield 77, 3) := by decide +kernel
theorem dX8_part_45 : decode cX8_part 45 = .ok (.aload 4, 2) := by decide +kernel
theorem dX8_part_47 : decode cX8_part 47 = .ok (.aload_n 1, 1) := by decide +kernel
theorem dX8_part_48 : decode cX8_part 48 = .ok (.getfield 80, 3) := by decide +kernel
theorem dX8_part_51 : decode cX8_part 51 = .ok (.iconst 2, 1) := by decide +kernel
theorem dX8_part_52 : decode cX8_part 52 = .ok (.idiv, 1) := by decide +kernel
theorem dX8_part_53 : decode cX8_part 53 = .ok (.putfield 80, 3) := by decide +kernel
theorem dX8_part_56 : decode cX8_part 56 = .ok (.aload 4, 2) := by decide +kernel
theorem dX8_part_58 : decode cX8_part 58 = .ok (.iconst 0, 1) := by decide +kernel
theorem dX8_part_59 : decode cX8_part 59 = .ok (.putfield 83, 3) := by decide +kernel
theorem dX8_part_62 : decode cX8_part 62 = .ok (.aload 4, 2) := by decide +kernel
theorem dX8_part_64 : decode cX8_part 64 = .ok (.iload_n 2, 1) := by decide +kernel
theorem dX8_part_65 : decode cX8_part 65 = .ok (.iload_n 3, 1) := by decide +kernel
theorem dX8_part_66 : decode cX8_part 66 = .ok (.invokevirtual 86, 3) := by decide +kernel
theorem dX8_part_69 : decode cX8_part 69 = .ok (.aload_n 1, 1) := by decide +kernel
theorem dX8_part_70 : decode cX8_part 70 = .ok (.dup, 1) := by decide +kernel
theorem dX8_part_71 : decode cX8_part 71 = .ok (.getfield 80, 3) := by decide +kernel
theorem dX8_part_74 : decode cX8_part 74 = .ok (.aload 4, 2) := by decide +kernel
theorem dX8_part_76 : decode cX8_part 76 = .ok (.getfield 80, 3) := by decide +kernel
theorem dX8_part_79 : decode cX8_part 79 = .ok (.isub, 1) := by decide +kernel
theorem dX8_part_80 : decode cX8_part 80 = .ok (.putfield 80, 3) := by decide +kernel
theorem dX8_part_83 : decode cX8_part 83 = .ok (.aload_n 0, 1) := by decide +kernel
theorem dX8_part_84 : decode cX8_part 84 = .ok (.dup, 1) := by decide +kernel
theorem dX8_part_85 : decode cX8_part 85 = .ok (.getfield 21, 3) := by decide +kernel
theorem dX8_part_88 : decode cX8_part 88 = .ok (.iconst 1, 1) := by decide +kernel
theorem dX8_part_89 : decode cX8_part 89 = .ok (.iadd, 1) := by decide +kernel
theorem dX8_part_90 : decode cX8_part 90 = .ok (.putfield 21, 3) := by decide +kernel
theorem dX8_part_93 : decode cX8_part 93 = .ok (.aload_n 0, 1) := by decide +kernel
theorem dX8_part_94 : decode cX8_part 94 = .ok (.getfield 17, 3) := by decide +kernel
theorem dX8_part_97 : decode cX8_part 97 = .ok (.aload_n 1, 1) := by decide +kernel
theorem dX8_part_98 : decode cX8_part 98 = .ok (.getfield 90, 3) := by decide +kernel
theorem dX8_part_101 : decode cX8_part 101 = .ok (.dup2, 1) := by decide +kernel
theorem dX8_part_102 : decode cX8_part 102 = .ok (.iaload, 1) := by decide +kernel
theorem dX8_part_103 : decode cX8_part 103 = .ok (.iconst 1, 1) := by decide +kernel
theorem dX8_part_104 : decode cX8_part 104 = .ok (.iadd, 1) := by decide +kernel
theorem dX8_part_105 : decode cX8_part 105 = .ok (.iastore, 1) := by decide +kernel
theorem dX8_part_106 : decode cX8_part 106 = .ok (.aload_n 0, 1) := by decide +kernel
theorem dX8_part_107 : decode cX8_part 107 = .ok (.dup, 1) := by decide +kernel
theorem dX8_part_108 : decode cX8_part 108 = .ok (.getfield 31, 3) := by decide +kernel
theorem dX8_part_111 : decode cX8_part 111 = .ok (.iconst 1, 1) := by decide +kernel
theorem dX8_part_112 : decode cX8_part 112 = .ok (.iadd, 1) := by decide +kernel
theorem dX8_part_113 : decode cX8_part 113 = .ok (.putfield 31, 3) := by decide +kernel
theorem dX8_part_116 : decode cX8_part 116 = .ok (.return_, 1) := by decide +kernel
theorem rX8_part : (∀ (d : Nat) (a1 a2 a3 a4 : Value) (x : Nat) (st : List Value) (h : fk_H), fk_ev d qX8_part 0 [.ref x, a1, a2, a3, a4] st h = fk_ev d qX8_part 1 [.ref x, a1, a2, a3, a4] (.ref x :: st) h) ∧
  (∀ (d : Nat) (L st : List Value) (N : Nat) (y : Nat → Nat → Int32) (l : Nat → Nat → Int64) (c : Nat), fk_at c 8 → fk_ev d qX8_part 1 L (.ref c :: st) (fk_E N y l) = fk_ev d qX8_part 4 L (.int (y c 2) :: st) (fk_E N y l)) ∧
  (∀ (d : Nat) (L st : List Value) (h : fk_H), fk_ev d qX8_part 4 L st h = fk_ev d qX8_part 6 L (.int (nI 64) :: st) h) ∧
  (∀ (d : Nat) (L : List Value) (x y : Int32) (st : List Value) (h : fk_H), fk_ev d qX8_part 6 L (.int y :: .int x :: st) h = if x < y then fk_ev d qX8_part 10 L st h else fk_ev d qX8_part 9 L st h) ∧
  (∀ (d : Nat) (L : List Value) (h : fk_H), fk_ev d qX8_part 9 L [] h = some (none, h)) ∧
  (∀ (d : Nat) (a1 a2 a3 a4 : Value) (x : Nat) (st : List Value) (h : fk_H), fk_ev d qX8_part 10 [.ref x, a1, a2, a3, a4] st h = fk_ev d qX8_part 11 [.ref x, a1, a2, a3, a4] (.ref x :: st) h) ∧
  (∀ (d : Nat) (L st : List Value) (N : Nat) (y : Nat → Nat → Int32) (l : Nat → Nat → Int64) (c : Nat), fk_at c 8 → fk_ev d qX8_part 11 L (.ref c :: st) (fk_E N y l) = fk_ev d qX8_part 14 L (.ref (fk_cr c 0) :: st) (fk_E N y l)) ∧
  (∀ (d : Nat) (a1 a2 a3 a4 : Value) (x : Nat) (st : List Value) (h : fk_H), fk_ev d qX8_part 14 [.ref x, a1, a2, a3, a4] st h = fk_ev d qX8_part 15 [.ref x, a1, a2, a3, a4] (.ref x :: st) h) ∧
  (∀ (d : Nat) (L st : List Value) (N : Nat) (y : Nat → Nat → Int32) (l : Nat → Nat → Int64) (c : Nat), fk_at c 8 → fk_ev d qX8_part 15 L (.ref c :: st) (fk_E N y l) = fk_ev d qX8_part 18 L (.int (y c 2) :: st) (fk_E N y l)) ∧
  (∀ (d : Nat) (L st : List Value) (N : Nat) (y : Nat → Nat → Int32) (l : Nat → Nat → Int64) (c i : Nat), fk_at c 24 → i < (fk_shp c).2 → (fk_shp c).2 < 2 ^ 31 → fk_ev d qX8_part 18 L (.int (nI i) :: .ref c :: st) (fk_E N y l) = fk_ev d qX8_part 19 L (.ref (c + 2 + i) :: st) (fk_E N y l)) ∧
  (∀ (d : Nat) (a0 a1 a2 a3 a4 : Value) (x : Nat) (st : List Value) (h : fk_H), fk_ev d qX8_part 19 [a0, a1, a2, a3, a4] (.ref x :: st) h = fk_ev d qX8_part 21 [a0, a1, a2, a3, .ref x] st h) ∧
  (∀ (d : Nat) (a0 a1 a2 a3 : Value) (x : Nat) (st : List Value) (h : fk_H), fk_ev d qX8_part 21 [a0, a1, a2, a3, .ref x] st h = fk_ev d qX8_part 23 [a0, a1, a2, a3, .ref x] (.ref x :: st) h) ∧
  (∀ (d : Nat) (a0 a2 a3 a4 : Value) (x : Nat) (st : List Value) (h : fk_H), fk_ev d qX8_part 23 [a0, .ref x, a2, a3, a4] st h = fk_ev d qX8_part 24 [a0, .ref x, a2, a3, a4] (.ref x :: st) h) ∧
  (∀ (d : Nat) (L : List Value) (x0 : Nat)  (N : Nat) (y : Nat → Nat → Int32) (l : Nat → Nat → Int64) (c : Nat), fk_at c 0 → fk_ev (d + 1) qX8_part 24 L (.ref x0 :: .ref c :: []) (fk_E N y l) = (fk_ev d qX0_copyFrom 0 [.ref c, .ref x0] [] (fk_E N y l)).bind fun o => fk_ev (d + 1) qX8_part 27 L (o.1.toList ++ []) o.2) ∧
  (∀ (d : Nat) (a0 a1 a2 a3 : Value) (x : Nat) (st : List Value) (h : fk_H), fk_ev d qX8_part 27 [a0, a1, a2, a3, .ref x] st h = fk_ev d qX8_part 29 [a0, a1, a2, a3, .ref x] (.ref x :: st) h) ∧
  (∀ (d : Nat) (a0 a2 a3 a4 : Value) (x : Nat) (st : List Value) (h : fk_H), fk_ev d qX8_part 29 [a0, .ref x, a2, a3, a4] st h = fk_ev d qX8_part 30 [a0, .ref x, a2, a3, a4] (.ref x :: st) h) ∧
  (∀ (d : Nat) (L st : List Value) (N : Nat) (y : Nat → Nat → Int32) (l : Nat → Nat → Int64) (c : Nat), fk_at c 0 → fk_ev d qX8_part 30 L (.ref c :: st) (fk_E N y l) = fk_ev d qX8_part 33 L (.int (y c 0) :: st) (fk_E N y l)) ∧
  (∀ (d : Nat) (L st : List Value) (N : Nat) (y : Nat → Nat → Int32) (l : Nat → Nat → Int64) (c : Nat) (v : Int32), fk_at c 0 → fk_ev d qX8_part 33 L (.int v :: .ref c :: st) (fk_E N y l) = fk_ev d qX8_part 36 L st (fk_E N (fk_u y c 2 v) l)) ∧
  (∀ (d : Nat) (a0 a1 a2 a3 : Value) (x : Nat) (st : List Value) (h : fk_H), fk_ev d qX8_part 36 [a0, a1, a2, a3, .ref x] st h = fk_ev d qX8_part 38 [a0, a1, a2, a3, .ref x] (.ref x :: st) h) ∧
  (∀ (d : Nat) (a1 a2 a3 a4 : Value) (x : Nat) (st : List Value) (h : fk_H), fk_ev d qX8_part 38 [.ref x, a1, a2, a3, a4] st h = fk_ev d qX8_part 39 [.ref x, a1, a2, a3, a4] (.ref x :: st) h) ∧
  (∀ (d : Nat) (L st : List Value) (N : Nat) (y : Nat → Nat → Int32) (l : Nat → Nat → Int64) (c : Nat), fk_at c 8 → fk_ev d qX8_part 39 L (.ref c :: st) (fk_E N y l) = fk_ev d qX8_part 42 L (.int (y c 3) :: st) (fk_E N y l)) ∧
  (∀ (d : Nat) (L st : List Value) (N : Nat) (y : Nat → Nat → Int32) (l : Nat → Nat → Int64) (c : Nat) (v : Int32), fk_at c 0 → fk_ev d qX8_part 42 L (.int v :: .ref c :: st) (fk_E N y l) = fk_ev d qX8_part 45 L st (fk_E N (fk_u y c 3 v) l)) ∧
  (∀ (d : Nat) (a0 a1 a2 a3 : Value) (x : Nat) (st : List Value) (h : fk_H), fk_ev d qX8_part 45 [a0, a1, a2, a3, .ref x] st h = fk_ev d qX8_part 47 [a0, a1, a2, a3, .ref x] (.ref x :: st) h) ∧
  (∀ (d : Nat) (a0 a2 a3 a4 : Value) (x : Nat) (st : List Value) (h : fk_H), fk_ev d qX8_part 47 [a0, .ref x, a2, a3, a4] st h = fk_ev d qX8_part 48 [a0, .ref x, a2, a3, a4] (.ref x :: st) h) ∧
  (∀ (d : Nat) (L st : List Value) (N : Nat) (y : Nat → Nat → Int32) (l : Nat → Nat → Int64) (c : Nat), fk_at c 0 → fk_ev d qX8_part 48 L (.ref c :: st) (fk_E N y l) = fk_ev d qX8_part 51 L (.int (y c 5) :: st) (fk_E N y l)) ∧
  (∀ (d : Nat) (L st : List Value) (h : fk_H), fk_ev d qX8_part 51 L st h = fk_ev d qX8_part 52 L (.int (nI 2) :: st) h) ∧
  (∀ (d : Nat) (L : List Value) (x y : Int32) (st : List Value) (h : fk_H), fk_ev d qX8_part 52 L (.int y :: .int x :: st) h = if y = 0 then none else fk_ev d qX8_part 53 L (.int (x / y) :: st) h) ∧
  (∀ (d : Nat) (L st : List Value) (N : Nat) (y : Nat → Nat → Int32) (l : Nat → Nat → Int64) (c : Nat) (v : Int32), fk_at c 0 → fk_ev d qX8_part 53 L (.int v :: .ref c :: st) (fk_E N y l) = fk_ev d qX8_part 56 L st (fk_E N (fk_u y c 5 v) l)) ∧
  (∀ (d : Nat) (a0 a1 a2 a3 : Value) (x : Nat) (st : List Value) (h : fk_H), fk_ev d qX8_part 56 [a0, a1, a2, a3, .ref x] st h = fk_ev d qX8_part 58 [a0, a1, a2, a3, .ref x] (.ref x :: st) h) ∧
  (∀ (d : Nat) (L st : List Value) (h : fk_H), fk_ev d qX8_part 58 L st h = fk_ev d qX8_part 59 L (.int (nI 0) :: st) h) ∧
  (∀ (d : Nat) (L st : List Value) (N : Nat) (y : Nat → Nat → Int32) (l : Nat → Nat → Int64) (c : Nat), fk_at c 0 → fk_ev d qX8_part 59 L (.int (nI 0) :: .ref c :: st) (fk_E N y l) = fk_ev d qX8_part 62 L st (fk_E N (fk_u y c 14 (nI 0)) l)) ∧
  (∀ (d : Nat) (L st : List Value) (N : Nat) (y : Nat → Nat → Int32) (l : Nat → Nat → Int64) (c : Nat), fk_at c 0 → fk_ev d qX8_part 59 L (.int (nI 1) :: .ref c :: st) (fk_E N y l) = fk_ev d qX8_part 62 L st (fk_E N (fk_u y c 14 (nI 1)) l)) ∧
  (∀ (d : Nat) (L st : List Value) (N : Nat) (y : Nat → Nat → Int32) (l : Nat → Nat → Int64) (c : Nat) (v : Int32), (v = nI 0 ∨ v = nI 1) → fk_at c 0 → fk_ev d qX8_part 59 L (.int v :: .ref c :: st) (fk_E N y l) = fk_ev d qX8_part 62 L st (fk_E N (fk_u y c 14 v) l)) ∧
  (∀ (d : Nat) (a0 a1 a2 a3 : Value) (x : Nat) (st : List Value) (h : fk_H), fk_ev d qX8_part 62 [a0, a1, a2, a3, .ref x] st h = fk_ev d qX8_part 64 [a0, a1, a2, a3, .ref x] (.ref x :: st) h) ∧
  (∀ (d : Nat) (a0 a1 a3 a4 : Value) (x : Int32) (st : List Value) (h : fk_H), fk_ev d qX8_part 64 [a0, a1, .int x, a3, a4] st h = fk_ev d qX8_part 65 [a0, a1, .int x, a3, a4] (.int x :: st) h) ∧
  (∀ (d : Nat) (a0 a1 a2 a4 : Value) (x : Int32) (st : List Value) (h : fk_H), fk_ev d qX8_part 65 [a0, a1, a2, .int x, a4] st h = fk_ev d qX8_part 66 [a0, a1, a2, .int x, a4] (.int x :: st) h) ∧
  (∀ (d : Nat) (L : List Value) (x0 : Int32) (x1 : Int32)  (N : Nat) (y : Nat → Nat → Int32) (l : Nat → Nat → Int64) (c : Nat), fk_at c 0 → fk_ev (d + 1) qX8_part 66 L (.int x1 :: .int x0 :: .ref c :: []) (fk_E N y l) = (fk_ev d qX0_goOn 0 [.ref c, .int x0, .int x1] [] (fk_E N y l)).bind fun o => fk_ev (d + 1) qX8_part 69 L (o.1.toList ++ []) o.2) ∧
  (∀ (d : Nat) (a0 a2 a3 a4 : Value) (x : Nat) (st : List Value) (h : fk_H), fk_ev d qX8_part 69 [a0, .ref x, a2, a3, a4] st h = fk_ev d qX8_part 70 [a0, .ref x, a2, a3, a4] (.ref x :: st) h) ∧
  (∀ (d : Nat) (L : List Value) (x : Nat) (st : List Value) (h : fk_H), fk_ev d qX8_part 70 L (.ref x :: st) h = fk_ev d qX8_part 71 L (.ref x :: .ref x :: st) h) ∧
  (∀ (d : Nat) (L st : List Value) (N : Nat) (y : Nat → Nat → Int32) (l : Nat → Nat → Int64) (c : Nat), fk_at c 0 → fk_ev d qX8_part 71 L (.ref c :: st) (fk_E N y l) = fk_ev d qX8_part 74 L (.int (y c 5) :: st) (fk_E N y l)) ∧
  (∀ (d : Nat) (a0 a1 a2 a3 : Value) (x : Nat) (st : List Value) (h : fk_H), fk_ev d qX8_part 74 [a0, a1, a2, a3, .ref x] st h = fk_ev d qX8_part 76 [a0, a1, a2, a3, .ref x] (.ref x :: st) h) ∧
  (∀ (d : Nat) (L st : List Value) (N : Nat) (y : Nat → Nat → Int32) (l : Nat → Nat → Int64) (c : Nat), fk_at c 0 → fk_ev d qX8_part 76 L (.ref c :: st) (fk_E N y l) = fk_ev d qX8_part 79 L (.int (y c 5) :: st) (fk_E N y l)) ∧
  (∀ (d : Nat) (L : List Value) (x y : Int32) (st : List Value) (h : fk_H), fk_ev d qX8_part 79 L (.int y :: .int x :: st) h = fk_ev d qX8_part 80 L (.int (x - y) :: st) h) ∧
  (∀ (d : Nat) (L st : List Value) (N : Nat) (y : Nat → Nat → Int32) (l : Nat → Nat → Int64) (c : Nat) (v : Int32), fk_at c 0 → fk_ev d qX8_part 80 L (.int v :: .ref c :: st) (fk_E N y l) = fk_ev d qX8_part 83 L st (fk_E N (fk_u y c 5 v) l)) ∧
  (∀ (d : Nat) (a1 a2 a3 a4 : Value) (x : Nat) (st : List Value) (h : fk_H), fk_ev d qX8_part 83 [.ref x, a1, a2, a3, a4] st h = fk_ev d qX8_part 84 [.ref x, a1, a2, a3, a4] (.ref x :: st) h) ∧
  (∀ (d : Nat) (L : List Value) (x : Nat) (st : List Value) (h : fk_H), fk_ev d qX8_part 84 L (.ref x :: st) h = fk_ev d qX8_part 85 L (.ref x :: .ref x :: st) h) ∧
  (∀ (d : Nat) (L st : List Value) (N : Nat) (y : Nat → Nat → Int32) (l : Nat → Nat → Int64) (c : Nat), fk_at c 8 → fk_ev d qX8_part 85 L (.ref c :: st) (fk_E N y l) = fk_ev d qX8_part 88 L (.int (y c 2) :: st) (fk_E N y l)) ∧
  (∀ (d : Nat) (L st : List Value) (h : fk_H), fk_ev d qX8_part 88 L st h = fk_ev d qX8_part 89 L (.int (nI 1) :: st) h) ∧
  (∀ (d : Nat) (L : List Value) (x y : Int32) (st : List Value) (h : fk_H), fk_ev d qX8_part 89 L (.int y :: .int x :: st) h = fk_ev d qX8_part 90 L (.int (x + y) :: st) h) ∧
  (∀ (d : Nat) (L st : List Value) (N : Nat) (y : Nat → Nat → Int32) (l : Nat → Nat → Int64) (c : Nat) (v : Int32), fk_at c 8 → fk_ev d qX8_part 90 L (.int v :: .ref c :: st) (fk_E N y l) = fk_ev d qX8_part 93 L st (fk_E N (fk_u y c 2 v) l)) ∧
  (∀ (d : Nat) (a1 a2 a3 a4 : Value) (x : Nat) (st : List Value) (h : fk_H), fk_ev d qX8_part 93 [.ref x, a1, a2, a3, a4] st h = fk_ev d qX8_part 94 [.ref x, a1, a2, a3, a4] (.ref x :: st) h) ∧
  (∀ (d : Nat) (L st : List Value) (N : Nat) (y : Nat → Nat → Int32) (l : Nat → Nat → Int64) (c : Nat), fk_at c 8 → fk_ev d qX8_part 94 L (.ref c :: st) (fk_E N y l) = fk_ev d qX8_part 97 L (.ref (fk_cr c 1) :: st) (fk_E N y l)) ∧
  (∀ (d : Nat) (a0 a2 a3 a4 : Value) (x : Nat) (st : List Value) (h : fk_H), fk_ev d qX8_part 97 [a0, .ref x, a2, a3, a4] st h = fk_ev d qX8_part 98 [a0, .ref x, a2, a3, a4] (.ref x :: st) h) ∧
  (∀ (d : Nat) (L st : List Value) (N : Nat) (y : Nat → Nat → Int32) (l : Nat → Nat → Int64) (c : Nat), fk_at c 0 → fk_ev d qX8_part 98 L (.ref c :: st) (fk_E N y l) = fk_ev d qX8_part 101 L (.int (y c 1) :: st) (fk_E N y l)) ∧
  (∀ (d : Nat) (L : List Value) (x : Int32) (c : Nat) (st : List Value) (h : fk_H), fk_ev d qX8_part 101 L (.int x :: .ref c :: st) h = fk_ev d qX8_part 102 L (.int x :: .ref c :: .int x :: .ref c :: st) h) ∧
  (∀ (d : Nat) (L st : List Value) (N : Nat) (y : Nat → Nat → Int32) (l : Nat → Nat → Int64) (c i : Nat), fk_at c 20 → i < (fk_shp c).2 → (fk_shp c).2 < 2 ^ 31 → fk_ev d qX8_part 102 L (.int (nI i) :: .ref c :: st) (fk_E N y l) = fk_ev d qX8_part 103 L (.int (y c i) :: st) (fk_E N y l)) ∧
  (∀ (d : Nat) (L st : List Value) (h : fk_H), fk_ev d qX8_part 103 L st h = fk_ev d qX8_part 104 L (.int (nI 1) :: st) h) ∧
  (∀ (d : Nat) (L : List Value) (x y : Int32) (st : List Value) (h : fk_H), fk_ev d qX8_part 104 L (.int y :: .int x :: st) h = fk_ev d qX8_part 105 L (.int (x + y) :: st) h) ∧
  (∀ (d : Nat) (L st : List Value) (N : Nat) (y : Nat → Nat → Int32) (l : Nat → Nat → Int64) (c i : Nat) (v : Int32), fk_at c 20 → i < (fk_shp c).2 → (fk_shp c).2 < 2 ^ 31 → fk_ev d qX8_part 105 L (.int v :: .int (nI i) :: .ref c :: st) (fk_E N y l) = fk_ev d qX8_part 106 L st (fk_E N (fk_u y c i v) l)) ∧
  (∀ (d : Nat) (a1 a2 a3 a4 : Value) (x : Nat) (st : List Value) (h : fk_H), fk_ev d qX8_part 106 [.ref x, a1, a2, a3, a4] st h = fk_ev d qX8_part 107 [.ref x, a1, a2, a3, a4] (.ref x :: st) h) ∧
  (∀ (d : Nat) (L : List Value) (x : Nat) (st : List Value) (h : fk_H), fk_ev d qX8_part 107 L (.ref x :: st) h = fk_ev d qX8_part 108 L (.ref x :: .ref x :: st) h) ∧
  (∀ (d : Nat) (L st : List Value) (N : Nat) (y : Nat → Nat → Int32) (l : Nat → Nat → Int64) (c : Nat), fk_at c 8 → fk_ev d qX8_part 108 L (.ref c :: st) (fk_E N y l) = fk_ev d qX8_part 111 L (.int (y c 5) :: st) (fk_E N y l)) ∧
  (∀ (d : Nat) (L st : List Value) (h : fk_H), fk_ev d qX8_part 111 L st h = fk_ev d qX8_part 112 L (.int (nI 1) :: st) h) ∧
  (∀ (d : Nat) (L : List Value) (x y : Int32) (st : List Value) (h : fk_H), fk_ev d qX8_part 112 L (.int y :: .int x :: st) h = fk_ev d qX8_part 113 L (.int (x + y) :: st) h) ∧
  (∀ (d : Nat) (L st : List Value) (N : Nat) (y : Nat → Nat → Int32) (l : Nat → Nat → Int64) (c : Nat) (v : Int32), fk_at c 8 → fk_ev d qX8_part 113 L (.int v :: .ref c :: st) (fk_E N y l) = fk_ev d qX8_part 116 L st (fk_E N (fk_u y c 5 v) l)) ∧
  (∀ (d : Nat) (L : List Value) (h : fk_H), fk_ev d qX8_part 116 L [] h = some (none, h)) := ⟨fun d a1 a2 a3 a4 x st h => fk_w_aloadn 0 [.ref x, a1, a2, a3, a4] dX8_part_0 rfl,
  fun d L st N y l c hc => fk_g_getI rfl lf_8_21 (by decide) dX8_part_1 hc,
  fun d L st h => fk_w_bipush dX8_part_4 (by decide),
  fun d L x y st h => fk_r_icmp_lt dX8_part_6 (by decide),
  fun d L h => fk_r_vret dX8_part_9 rfl,
  fun d a1 a2 a3 a4 x st h => fk_w_aloadn 0 [.ref x, a1, a2, a3, a4] dX8_part_10 rfl,
  fun d L st N y l c hc => fk_g_getC rfl lf_8_11 (by decide) rfl dX8_part_11 hc,
  fun d a1 a2 a3 a4 x st h => fk_w_aloadn 0 [.ref x, a1, a2, a3, a4] dX8_part_14 rfl,
  fun d L st N y l c hc => fk_g_getI rfl lf_8_21 (by decide) dX8_part_15 hc,
  fun d L st N y l c i hc hi hl => fk_h_aald dX8_part_18 hc hi hl,
  fun d a0 a1 a2 a3 a4 x st h => fk_w_astore 4 5 [] [a0, a1, a2, a3, a4] [a0, a1, a2, a3, .ref x] dX8_part_19 rfl rfl (by decide) rfl,
  fun d a0 a1 a2 a3 x st h => fk_w_aload 4 [a0, a1, a2, a3, .ref x] dX8_part_21 rfl,
  fun d a0 a2 a3 a4 x st h => fk_w_aloadn 1 [a0, .ref x, a2, a3, a4] dX8_part_23 rfl,
  fun d L x0 N y l c hc => fk_g_call [.ref x0] [] rfl lm_8_46 dX8_part_24 rfl ⟨rfl, by decide⟩ (by simp) hc,
  fun d a0 a1 a2 a3 x st h => fk_w_aload 4 [a0, a1, a2, a3, .ref x] dX8_part_27 rfl,
  fun d a0 a2 a3 a4 x st h => fk_w_aloadn 1 [a0, .ref x, a2, a3, a4] dX8_part_29 rfl,
  fun d L st N y l c hc => fk_g_getI rfl lf_8_71 (by decide) dX8_part_30 hc,
  fun d L st N y l c v hc => fk_g_putI rfl lf_8_74 (by decide) dX8_part_33 rfl hc,
  fun d a0 a1 a2 a3 x st h => fk_w_aload 4 [a0, a1, a2, a3, .ref x] dX8_part_36 rfl,
  fun d a1 a2 a3 a4 x st h => fk_w_aloadn 0 [.ref x, a1, a2, a3, a4] dX8_part_38 rfl,
  fun d L st N y l c hc => fk_g_getI rfl lf_8_25 (by decide) dX8_part_39 hc,
  fun d L st N y l c v hc => fk_g_putI rfl lf_8_77 (by decide) dX8_part_42 rfl hc,
  fun d a0 a1 a2 a3 x st h => fk_w_aload 4 [a0, a1, a2, a3, .ref x] dX8_part_45 rfl,
  fun d a0 a2 a3 a4 x st h => fk_w_aloadn 1 [a0, .ref x, a2, a3, a4] dX8_part_47 rfl,
  fun d L st N y l c hc => fk_g_getI rfl lf_8_80 (by decide) dX8_part_48 hc,
  fun d L st h => fk_w_iconst dX8_part_51 (by decide),
  fun d L x y st h => fk_r_idiv dX8_part_52,
  fun d L st N y l c v hc => fk_g_putI rfl lf_8_80 (by decide) dX8_part_53 rfl hc,
  fun d a0 a1 a2 a3 x st h => fk_w_aload 4 [a0, a1, a2, a3, .ref x] dX8_part_56 rfl,
  fun d L st h => fk_w_iconst dX8_part_58 (by decide),
  fun d L st N y l c hc => fk_g_putI rfl lf_8_83 (by decide) dX8_part_59 rfl hc,
  fun d L st N y l c hc => fk_g_putI rfl lf_8_83 (by decide) dX8_part_59 rfl hc,
  fun d L st N y l c v hv hc => fk_g_putI rfl lf_8_83 (by decide) dX8_part_59 (by rcases hv with rfl | rfl <;> rfl) hc,
  fun d a0 a1 a2 a3 x st h => fk_w_aload 4 [a0, a1, a2, a3, .ref x] dX8_part_62 rfl,
  fun d a0 a1 a3 a4 x st h => fk_w_iloadn 2 [a0, a1, .int x, a3, a4] dX8_part_64 rfl,
  fun d a0 a1 a2 a4 x st h => fk_w_iloadn 3 [a0, a1, a2, .int x, a4] dX8_part_65 rfl,
  fun d L x0 x1 N y l c hc => fk_g_call [.int x0, .int x1] [] rfl lm_8_86 dX8_part_66 rfl ⟨rfl, by decide⟩ (by simp) hc,
  fun d a0 a2 a3 a4 x st h => fk_w_aloadn 1 [a0, .ref x, a2, a3, a4] dX8_part_69 rfl,
  fun d L x st h => fk_r_dup_ref dX8_part_70,
  fun d L st N y l c hc => fk_g_getI rfl lf_8_80 (by decide) dX8_part_71 hc,
  fun d a0 a1 a2 a3 x st h => fk_w_aload 4 [a0, a1, a2, a3, .ref x] dX8_part_74 rfl,
  fun d L st N y l c hc => fk_g_getI rfl lf_8_80 (by decide) dX8_part_76 hc,
  fun d L x y st h => fk_r_isub dX8_part_79,
  fun d L st N y l c v hc => fk_g_putI rfl lf_8_80 (by decide) dX8_part_80 rfl hc,
  fun d a1 a2 a3 a4 x st h => fk_w_aloadn 0 [.ref x, a1, a2, a3, a4] dX8_part_83 rfl,
  fun d L x st h => fk_r_dup_ref dX8_part_84,
  fun d L st N y l c hc => fk_g_getI rfl lf_8_21 (by decide) dX8_part_85 hc,
  fun d L st h => fk_w_iconst dX8_part_88 (by decide),
  fun d L x y st h => fk_r_iadd dX8_part_89,
  fun d L st N y l c v hc => fk_g_putI rfl lf_8_21 (by decide) dX8_part_90 rfl hc,
  fun d a1 a2 a3 a4 x st h => fk_w_aloadn 0 [.ref x, a1, a2, a3, a4] dX8_part_93 rfl,
  fun d L st N y l c hc => fk_g_getC rfl lf_8_17 (by decide) rfl dX8_part_94 hc,
  fun d a0 a2 a3 a4 x st h => fk_w_aloadn 1 [a0, .ref x, a2, a3, a4] dX8_part_97 rfl,
  fun d L st N y l c hc => fk_g_getI rfl lf_8_90 (by decide) dX8_part_98 hc,
  fun d L x c st h => fk_r_dup2 dX8_part_101,
  fun d L st N y l c i hc hi hl => fk_h_iald dX8_part_102 hc hi hl,
  fun d L st h => fk_w_iconst dX8_part_103 (by decide),
  fun d L x y st h => fk_r_iadd dX8_part_104,
  fun d L st N y l c i v hc hi hl => fk_h_iast dX8_part_105 hc hi hl,
  fun d a1 a2 a3 a4 x st h => fk_w_aloadn 0 [.ref x, a1, a2, a3, a4] dX8_part_106 rfl,
  fun d L x st h => fk_r_dup_ref dX8_part_107,
  fun d L st N y l c hc => fk_g_getI rfl lf_8_31 (by decide) dX8_part_108 hc,
  fun d L st h => fk_w_iconst dX8_part_111 (by decide),
  fun d L x y st h => fk_r_iadd dX8_part_112,
  fun d L st N y l c v hc => fk_g_putI rfl lf_8_31 (by decide) dX8_part_113 rfl hc,
  fun d L h => fk_r_vret dX8_part_116 rfl⟩
theorem dX8_merge_0 : decode cX8_merge 0 = .ok (.aload_n 1, 1) := by decide +kernel
theorem dX8_merge_1 : decode cX8_merge 1 = .ok (.aload_n 2, 1) := by decide +kernel
theorem dX8_merge_2 : decode cX8_merge 2 = .ok (.iload_n 3, 1) := by decide +kernel
theorem dX8_merge_3 : decode cX8_merge 3 = .ok (.invokevirtual 93, 3) := by decide +kernel
theorem dX8_merge_6 : decode cX8_merge 6 = .ok (.aload_n 0, 1) := by decide +kernel
theorem dX8_merge_7 : decode cX8_merge 7 = .ok (.getfield 17, 3) := by decide +kernel
theorem dX8_merge_10 : decode cX8_merge 10 = .ok (.aload_n 1, 1) := by decide +kernel
theorem dX8_merge_11 : decode cX8_merge 11 = .ok (.getfield 90, 3) := by decide +kernel
theorem dX8_merge_14 : decode cX8_merge 14 = .ok (.dup2, 1) := by decide +kernel
theorem dX8_merge_15 : decode cX8_merge 15 = .ok (.iaload, 1) := by decide +kernel
theorem dX8_merge_16 : decode cX8_merge 16 = .ok (.iconst 1, 1) := by decide +kernel
theorem dX8_merge_17 : decode cX8_merge 17 = .ok (.isub, 1) := by decide +kernel
theorem dX8_merge_18 : decode cX8_merge 18 = .ok (.iastore, 1) := by decide +kernel
theorem dX8_merge_19 : decode cX8_merge 19 = .ok (.aload_n 0, 1) := by decide +kernel
theorem dX8_merge_20 : decode cX8_merge 20 = .ok (.dup, 1) := by decide +kernel
theorem dX8_merge_21 : decode cX8_merge 21 = .ok (.getfield 34, 3) := by decide +kernel
theorem dX8_merge_24 : decode cX8_merge 24 = .ok (.iconst 1, 1) := by decide +kernel
theorem dX8_merge_25 : decode cX8_merge 25 = .ok (.iadd, 1) := by decide +kernel
theorem dX8_merge_26 : decode cX8_merge 26 = .ok (.putfield 34, 3) := by decide +kernel
theorem dX8_merge_29 : decode cX8_merge 29 = .ok (.aload_n 0, 1) := by decide +kernel
theorem dX8_merge_30 : decode cX8_merge 30 = .ok (.dup, 1) := by decide +kernel
theorem dX8_merge_31 : decode cX8_merge 31 = .ok (.getfield 40, 3) := by decide +kernel
theorem dX8_merge_34 : decode cX8_merge 34 = .ok (.iload_n 3, 1) := by decide +kernel
theorem dX8_merge_35 : decode cX8_merge 35 = .ok (.invokestatic 97, 3) := by decide +kernel
theorem dX8_merge_38 : decode cX8_merge 38 = .ok (.iadd, 1) := by decide +kernel
theorem dX8_merge_39 : decode cX8_merge 39 = .ok (.putfield 40, 3) := by decide +kernel
theorem dX8_merge_42 : decode cX8_merge 42 = .ok (.return_, 1) := by decide +kernel
theorem rX8_merge : (∀ (d : Nat) (a0 a2 a3 : Value) (x : Nat) (st : List Value) (h : fk_H), fk_ev d qX8_merge 0 [a0, .ref x, a2, a3] st h = fk_ev d qX8_merge 1 [a0, .ref x, a2, a3] (.ref x :: st) h) ∧
  (∀ (d : Nat) (a0 a1 a3 : Value) (x : Nat) (st : List Value) (h : fk_H), fk_ev d qX8_merge 1 [a0, a1, .ref x, a3] st h = fk_ev d qX8_merge 2 [a0, a1, .ref x, a3] (.ref x :: st) h) ∧
  (∀ (d : Nat) (a0 a1 a2 : Value) (x : Int32) (st : List Value) (h : fk_H), fk_ev d qX8_merge 2 [a0, a1, a2, .int x] st h = fk_ev d qX8_merge 3 [a0, a1, a2, .int x] (.int x :: st) h) ∧
  (∀ (d : Nat) (L : List Value) (x0 : Nat) (x1 : Int32)  (N : Nat) (y : Nat → Nat → Int32) (l : Nat → Nat → Int64) (c : Nat), fk_at c 0 → fk_ev (d + 1) qX8_merge 3 L (.int x1 :: .ref x0 :: .ref c :: []) (fk_E N y l) = (fk_ev d qX0_takeIn 0 [.ref c, .ref x0, .int x1] [] (fk_E N y l)).bind fun o => fk_ev (d + 1) qX8_merge 6 L (o.1.toList ++ []) o.2) ∧
  (∀ (d : Nat) (a1 a2 a3 : Value) (x : Nat) (st : List Value) (h : fk_H), fk_ev d qX8_merge 6 [.ref x, a1, a2, a3] st h = fk_ev d qX8_merge 7 [.ref x, a1, a2, a3] (.ref x :: st) h) ∧
  (∀ (d : Nat) (L st : List Value) (N : Nat) (y : Nat → Nat → Int32) (l : Nat → Nat → Int64) (c : Nat), fk_at c 8 → fk_ev d qX8_merge 7 L (.ref c :: st) (fk_E N y l) = fk_ev d qX8_merge 10 L (.ref (fk_cr c 1) :: st) (fk_E N y l)) ∧
  (∀ (d : Nat) (a0 a2 a3 : Value) (x : Nat) (st : List Value) (h : fk_H), fk_ev d qX8_merge 10 [a0, .ref x, a2, a3] st h = fk_ev d qX8_merge 11 [a0, .ref x, a2, a3] (.ref x :: st) h) ∧
  (∀ (d : Nat) (L st : List Value) (N : Nat) (y : Nat → Nat → Int32) (l : Nat → Nat → Int64) (c : Nat), fk_at c 0 → fk_ev d qX8_merge 11 L (.ref c :: st) (fk_E N y l) = fk_ev d qX8_merge 14 L (.int (y c 1) :: st) (fk_E N y l)) ∧
  (∀ (d : Nat) (L : List Value) (x : Int32) (c : Nat) (st : List Value) (h : fk_H), fk_ev d qX8_merge 14 L (.int x :: .ref c :: st) h = fk_ev d qX8_merge 15 L (.int x :: .ref c :: .int x :: .ref c :: st) h) ∧
  (∀ (d : Nat) (L st : List Value) (N : Nat) (y : Nat → Nat → Int32) (l : Nat → Nat → Int64) (c i : Nat), fk_at c 20 → i < (fk_shp c).2 → (fk_shp c).2 < 2 ^ 31 → fk_ev d qX8_merge 15 L (.int (nI i) :: .ref c :: st) (fk_E N y l) = fk_ev d qX8_merge 16 L (.int (y c i) :: st) (fk_E N y l)) ∧
  (∀ (d : Nat) (L st : List Value) (h : fk_H), fk_ev d qX8_merge 16 L st h = fk_ev d qX8_merge 17 L (.int (nI 1) :: st) h) ∧
  (∀ (d : Nat) (L : List Value) (x y : Int32) (st : List Value) (h : fk_H), fk_ev d qX8_merge 17 L (.int y :: .int x :: st) h = fk_ev d qX8_merge 18 L (.int (x - y) :: st) h) ∧
  (∀ (d : Nat) (L st : List Value) (N : Nat) (y : Nat → Nat → Int32) (l : Nat → Nat → Int64) (c i : Nat) (v : Int32), fk_at c 20 → i < (fk_shp c).2 → (fk_shp c).2 < 2 ^ 31 → fk_ev d qX8_merge 18 L (.int v :: .int (nI i) :: .ref c :: st) (fk_E N y l) = fk_ev d qX8_merge 19 L st (fk_E N (fk_u y c i v) l)) ∧
  (∀ (d : Nat) (a1 a2 a3 : Value) (x : Nat) (st : List Value) (h : fk_H), fk_ev d qX8_merge 19 [.ref x, a1, a2, a3] st h = fk_ev d qX8_merge 20 [.ref x, a1, a2, a3] (.ref x :: st) h) ∧
  (∀ (d : Nat) (L : List Value) (x : Nat) (st : List Value) (h : fk_H), fk_ev d qX8_merge 20 L (.ref x :: st) h = fk_ev d qX8_merge 21 L (.ref x :: .ref x :: st) h) ∧
  (∀ (d : Nat) (L st : List Value) (N : Nat) (y : Nat → Nat → Int32) (l : Nat → Nat → Int64) (c : Nat), fk_at c 8 → fk_ev d qX8_merge 21 L (.ref c :: st) (fk_E N y l) = fk_ev d qX8_merge 24 L (.int (y c 6) :: st) (fk_E N y l)) ∧
  (∀ (d : Nat) (L st : List Value) (h : fk_H), fk_ev d qX8_merge 24 L st h = fk_ev d qX8_merge 25 L (.int (nI 1) :: st) h) ∧
  (∀ (d : Nat) (L : List Value) (x y : Int32) (st : List Value) (h : fk_H), fk_ev d qX8_merge 25 L (.int y :: .int x :: st) h = fk_ev d qX8_merge 26 L (.int (x + y) :: st) h) ∧
  (∀ (d : Nat) (L st : List Value) (N : Nat) (y : Nat → Nat → Int32) (l : Nat → Nat → Int64) (c : Nat) (v : Int32), fk_at c 8 → fk_ev d qX8_merge 26 L (.int v :: .ref c :: st) (fk_E N y l) = fk_ev d qX8_merge 29 L st (fk_E N (fk_u y c 6 v) l)) ∧
  (∀ (d : Nat) (a1 a2 a3 : Value) (x : Nat) (st : List Value) (h : fk_H), fk_ev d qX8_merge 29 [.ref x, a1, a2, a3] st h = fk_ev d qX8_merge 30 [.ref x, a1, a2, a3] (.ref x :: st) h) ∧
  (∀ (d : Nat) (L : List Value) (x : Nat) (st : List Value) (h : fk_H), fk_ev d qX8_merge 30 L (.ref x :: st) h = fk_ev d qX8_merge 31 L (.ref x :: .ref x :: st) h) ∧
  (∀ (d : Nat) (L st : List Value) (N : Nat) (y : Nat → Nat → Int32) (l : Nat → Nat → Int64) (c : Nat), fk_at c 8 → fk_ev d qX8_merge 31 L (.ref c :: st) (fk_E N y l) = fk_ev d qX8_merge 34 L (.int (y c 8) :: st) (fk_E N y l)) ∧
  (∀ (d : Nat) (a0 a1 a2 : Value) (x : Int32) (st : List Value) (h : fk_H), fk_ev d qX8_merge 34 [a0, a1, a2, .int x] st h = fk_ev d qX8_merge 35 [a0, a1, a2, .int x] (.int x :: st) h) ∧
  (∀ (d : Nat) (L : List Value) (x0 : Int32) (w0 w1 : Value) (h : fk_H), fk_ev (d + 1) qX8_merge 35 L (.int x0 :: [w0, w1]) h = (fk_ev d qJ6_bitCount_0f7a4 0 [.int x0] [] h).bind fun o => fk_ev (d + 1) qX8_merge 38 L (o.1.toList ++ [w0, w1]) o.2) ∧
  (∀ (d : Nat) (L : List Value) (x y : Int32) (st : List Value) (h : fk_H), fk_ev d qX8_merge 38 L (.int y :: .int x :: st) h = fk_ev d qX8_merge 39 L (.int (x + y) :: st) h) ∧
  (∀ (d : Nat) (L st : List Value) (N : Nat) (y : Nat → Nat → Int32) (l : Nat → Nat → Int64) (c : Nat) (v : Int32), fk_at c 8 → fk_ev d qX8_merge 39 L (.int v :: .ref c :: st) (fk_E N y l) = fk_ev d qX8_merge 42 L st (fk_E N (fk_u y c 8 v) l)) ∧
  (∀ (d : Nat) (L : List Value) (h : fk_H), fk_ev d qX8_merge 42 L [] h = some (none, h)) := ⟨fun d a0 a2 a3 x st h => fk_w_aloadn 1 [a0, .ref x, a2, a3] dX8_merge_0 rfl,
  fun d a0 a1 a3 x st h => fk_w_aloadn 2 [a0, a1, .ref x, a3] dX8_merge_1 rfl,
  fun d a0 a1 a2 x st h => fk_w_iloadn 3 [a0, a1, a2, .int x] dX8_merge_2 rfl,
  fun d L x0 x1 N y l c hc => fk_g_call [.ref x0, .int x1] [] rfl lm_8_93 dX8_merge_3 rfl ⟨rfl, by decide⟩ (by simp) hc,
  fun d a1 a2 a3 x st h => fk_w_aloadn 0 [.ref x, a1, a2, a3] dX8_merge_6 rfl,
  fun d L st N y l c hc => fk_g_getC rfl lf_8_17 (by decide) rfl dX8_merge_7 hc,
  fun d a0 a2 a3 x st h => fk_w_aloadn 1 [a0, .ref x, a2, a3] dX8_merge_10 rfl,
  fun d L st N y l c hc => fk_g_getI rfl lf_8_90 (by decide) dX8_merge_11 hc,
  fun d L x c st h => fk_r_dup2 dX8_merge_14,
  fun d L st N y l c i hc hi hl => fk_h_iald dX8_merge_15 hc hi hl,
  fun d L st h => fk_w_iconst dX8_merge_16 (by decide),
  fun d L x y st h => fk_r_isub dX8_merge_17,
  fun d L st N y l c i v hc hi hl => fk_h_iast dX8_merge_18 hc hi hl,
  fun d a1 a2 a3 x st h => fk_w_aloadn 0 [.ref x, a1, a2, a3] dX8_merge_19 rfl,
  fun d L x st h => fk_r_dup_ref dX8_merge_20,
  fun d L st N y l c hc => fk_g_getI rfl lf_8_34 (by decide) dX8_merge_21 hc,
  fun d L st h => fk_w_iconst dX8_merge_24 (by decide),
  fun d L x y st h => fk_r_iadd dX8_merge_25,
  fun d L st N y l c v hc => fk_g_putI rfl lf_8_34 (by decide) dX8_merge_26 rfl hc,
  fun d a1 a2 a3 x st h => fk_w_aloadn 0 [.ref x, a1, a2, a3] dX8_merge_29 rfl,
  fun d L x st h => fk_r_dup_ref dX8_merge_30,
  fun d L st N y l c hc => fk_g_getI rfl lf_8_40 (by decide) dX8_merge_31 hc,
  fun d a0 a1 a2 x st h => fk_w_iloadn 3 [a0, a1, a2, .int x] dX8_merge_34 rfl,
  fun d L x0 w0 w1 h => fk_g_calls [.int x0] [w0, w1] rfl lm_8_97 dX8_merge_35 rfl ⟨rfl, by decide⟩ (by simp),
  fun d L x y st h => fk_r_iadd dX8_merge_38,
  fun d L st N y l c v hc => fk_g_putI rfl lf_8_40 (by decide) dX8_merge_39 rfl hc,
  fun d L h => fk_r_vret dX8_merge_42 rfl⟩
theorem dX8_bury_0 : decode cX8_bury 0 = .ok (.aload_n 1, 1) := by decide +kernel
theorem dX8_bury_1 : decode cX8_bury 1 = .ok (.iconst 0, 1) := by decide +kernel
theorem dX8_bury_2 : decode cX8_bury 2 = .ok (.putfield 60, 3) := by decide +kernel
theorem dX8_bury_5 : decode cX8_bury 5 = .ok (.aload_n 0, 1) := by decide +kernel
theorem dX8_bury_6 : decode cX8_bury 6 = .ok (.getfield 17, 3) := by decide +kernel
theorem dX8_bury_9 : decode cX8_bury 9 = .ok (.aload_n 1, 1) := by decide +kernel
theorem dX8_bury_10 : decode cX8_bury 10 = .ok (.getfield 90, 3) := by decide +kernel
theorem dX8_bury_13 : decode cX8_bury 13 = .ok (.dup2, 1) := by decide +kernel
theorem dX8_bury_14 : decode cX8_bury 14 = .ok (.iaload, 1) := by decide +kernel
theorem dX8_bury_15 : decode cX8_bury 15 = .ok (.iconst 1, 1) := by decide +kernel
theorem dX8_bury_16 : decode cX8_bury 16 = .ok (.isub, 1) := by decide +kernel
theorem dX8_bury_17 : decode cX8_bury 17 = .ok (.iastore, 1) := by decide +kernel
theorem dX8_bury_18 : decode cX8_bury 18 = .ok (.aload_n 0, 1) := by decide +kernel
theorem dX8_bury_19 : decode cX8_bury 19 = .ok (.dup, 1) := by decide +kernel
theorem dX8_bury_20 : decode cX8_bury 20 = .ok (.getfield 37, 3) := by decide +kernel
theorem dX8_bury_23 : decode cX8_bury 23 = .ok (.iconst 1, 1) := by decide +kernel
theorem dX8_bury_24 : decode cX8_bury 24 = .ok (.iadd, 1) := by decide +kernel
theorem dX8_bury_25 : decode cX8_bury 25 = .ok (.putfield 37, 3) := by decide +kernel
theorem dX8_bury_28 : decode cX8_bury 28 = .ok (.iconst 0, 1) := by decide +kernel
theorem dX8_bury_29 : decode cX8_bury 29 = .ok (.istore_n 2, 1) := by decide +kernel
theorem dX8_bury_30 : decode cX8_bury 30 = .ok (.iload_n 2, 1) := by decide +kernel
theorem dX8_bury_31 : decode cX8_bury 31 = .ok (.aload_n 0, 1) := by decide +kernel
theorem dX8_bury_32 : decode cX8_bury 32 = .ok (.getfield 21, 3) := by decide +kernel
theorem dX8_bury_35 : decode cX8_bury 35 = .ok (.if_icmp .ge 49, 3) := by decide +kernel
theorem dX8_bury_38 : decode cX8_bury 38 = .ok (.aload_n 0, 1) := by decide +kernel
theorem dX8_bury_39 : decode cX8_bury 39 = .ok (.getfield 11, 3) := by decide +kernel
theorem dX8_bury_42 : decode cX8_bury 42 = .ok (.iload_n 2, 1) := by decide +kernel
theorem dX8_bury_43 : decode cX8_bury 43 = .ok (.aaload, 1) := by decide +kernel
theorem dX8_bury_44 : decode cX8_bury 44 = .ok (.astore_n 3, 1) := by decide +kernel
theorem dX8_bury_45 : decode cX8_bury 45 = .ok (.aload_n 3, 1) := by decide +kernel
theorem dX8_bury_46 : decode cX8_bury 46 = .ok (.getfield 60, 3) := by decide +kernel
theorem dX8_bury_49 : decode cX8_bury 49 = .ok (.ifCond .eq 29, 3) := by decide +kernel
theorem dX8_bury_52 : decode cX8_bury 52 = .ok (.aload_n 3, 1) := by decide +kernel
theorem dX8_bury_53 : decode cX8_bury 53 = .ok (.getfield 90, 3) := by decide +kernel
theorem dX8_bury_56 : decode cX8_bury 56 = .ok (.aload_n 1, 1) := by decide +kernel
theorem dX8_bury_57 : decode cX8_bury 57 = .ok (.getfield 90, 3) := by decide +kernel
theorem dX8_bury_60 : decode cX8_bury 60 = .ok (.if_icmp .ne 18, 3) := by decide +kernel
theorem dX8_bury_63 : decode cX8_bury 63 = .ok (.aload_n 3, 1) := by decide +kernel
theorem dX8_bury_64 : decode cX8_bury 64 = .ok (.bipush 99, 2) := by decide +kernel
theorem dX8_bury_66 : decode cX8_bury 66 = .ok (.aload_n 3, 1) := by decide +kernel
theorem dX8_bury_67 : decode cX8_bury 67 = .ok (.getfield 103, 3) := by decide +kernel
theorem dX8_bury_70 : decode cX8_bury 70 = .ok (.iconst 3, 1) := by decide +kernel
theorem dX8_bury_71 : decode cX8_bury 71 = .ok (.iadd, 1) := by decide +kernel
theorem dX8_bury_72 : decode cX8_bury 72 = .ok (.invokestatic 106, 3) := by decide +kernel
theorem dX8_bury_75 : decode cX8_bury 75 = .ok (.putfield 103, 3) := by decide +kernel
theorem dX8_bury_78 : decode cX8_bury 78 = .ok (.iinc 2 1, 3) := by decide +kernel
theorem dX8_bury_81 : decode cX8_bury 81 = .ok (.goto (-51), 3) := by decide +kernel
theorem dX8_bury_84 : decode cX8_bury 84 = .ok (.return_, 1) := by decide +kernel
theorem rX8_bury : (∀ (d : Nat) (a0 a2 a3 : Value) (x : Nat) (st : List Value) (h : fk_H), fk_ev d qX8_bury 0 [a0, .ref x, a2, a3] st h = fk_ev d qX8_bury 1 [a0, .ref x, a2, a3] (.ref x :: st) h) ∧
  (∀ (d : Nat) (L st : List Value) (h : fk_H), fk_ev d qX8_bury 1 L st h = fk_ev d qX8_bury 2 L (.int (nI 0) :: st) h) ∧
  (∀ (d : Nat) (L st : List Value) (N : Nat) (y : Nat → Nat → Int32) (l : Nat → Nat → Int64) (c : Nat), fk_at c 0 → fk_ev d qX8_bury 2 L (.int (nI 0) :: .ref c :: st) (fk_E N y l) = fk_ev d qX8_bury 5 L st (fk_E N (fk_u y c 4 (nI 0)) l)) ∧
  (∀ (d : Nat) (L st : List Value) (N : Nat) (y : Nat → Nat → Int32) (l : Nat → Nat → Int64) (c : Nat), fk_at c 0 → fk_ev d qX8_bury 2 L (.int (nI 1) :: .ref c :: st) (fk_E N y l) = fk_ev d qX8_bury 5 L st (fk_E N (fk_u y c 4 (nI 1)) l)) ∧
  (∀ (d : Nat) (L st : List Value) (N : Nat) (y : Nat → Nat → Int32) (l : Nat → Nat → Int64) (c : Nat) (v : Int32), (v = nI 0 ∨ v = nI 1) → fk_at c 0 → fk_ev d qX8_bury 2 L (.int v :: .ref c :: st) (fk_E N y l) = fk_ev d qX8_bury 5 L st (fk_E N (fk_u y c 4 v) l)) ∧
  (∀ (d : Nat) (a1 a2 a3 : Value) (x : Nat) (st : List Value) (h : fk_H), fk_ev d qX8_bury 5 [.ref x, a1, a2, a3] st h = fk_ev d qX8_bury 6 [.ref x, a1, a2, a3] (.ref x :: st) h) ∧
  (∀ (d : Nat) (L st : List Value) (N : Nat) (y : Nat → Nat → Int32) (l : Nat → Nat → Int64) (c : Nat), fk_at c 8 → fk_ev d qX8_bury 6 L (.ref c :: st) (fk_E N y l) = fk_ev d qX8_bury 9 L (.ref (fk_cr c 1) :: st) (fk_E N y l)) ∧
  (∀ (d : Nat) (a0 a2 a3 : Value) (x : Nat) (st : List Value) (h : fk_H), fk_ev d qX8_bury 9 [a0, .ref x, a2, a3] st h = fk_ev d qX8_bury 10 [a0, .ref x, a2, a3] (.ref x :: st) h) ∧
  (∀ (d : Nat) (L st : List Value) (N : Nat) (y : Nat → Nat → Int32) (l : Nat → Nat → Int64) (c : Nat), fk_at c 0 → fk_ev d qX8_bury 10 L (.ref c :: st) (fk_E N y l) = fk_ev d qX8_bury 13 L (.int (y c 1) :: st) (fk_E N y l)) ∧
  (∀ (d : Nat) (L : List Value) (x : Int32) (c : Nat) (st : List Value) (h : fk_H), fk_ev d qX8_bury 13 L (.int x :: .ref c :: st) h = fk_ev d qX8_bury 14 L (.int x :: .ref c :: .int x :: .ref c :: st) h) ∧
  (∀ (d : Nat) (L st : List Value) (N : Nat) (y : Nat → Nat → Int32) (l : Nat → Nat → Int64) (c i : Nat), fk_at c 20 → i < (fk_shp c).2 → (fk_shp c).2 < 2 ^ 31 → fk_ev d qX8_bury 14 L (.int (nI i) :: .ref c :: st) (fk_E N y l) = fk_ev d qX8_bury 15 L (.int (y c i) :: st) (fk_E N y l)) ∧
  (∀ (d : Nat) (L st : List Value) (h : fk_H), fk_ev d qX8_bury 15 L st h = fk_ev d qX8_bury 16 L (.int (nI 1) :: st) h) ∧
  (∀ (d : Nat) (L : List Value) (x y : Int32) (st : List Value) (h : fk_H), fk_ev d qX8_bury 16 L (.int y :: .int x :: st) h = fk_ev d qX8_bury 17 L (.int (x - y) :: st) h) ∧
  (∀ (d : Nat) (L st : List Value) (N : Nat) (y : Nat → Nat → Int32) (l : Nat → Nat → Int64) (c i : Nat) (v : Int32), fk_at c 20 → i < (fk_shp c).2 → (fk_shp c).2 < 2 ^ 31 → fk_ev d qX8_bury 17 L (.int v :: .int (nI i) :: .ref c :: st) (fk_E N y l) = fk_ev d qX8_bury 18 L st (fk_E N (fk_u y c i v) l)) ∧
  (∀ (d : Nat) (a1 a2 a3 : Value) (x : Nat) (st : List Value) (h : fk_H), fk_ev d qX8_bury 18 [.ref x, a1, a2, a3] st h = fk_ev d qX8_bury 19 [.ref x, a1, a2, a3] (.ref x :: st) h) ∧
  (∀ (d : Nat) (L : List Value) (x : Nat) (st : List Value) (h : fk_H), fk_ev d qX8_bury 19 L (.ref x :: st) h = fk_ev d qX8_bury 20 L (.ref x :: .ref x :: st) h) ∧
  (∀ (d : Nat) (L st : List Value) (N : Nat) (y : Nat → Nat → Int32) (l : Nat → Nat → Int64) (c : Nat), fk_at c 8 → fk_ev d qX8_bury 20 L (.ref c :: st) (fk_E N y l) = fk_ev d qX8_bury 23 L (.int (y c 7) :: st) (fk_E N y l)) ∧
  (∀ (d : Nat) (L st : List Value) (h : fk_H), fk_ev d qX8_bury 23 L st h = fk_ev d qX8_bury 24 L (.int (nI 1) :: st) h) ∧
  (∀ (d : Nat) (L : List Value) (x y : Int32) (st : List Value) (h : fk_H), fk_ev d qX8_bury 24 L (.int y :: .int x :: st) h = fk_ev d qX8_bury 25 L (.int (x + y) :: st) h) ∧
  (∀ (d : Nat) (L st : List Value) (N : Nat) (y : Nat → Nat → Int32) (l : Nat → Nat → Int64) (c : Nat) (v : Int32), fk_at c 8 → fk_ev d qX8_bury 25 L (.int v :: .ref c :: st) (fk_E N y l) = fk_ev d qX8_bury 28 L st (fk_E N (fk_u y c 7 v) l)) ∧
  (∀ (d : Nat) (L st : List Value) (h : fk_H), fk_ev d qX8_bury 28 L st h = fk_ev d qX8_bury 29 L (.int (nI 0) :: st) h) ∧
  (∀ (d : Nat) (a0 a1 a2 a3 : Value) (x : Int32) (st : List Value) (h : fk_H), fk_ev d qX8_bury 29 [a0, a1, a2, a3] (.int x :: st) h = fk_ev d qX8_bury 30 [a0, a1, .int x, a3] st h) ∧
  (∀ (d : Nat) (a1 a2 a3 : Value) (x : Nat) (st : List Value) (h : fk_H), fk_ev d qX8_bury 31 [.ref x, a1, a2, a3] st h = fk_ev d qX8_bury 32 [.ref x, a1, a2, a3] (.ref x :: st) h) ∧
  (∀ (d : Nat) (L st : List Value) (N : Nat) (y : Nat → Nat → Int32) (l : Nat → Nat → Int64) (c : Nat), fk_at c 8 → fk_ev d qX8_bury 32 L (.ref c :: st) (fk_E N y l) = fk_ev d qX8_bury 35 L (.int (y c 2) :: st) (fk_E N y l)) ∧
  (∀ (d : Nat) (L : List Value) (x y : Int32) (st : List Value) (h : fk_H), fk_ev d qX8_bury 35 L (.int y :: .int x :: st) h = if y ≤ x then fk_ev d qX8_bury 84 L st h else fk_ev d qX8_bury 38 L st h) ∧
  (∀ (d : Nat) (a1 a2 a3 : Value) (x : Nat) (st : List Value) (h : fk_H), fk_ev d qX8_bury 38 [.ref x, a1, a2, a3] st h = fk_ev d qX8_bury 39 [.ref x, a1, a2, a3] (.ref x :: st) h) ∧
  (∀ (d : Nat) (L st : List Value) (N : Nat) (y : Nat → Nat → Int32) (l : Nat → Nat → Int64) (c : Nat), fk_at c 8 → fk_ev d qX8_bury 39 L (.ref c :: st) (fk_E N y l) = fk_ev d qX8_bury 42 L (.ref (fk_cr c 0) :: st) (fk_E N y l)) ∧
  (∀ (d : Nat) (a0 a1 a3 : Value) (x : Int32) (st : List Value) (h : fk_H), fk_ev d qX8_bury 42 [a0, a1, .int x, a3] st h = fk_ev d qX8_bury 43 [a0, a1, .int x, a3] (.int x :: st) h) ∧
  (∀ (d : Nat) (L st : List Value) (N : Nat) (y : Nat → Nat → Int32) (l : Nat → Nat → Int64) (c i : Nat), fk_at c 24 → i < (fk_shp c).2 → (fk_shp c).2 < 2 ^ 31 → fk_ev d qX8_bury 43 L (.int (nI i) :: .ref c :: st) (fk_E N y l) = fk_ev d qX8_bury 44 L (.ref (c + 2 + i) :: st) (fk_E N y l)) ∧
  (∀ (d : Nat) (a0 a1 a2 a3 : Value) (x : Nat) (st : List Value) (h : fk_H), fk_ev d qX8_bury 44 [a0, a1, a2, a3] (.ref x :: st) h = fk_ev d qX8_bury 45 [a0, a1, a2, .ref x] st h) ∧
  (∀ (d : Nat) (a0 a1 a2 : Value) (x : Nat) (st : List Value) (h : fk_H), fk_ev d qX8_bury 45 [a0, a1, a2, .ref x] st h = fk_ev d qX8_bury 46 [a0, a1, a2, .ref x] (.ref x :: st) h) ∧
  (∀ (d : Nat) (L st : List Value) (N : Nat) (y : Nat → Nat → Int32) (l : Nat → Nat → Int64) (c : Nat), fk_at c 0 → fk_ev d qX8_bury 46 L (.ref c :: st) (fk_E N y l) = fk_ev d qX8_bury 49 L (.int (y c 4) :: st) (fk_E N y l)) ∧
  (∀ (d : Nat) (L : List Value) (x : Int32) (st : List Value) (h : fk_H), fk_ev d qX8_bury 49 L (.int x :: st) h = if x = nI 0 then fk_ev d qX8_bury 78 L st h else fk_ev d qX8_bury 52 L st h) ∧
  (∀ (d : Nat) (a0 a1 a2 : Value) (x : Nat) (st : List Value) (h : fk_H), fk_ev d qX8_bury 52 [a0, a1, a2, .ref x] st h = fk_ev d qX8_bury 53 [a0, a1, a2, .ref x] (.ref x :: st) h) ∧
  (∀ (d : Nat) (L st : List Value) (N : Nat) (y : Nat → Nat → Int32) (l : Nat → Nat → Int64) (c : Nat), fk_at c 0 → fk_ev d qX8_bury 53 L (.ref c :: st) (fk_E N y l) = fk_ev d qX8_bury 56 L (.int (y c 1) :: st) (fk_E N y l)) ∧
  (∀ (d : Nat) (a0 a2 a3 : Value) (x : Nat) (st : List Value) (h : fk_H), fk_ev d qX8_bury 56 [a0, .ref x, a2, a3] st h = fk_ev d qX8_bury 57 [a0, .ref x, a2, a3] (.ref x :: st) h) ∧
  (∀ (d : Nat) (L st : List Value) (N : Nat) (y : Nat → Nat → Int32) (l : Nat → Nat → Int64) (c : Nat), fk_at c 0 → fk_ev d qX8_bury 57 L (.ref c :: st) (fk_E N y l) = fk_ev d qX8_bury 60 L (.int (y c 1) :: st) (fk_E N y l)) ∧
  (∀ (d : Nat) (L : List Value) (x y : Int32) (st : List Value) (h : fk_H), fk_ev d qX8_bury 60 L (.int y :: .int x :: st) h = if ¬ x = y then fk_ev d qX8_bury 78 L st h else fk_ev d qX8_bury 63 L st h) ∧
  (∀ (d : Nat) (a0 a1 a2 : Value) (x : Nat) (st : List Value) (h : fk_H), fk_ev d qX8_bury 63 [a0, a1, a2, .ref x] st h = fk_ev d qX8_bury 64 [a0, a1, a2, .ref x] (.ref x :: st) h) ∧
  (∀ (d : Nat) (L st : List Value) (h : fk_H), fk_ev d qX8_bury 64 L st h = fk_ev d qX8_bury 66 L (.int (nI 99) :: st) h) ∧
  (∀ (d : Nat) (a0 a1 a2 : Value) (x : Nat) (st : List Value) (h : fk_H), fk_ev d qX8_bury 66 [a0, a1, a2, .ref x] st h = fk_ev d qX8_bury 67 [a0, a1, a2, .ref x] (.ref x :: st) h) ∧
  (∀ (d : Nat) (L st : List Value) (N : Nat) (y : Nat → Nat → Int32) (l : Nat → Nat → Int64) (c : Nat), fk_at c 0 → fk_ev d qX8_bury 67 L (.ref c :: st) (fk_E N y l) = fk_ev d qX8_bury 70 L (.int (y c 9) :: st) (fk_E N y l)) ∧
  (∀ (d : Nat) (L st : List Value) (h : fk_H), fk_ev d qX8_bury 70 L st h = fk_ev d qX8_bury 71 L (.int (nI 3) :: st) h) ∧
  (∀ (d : Nat) (L : List Value) (x y : Int32) (st : List Value) (h : fk_H), fk_ev d qX8_bury 71 L (.int y :: .int x :: st) h = fk_ev d qX8_bury 72 L (.int (x + y) :: st) h) ∧
  (∀ (d : Nat) (L : List Value) (x y : Int32) (w0 : Value) (h : fk_H), fk_ev d qX8_bury 72 L (.int y :: .int x :: [w0]) h = fk_ev d qX8_bury 75 L (.int (if y < x then y else x) :: [w0]) h) ∧
  (∀ (d : Nat) (L st : List Value) (N : Nat) (y : Nat → Nat → Int32) (l : Nat → Nat → Int64) (c : Nat) (v : Int32), fk_at c 0 → fk_ev d qX8_bury 75 L (.int v :: .ref c :: st) (fk_E N y l) = fk_ev d qX8_bury 78 L st (fk_E N (fk_u y c 9 v) l)) ∧
  (∀ (d : Nat) (a0 a1 a3 : Value) (x : Int32) (st : List Value) (h : fk_H), fk_ev d qX8_bury 78 [a0, a1, .int x, a3] st h = fk_ev d qX8_bury 81 [a0, a1, .int (x + nI 1), a3] st h) ∧
  (∀ (d : Nat) (L st : List Value) (h : fk_H), fk_ev d qX8_bury 81 L st h = fk_ev d qX8_bury 30 L st h) ∧
  (∀ (d : Nat) (L : List Value) (h : fk_H), fk_ev d qX8_bury 84 L [] h = some (none, h)) := ⟨fun d a0 a2 a3 x st h => fk_w_aloadn 1 [a0, .ref x, a2, a3] dX8_bury_0 rfl,
  fun d L st h => fk_w_iconst dX8_bury_1 (by decide),
  fun d L st N y l c hc => fk_g_putI rfl lf_8_60 (by decide) dX8_bury_2 rfl hc,
  fun d L st N y l c hc => fk_g_putI rfl lf_8_60 (by decide) dX8_bury_2 rfl hc,
  fun d L st N y l c v hv hc => fk_g_putI rfl lf_8_60 (by decide) dX8_bury_2 (by rcases hv with rfl | rfl <;> rfl) hc,
  fun d a1 a2 a3 x st h => fk_w_aloadn 0 [.ref x, a1, a2, a3] dX8_bury_5 rfl,
  fun d L st N y l c hc => fk_g_getC rfl lf_8_17 (by decide) rfl dX8_bury_6 hc,
  fun d a0 a2 a3 x st h => fk_w_aloadn 1 [a0, .ref x, a2, a3] dX8_bury_9 rfl,
  fun d L st N y l c hc => fk_g_getI rfl lf_8_90 (by decide) dX8_bury_10 hc,
  fun d L x c st h => fk_r_dup2 dX8_bury_13,
  fun d L st N y l c i hc hi hl => fk_h_iald dX8_bury_14 hc hi hl,
  fun d L st h => fk_w_iconst dX8_bury_15 (by decide),
  fun d L x y st h => fk_r_isub dX8_bury_16,
  fun d L st N y l c i v hc hi hl => fk_h_iast dX8_bury_17 hc hi hl,
  fun d a1 a2 a3 x st h => fk_w_aloadn 0 [.ref x, a1, a2, a3] dX8_bury_18 rfl,
  fun d L x st h => fk_r_dup_ref dX8_bury_19,
  fun d L st N y l c hc => fk_g_getI rfl lf_8_37 (by decide) dX8_bury_20 hc,
  fun d L st h => fk_w_iconst dX8_bury_23 (by decide),
  fun d L x y st h => fk_r_iadd dX8_bury_24,
  fun d L st N y l c v hc => fk_g_putI rfl lf_8_37 (by decide) dX8_bury_25 rfl hc,
  fun d L st h => fk_w_iconst dX8_bury_28 (by decide),
  fun d a0 a1 a2 a3 x st h => fk_w_istoren 2 4 [] [a0, a1, a2, a3] [a0, a1, .int x, a3] dX8_bury_29 rfl rfl (by decide) rfl,
  fun d a1 a2 a3 x st h => fk_w_aloadn 0 [.ref x, a1, a2, a3] dX8_bury_31 rfl,
  fun d L st N y l c hc => fk_g_getI rfl lf_8_21 (by decide) dX8_bury_32 hc,
  fun d L x y st h => fk_r_icmp_ge dX8_bury_35 (by decide),
  fun d a1 a2 a3 x st h => fk_w_aloadn 0 [.ref x, a1, a2, a3] dX8_bury_38 rfl,
  fun d L st N y l c hc => fk_g_getC rfl lf_8_11 (by decide) rfl dX8_bury_39 hc,
  fun d a0 a1 a3 x st h => fk_w_iloadn 2 [a0, a1, .int x, a3] dX8_bury_42 rfl,
  fun d L st N y l c i hc hi hl => fk_h_aald dX8_bury_43 hc hi hl,
  fun d a0 a1 a2 a3 x st h => fk_w_astoren 3 4 [] [a0, a1, a2, a3] [a0, a1, a2, .ref x] dX8_bury_44 rfl rfl (by decide) rfl,
  fun d a0 a1 a2 x st h => fk_w_aloadn 3 [a0, a1, a2, .ref x] dX8_bury_45 rfl,
  fun d L st N y l c hc => fk_g_getI rfl lf_8_60 (by decide) dX8_bury_46 hc,
  fun d L x st h => fk_r_if_eq dX8_bury_49 (by decide),
  fun d a0 a1 a2 x st h => fk_w_aloadn 3 [a0, a1, a2, .ref x] dX8_bury_52 rfl,
  fun d L st N y l c hc => fk_g_getI rfl lf_8_90 (by decide) dX8_bury_53 hc,
  fun d a0 a2 a3 x st h => fk_w_aloadn 1 [a0, .ref x, a2, a3] dX8_bury_56 rfl,
  fun d L st N y l c hc => fk_g_getI rfl lf_8_90 (by decide) dX8_bury_57 hc,
  fun d L x y st h => fk_r_icmp_ne dX8_bury_60 (by decide),
  fun d a0 a1 a2 x st h => fk_w_aloadn 3 [a0, a1, a2, .ref x] dX8_bury_63 rfl,
  fun d L st h => fk_w_bipush dX8_bury_64 (by decide),
  fun d a0 a1 a2 x st h => fk_w_aloadn 3 [a0, a1, a2, .ref x] dX8_bury_66 rfl,
  fun d L st N y l c hc => fk_g_getI rfl lf_8_103 (by decide) dX8_bury_67 hc,
  fun d L st h => fk_w_iconst dX8_bury_70 (by decide),
  fun d L x y st h => fk_r_iadd dX8_bury_71,
  fun d L x y w0 h => fk_p_min dX8_bury_72 ln_8_106 lp_8_106 (by simp),
  fun d L st N y l c v hc => fk_g_putI rfl lf_8_103 (by decide) dX8_bury_75 rfl hc,
  fun d a0 a1 a3 x st h => fk_w_iinc 2 4 (1) [] [a0, a1, .int x, a3] [a0, a1, .int (x + nI 1), a3] dX8_bury_78 rfl rfl rfl (by decide) rfl,
  fun d L st h => fk_r_goto dX8_bury_81 (by decide),
  fun d L h => fk_r_vret dX8_bury_84 rfl⟩
theorem hX8_bury_30 : ∀ (d : Nat) (a0 a1 a3 : Value) (x : Int32) (st : List Value) (h : fk_H), fk_ev d qX8_bury 30 [a0, a1, .int x, a3] st h = fk_ev d qX8_bury 31 [a0, a1, .int x, a3] (.int x :: st) h := fun d a0 a1 a3 x st h => fk_w_iloadn 2 [a0, a1, .int x, a3] dX8_bury_30 rfl
theorem dX8_draw_0 : decode cX8_draw 0 = .ok (.aload_n 0, 1) := by decide +kernel
theorem dX8_draw_1 : decode cX8_draw 1 = .ok (.sipush 25173, 3) := by decide +kernel
theorem dX8_draw_4 : decode cX8_draw 4 = .ok (.aload_n 0, 1) := by decide +kernel
theorem dX8_draw_5 : decode cX8_draw 5 = .ok (.getfield 28, 3) := by decide +kernel
theorem dX8_draw_8 : decode cX8_draw 8 = .ok (.imul, 1) := by decide +kernel
theorem dX8_draw_9 : decode cX8_draw 9 = .ok (.sipush 13849, 3) := by decide +kernel
theorem dX8_draw_12 : decode cX8_draw 12 = .ok (.iadd, 1) := by decide +kernel
theorem dX8_draw_13 : decode cX8_draw 13 = .ok (.ldc 112, 2) := by decide +kernel
theorem dX8_draw_15 : decode cX8_draw 15 = .ok (.iand, 1) := by decide +kernel
theorem dX8_draw_16 : decode cX8_draw 16 = .ok (.putfield 28, 3) := by decide +kernel
theorem dX8_draw_19 : decode cX8_draw 19 = .ok (.aload_n 0, 1) := by decide +kernel
theorem dX8_draw_20 : decode cX8_draw 20 = .ok (.getfield 28, 3) := by decide +kernel
theorem dX8_draw_23 : decode cX8_draw 23 = .ok (.bipush 10, 2) := by decide +kernel
theorem dX8_draw_25 : decode cX8_draw 25 = .ok (.irem, 1) := by decide +kernel
theorem dX8_draw_26 : decode cX8_draw 26 = .ok (.ireturn, 1) := by decide +kernel
theorem rX8_draw : (∀ (d : Nat) (x : Nat) (st : List Value) (h : fk_H), fk_ev d qX8_draw 0 [.ref x] st h = fk_ev d qX8_draw 1 [.ref x] (.ref x :: st) h) ∧
  (∀ (d : Nat) (L st : List Value) (h : fk_H), fk_ev d qX8_draw 1 L st h = fk_ev d qX8_draw 4 L (.int (nI 25173) :: st) h) ∧
  (∀ (d : Nat) (x : Nat) (st : List Value) (h : fk_H), fk_ev d qX8_draw 4 [.ref x] st h = fk_ev d qX8_draw 5 [.ref x] (.ref x :: st) h) ∧
  (∀ (d : Nat) (L st : List Value) (N : Nat) (y : Nat → Nat → Int32) (l : Nat → Nat → Int64) (c : Nat), fk_at c 8 → fk_ev d qX8_draw 5 L (.ref c :: st) (fk_E N y l) = fk_ev d qX8_draw 8 L (.int (y c 4) :: st) (fk_E N y l)) ∧
  (∀ (d : Nat) (L : List Value) (x y : Int32) (st : List Value) (h : fk_H), fk_ev d qX8_draw 8 L (.int y :: .int x :: st) h = fk_ev d qX8_draw 9 L (.int (x * y) :: st) h) ∧
  (∀ (d : Nat) (L st : List Value) (h : fk_H), fk_ev d qX8_draw 9 L st h = fk_ev d qX8_draw 12 L (.int (nI 13849) :: st) h) ∧
  (∀ (d : Nat) (L : List Value) (x y : Int32) (st : List Value) (h : fk_H), fk_ev d qX8_draw 12 L (.int y :: .int x :: st) h = fk_ev d qX8_draw 13 L (.int (x + y) :: st) h) ∧
  (∀ (d : Nat) (L st : List Value) (h : fk_H), fk_ev d qX8_draw 13 L st h = fk_ev d qX8_draw 15 L (.int (nI 65535) :: st) h) ∧
  (∀ (d : Nat) (L : List Value) (x y : Int32) (st : List Value) (h : fk_H), fk_ev d qX8_draw 15 L (.int y :: .int x :: st) h = fk_ev d qX8_draw 16 L (.int (x &&& y) :: st) h) ∧
  (∀ (d : Nat) (L st : List Value) (N : Nat) (y : Nat → Nat → Int32) (l : Nat → Nat → Int64) (c : Nat) (v : Int32), fk_at c 8 → fk_ev d qX8_draw 16 L (.int v :: .ref c :: st) (fk_E N y l) = fk_ev d qX8_draw 19 L st (fk_E N (fk_u y c 4 v) l)) ∧
  (∀ (d : Nat) (x : Nat) (st : List Value) (h : fk_H), fk_ev d qX8_draw 19 [.ref x] st h = fk_ev d qX8_draw 20 [.ref x] (.ref x :: st) h) ∧
  (∀ (d : Nat) (L st : List Value) (N : Nat) (y : Nat → Nat → Int32) (l : Nat → Nat → Int64) (c : Nat), fk_at c 8 → fk_ev d qX8_draw 20 L (.ref c :: st) (fk_E N y l) = fk_ev d qX8_draw 23 L (.int (y c 4) :: st) (fk_E N y l)) ∧
  (∀ (d : Nat) (L st : List Value) (h : fk_H), fk_ev d qX8_draw 23 L st h = fk_ev d qX8_draw 25 L (.int (nI 10) :: st) h) ∧
  (∀ (d : Nat) (L : List Value) (x y : Int32) (st : List Value) (h : fk_H), fk_ev d qX8_draw 25 L (.int y :: .int x :: st) h = if y = 0 then none else fk_ev d qX8_draw 26 L (.int (x - x / y * y) :: st) h) ∧
  (∀ (d : Nat) (L : List Value) (x : Int32) (h : fk_H), fk_ev d qX8_draw 26 L [.int x] h = some (some (.int x), h)) := ⟨fun d  x st h => fk_w_aloadn 0 [.ref x] dX8_draw_0 rfl,
  fun d L st h => fk_w_sipush dX8_draw_1 (by decide),
  fun d  x st h => fk_w_aloadn 0 [.ref x] dX8_draw_4 rfl,
  fun d L st N y l c hc => fk_g_getI rfl lf_8_28 (by decide) dX8_draw_5 hc,
  fun d L x y st h => fk_r_imul dX8_draw_8,
  fun d L st h => fk_w_sipush dX8_draw_9 (by decide),
  fun d L x y st h => fk_r_iadd dX8_draw_12,
  fun d L st h => fk_g_ldc rfl lc_8_112 (by decide) dX8_draw_13,
  fun d L x y st h => fk_r_iand dX8_draw_15,
  fun d L st N y l c v hc => fk_g_putI rfl lf_8_28 (by decide) dX8_draw_16 rfl hc,
  fun d  x st h => fk_w_aloadn 0 [.ref x] dX8_draw_19 rfl,
  fun d L st N y l c hc => fk_g_getI rfl lf_8_28 (by decide) dX8_draw_20 hc,
  fun d L st h => fk_w_bipush dX8_draw_23 (by decide),
  fun d L x y st h => fk_r_irem dX8_draw_25,
  fun d L x h => fk_r_ret dX8_draw_26 (Or.inl rfl)⟩
theorem dX8_onlyOneOf_0 : decode cX8_onlyOneOf 0 = .ok (.iload_n 1, 1) := by decide +kernel
theorem dX8_onlyOneOf_1 : decode cX8_onlyOneOf 1 = .ok (.iconst 4, 1) := by decide +kernel
theorem dX8_onlyOneOf_2 : decode cX8_onlyOneOf 2 = .ok (.invokestatic 56, 3) := by decide +kernel
theorem dX8_onlyOneOf_5 : decode cX8_onlyOneOf 5 = .ok (.ifCond .eq 13, 3) := by decide +kernel
theorem dX8_onlyOneOf_8 : decode cX8_onlyOneOf 8 = .ok (.aload_n 0, 1) := by decide +kernel
theorem dX8_onlyOneOf_9 : decode cX8_onlyOneOf 9 = .ok (.getfield 17, 3) := by decide +kernel
theorem dX8_onlyOneOf_12 : decode cX8_onlyOneOf 12 = .ok (.iload_n 1, 1) := by decide +kernel
theorem dX8_onlyOneOf_13 : decode cX8_onlyOneOf 13 = .ok (.iaload, 1) := by decide +kernel
theorem dX8_onlyOneOf_14 : decode cX8_onlyOneOf 14 = .ok (.iconst 1, 1) := by decide +kernel
theorem dX8_onlyOneOf_15 : decode cX8_onlyOneOf 15 = .ok (.if_icmp .eq 5, 3) := by decide +kernel
theorem dX8_onlyOneOf_18 : decode cX8_onlyOneOf 18 = .ok (.iconst (-1), 1) := by decide +kernel
theorem dX8_onlyOneOf_19 : decode cX8_onlyOneOf 19 = .ok (.ireturn, 1) := by decide +kernel
theorem dX8_onlyOneOf_20 : decode cX8_onlyOneOf 20 = .ok (.iconst 0, 1) := by decide +kernel
theorem dX8_onlyOneOf_21 : decode cX8_onlyOneOf 21 = .ok (.istore_n 2, 1) := by decide +kernel
theorem dX8_onlyOneOf_22 : decode cX8_onlyOneOf 22 = .ok (.iload_n 2, 1) := by decide +kernel
theorem dX8_onlyOneOf_23 : decode cX8_onlyOneOf 23 = .ok (.aload_n 0, 1) := by decide +kernel
theorem dX8_onlyOneOf_24 : decode cX8_onlyOneOf 24 = .ok (.getfield 21, 3) := by decide +kernel
theorem dX8_onlyOneOf_27 : decode cX8_onlyOneOf 27 = .ok (.if_icmp .ge 36, 3) := by decide +kernel
theorem dX8_onlyOneOf_30 : decode cX8_onlyOneOf 30 = .ok (.aload_n 0, 1) := by decide +kernel
theorem dX8_onlyOneOf_31 : decode cX8_onlyOneOf 31 = .ok (.getfield 11, 3) := by decide +kernel
theorem dX8_onlyOneOf_34 : decode cX8_onlyOneOf 34 = .ok (.iload_n 2, 1) := by decide +kernel
theorem dX8_onlyOneOf_35 : decode cX8_onlyOneOf 35 = .ok (.aaload, 1) := by decide +kernel
theorem dX8_onlyOneOf_36 : decode cX8_onlyOneOf 36 = .ok (.getfield 60, 3) := by decide +kernel
theorem dX8_onlyOneOf_39 : decode cX8_onlyOneOf 39 = .ok (.ifCond .eq 18, 3) := by decide +kernel
theorem dX8_onlyOneOf_42 : decode cX8_onlyOneOf 42 = .ok (.aload_n 0, 1) := by decide +kernel
theorem dX8_onlyOneOf_43 : decode cX8_onlyOneOf 43 = .ok (.getfield 11, 3) := by decide +kernel
theorem dX8_onlyOneOf_46 : decode cX8_onlyOneOf 46 = .ok (.iload_n 2, 1) := by decide +kernel
theorem dX8_onlyOneOf_47 : decode cX8_onlyOneOf 47 = .ok (.aaload, 1) := by decide +kernel
theorem dX8_onlyOneOf_48 : decode cX8_onlyOneOf 48 = .ok (.getfield 90, 3) := by decide +kernel
theorem dX8_onlyOneOf_51 : decode cX8_onlyOneOf 51 = .ok (.iload_n 1, 1) := by decide +kernel
theorem dX8_onlyOneOf_52 : decode cX8_onlyOneOf 52 = .ok (.if_icmp .ne 5, 3) := by decide +kernel
theorem dX8_onlyOneOf_55 : decode cX8_onlyOneOf 55 = .ok (.iload_n 2, 1) := by decide +kernel
theorem dX8_onlyOneOf_56 : decode cX8_onlyOneOf 56 = .ok (.ireturn, 1) := by decide +kernel
theorem dX8_onlyOneOf_57 : decode cX8_onlyOneOf 57 = .ok (.iinc 2 1, 3) := by decide +kernel
theorem dX8_onlyOneOf_60 : decode cX8_onlyOneOf 60 = .ok (.goto (-38), 3) := by decide +kernel
theorem dX8_onlyOneOf_63 : decode cX8_onlyOneOf 63 = .ok (.iconst (-1), 1) := by decide +kernel
theorem dX8_onlyOneOf_64 : decode cX8_onlyOneOf 64 = .ok (.ireturn, 1) := by decide +kernel
theorem rX8_onlyOneOf : (∀ (d : Nat) (a0 a2 : Value) (x : Int32) (st : List Value) (h : fk_H), fk_ev d qX8_onlyOneOf 0 [a0, .int x, a2] st h = fk_ev d qX8_onlyOneOf 1 [a0, .int x, a2] (.int x :: st) h) ∧
  (∀ (d : Nat) (L st : List Value) (h : fk_H), fk_ev d qX8_onlyOneOf 1 L st h = fk_ev d qX8_onlyOneOf 2 L (.int (nI 4) :: st) h) ∧
  (∀ (d : Nat) (L : List Value) (x0 : Int32) (x1 : Int32)  (h : fk_H), fk_ev (d + 1) qX8_onlyOneOf 2 L (.int x1 :: .int x0 :: []) h = (fk_ev d qX11_within 0 [.int x0, .int x1] [] h).bind fun o => fk_ev (d + 1) qX8_onlyOneOf 5 L (o.1.toList ++ []) o.2) ∧
  (∀ (d : Nat) (L : List Value) (x : Int32) (st : List Value) (h : fk_H), fk_ev d qX8_onlyOneOf 5 L (.int x :: st) h = if x = nI 0 then fk_ev d qX8_onlyOneOf 18 L st h else fk_ev d qX8_onlyOneOf 8 L st h) ∧
  (∀ (d : Nat) (a1 a2 : Value) (x : Nat) (st : List Value) (h : fk_H), fk_ev d qX8_onlyOneOf 8 [.ref x, a1, a2] st h = fk_ev d qX8_onlyOneOf 9 [.ref x, a1, a2] (.ref x :: st) h) ∧
  (∀ (d : Nat) (L st : List Value) (N : Nat) (y : Nat → Nat → Int32) (l : Nat → Nat → Int64) (c : Nat), fk_at c 8 → fk_ev d qX8_onlyOneOf 9 L (.ref c :: st) (fk_E N y l) = fk_ev d qX8_onlyOneOf 12 L (.ref (fk_cr c 1) :: st) (fk_E N y l)) ∧
  (∀ (d : Nat) (a0 a2 : Value) (x : Int32) (st : List Value) (h : fk_H), fk_ev d qX8_onlyOneOf 12 [a0, .int x, a2] st h = fk_ev d qX8_onlyOneOf 13 [a0, .int x, a2] (.int x :: st) h) ∧
  (∀ (d : Nat) (L st : List Value) (N : Nat) (y : Nat → Nat → Int32) (l : Nat → Nat → Int64) (c i : Nat), fk_at c 20 → i < (fk_shp c).2 → (fk_shp c).2 < 2 ^ 31 → fk_ev d qX8_onlyOneOf 13 L (.int (nI i) :: .ref c :: st) (fk_E N y l) = fk_ev d qX8_onlyOneOf 14 L (.int (y c i) :: st) (fk_E N y l)) ∧
  (∀ (d : Nat) (L st : List Value) (h : fk_H), fk_ev d qX8_onlyOneOf 14 L st h = fk_ev d qX8_onlyOneOf 15 L (.int (nI 1) :: st) h) ∧
  (∀ (d : Nat) (L : List Value) (x y : Int32) (st : List Value) (h : fk_H), fk_ev d qX8_onlyOneOf 15 L (.int y :: .int x :: st) h = if x = y then fk_ev d qX8_onlyOneOf 20 L st h else fk_ev d qX8_onlyOneOf 18 L st h) ∧
  (∀ (d : Nat) (L st : List Value) (h : fk_H), fk_ev d qX8_onlyOneOf 18 L st h = fk_ev d qX8_onlyOneOf 19 L (.int ((-1 : Int32)) :: st) h) ∧
  (∀ (d : Nat) (L : List Value) (x : Int32) (h : fk_H), fk_ev d qX8_onlyOneOf 19 L [.int x] h = some (some (.int x), h)) ∧
  (∀ (d : Nat) (L st : List Value) (h : fk_H), fk_ev d qX8_onlyOneOf 20 L st h = fk_ev d qX8_onlyOneOf 21 L (.int (nI 0) :: st) h) ∧
  (∀ (d : Nat) (a0 a1 a2 : Value) (x : Int32) (st : List Value) (h : fk_H), fk_ev d qX8_onlyOneOf 21 [a0, a1, a2] (.int x :: st) h = fk_ev d qX8_onlyOneOf 22 [a0, a1, .int x] st h) ∧
  (∀ (d : Nat) (a1 a2 : Value) (x : Nat) (st : List Value) (h : fk_H), fk_ev d qX8_onlyOneOf 23 [.ref x, a1, a2] st h = fk_ev d qX8_onlyOneOf 24 [.ref x, a1, a2] (.ref x :: st) h) ∧
  (∀ (d : Nat) (L st : List Value) (N : Nat) (y : Nat → Nat → Int32) (l : Nat → Nat → Int64) (c : Nat), fk_at c 8 → fk_ev d qX8_onlyOneOf 24 L (.ref c :: st) (fk_E N y l) = fk_ev d qX8_onlyOneOf 27 L (.int (y c 2) :: st) (fk_E N y l)) ∧
  (∀ (d : Nat) (L : List Value) (x y : Int32) (st : List Value) (h : fk_H), fk_ev d qX8_onlyOneOf 27 L (.int y :: .int x :: st) h = if y ≤ x then fk_ev d qX8_onlyOneOf 63 L st h else fk_ev d qX8_onlyOneOf 30 L st h) ∧
  (∀ (d : Nat) (a1 a2 : Value) (x : Nat) (st : List Value) (h : fk_H), fk_ev d qX8_onlyOneOf 30 [.ref x, a1, a2] st h = fk_ev d qX8_onlyOneOf 31 [.ref x, a1, a2] (.ref x :: st) h) ∧
  (∀ (d : Nat) (L st : List Value) (N : Nat) (y : Nat → Nat → Int32) (l : Nat → Nat → Int64) (c : Nat), fk_at c 8 → fk_ev d qX8_onlyOneOf 31 L (.ref c :: st) (fk_E N y l) = fk_ev d qX8_onlyOneOf 34 L (.ref (fk_cr c 0) :: st) (fk_E N y l)) ∧
  (∀ (d : Nat) (a0 a1 : Value) (x : Int32) (st : List Value) (h : fk_H), fk_ev d qX8_onlyOneOf 34 [a0, a1, .int x] st h = fk_ev d qX8_onlyOneOf 35 [a0, a1, .int x] (.int x :: st) h) ∧
  (∀ (d : Nat) (L st : List Value) (N : Nat) (y : Nat → Nat → Int32) (l : Nat → Nat → Int64) (c i : Nat), fk_at c 24 → i < (fk_shp c).2 → (fk_shp c).2 < 2 ^ 31 → fk_ev d qX8_onlyOneOf 35 L (.int (nI i) :: .ref c :: st) (fk_E N y l) = fk_ev d qX8_onlyOneOf 36 L (.ref (c + 2 + i) :: st) (fk_E N y l)) ∧
  (∀ (d : Nat) (L st : List Value) (N : Nat) (y : Nat → Nat → Int32) (l : Nat → Nat → Int64) (c : Nat), fk_at c 0 → fk_ev d qX8_onlyOneOf 36 L (.ref c :: st) (fk_E N y l) = fk_ev d qX8_onlyOneOf 39 L (.int (y c 4) :: st) (fk_E N y l)) ∧
  (∀ (d : Nat) (L : List Value) (x : Int32) (st : List Value) (h : fk_H), fk_ev d qX8_onlyOneOf 39 L (.int x :: st) h = if x = nI 0 then fk_ev d qX8_onlyOneOf 57 L st h else fk_ev d qX8_onlyOneOf 42 L st h) ∧
  (∀ (d : Nat) (a1 a2 : Value) (x : Nat) (st : List Value) (h : fk_H), fk_ev d qX8_onlyOneOf 42 [.ref x, a1, a2] st h = fk_ev d qX8_onlyOneOf 43 [.ref x, a1, a2] (.ref x :: st) h) ∧
  (∀ (d : Nat) (L st : List Value) (N : Nat) (y : Nat → Nat → Int32) (l : Nat → Nat → Int64) (c : Nat), fk_at c 8 → fk_ev d qX8_onlyOneOf 43 L (.ref c :: st) (fk_E N y l) = fk_ev d qX8_onlyOneOf 46 L (.ref (fk_cr c 0) :: st) (fk_E N y l)) ∧
  (∀ (d : Nat) (a0 a1 : Value) (x : Int32) (st : List Value) (h : fk_H), fk_ev d qX8_onlyOneOf 46 [a0, a1, .int x] st h = fk_ev d qX8_onlyOneOf 47 [a0, a1, .int x] (.int x :: st) h) ∧
  (∀ (d : Nat) (L st : List Value) (N : Nat) (y : Nat → Nat → Int32) (l : Nat → Nat → Int64) (c i : Nat), fk_at c 24 → i < (fk_shp c).2 → (fk_shp c).2 < 2 ^ 31 → fk_ev d qX8_onlyOneOf 47 L (.int (nI i) :: .ref c :: st) (fk_E N y l) = fk_ev d qX8_onlyOneOf 48 L (.ref (c + 2 + i) :: st) (fk_E N y l)) ∧
  (∀ (d : Nat) (L st : List Value) (N : Nat) (y : Nat → Nat → Int32) (l : Nat → Nat → Int64) (c : Nat), fk_at c 0 → fk_ev d qX8_onlyOneOf 48 L (.ref c :: st) (fk_E N y l) = fk_ev d qX8_onlyOneOf 51 L (.int (y c 1) :: st) (fk_E N y l)) ∧
  (∀ (d : Nat) (a0 a2 : Value) (x : Int32) (st : List Value) (h : fk_H), fk_ev d qX8_onlyOneOf 51 [a0, .int x, a2] st h = fk_ev d qX8_onlyOneOf 52 [a0, .int x, a2] (.int x :: st) h) ∧
  (∀ (d : Nat) (L : List Value) (x y : Int32) (st : List Value) (h : fk_H), fk_ev d qX8_onlyOneOf 52 L (.int y :: .int x :: st) h = if ¬ x = y then fk_ev d qX8_onlyOneOf 57 L st h else fk_ev d qX8_onlyOneOf 55 L st h) ∧
  (∀ (d : Nat) (a0 a1 : Value) (x : Int32) (st : List Value) (h : fk_H), fk_ev d qX8_onlyOneOf 55 [a0, a1, .int x] st h = fk_ev d qX8_onlyOneOf 56 [a0, a1, .int x] (.int x :: st) h) ∧
  (∀ (d : Nat) (L : List Value) (x : Int32) (h : fk_H), fk_ev d qX8_onlyOneOf 56 L [.int x] h = some (some (.int x), h)) ∧
  (∀ (d : Nat) (a0 a1 : Value) (x : Int32) (st : List Value) (h : fk_H), fk_ev d qX8_onlyOneOf 57 [a0, a1, .int x] st h = fk_ev d qX8_onlyOneOf 60 [a0, a1, .int (x + nI 1)] st h) ∧
  (∀ (d : Nat) (L st : List Value) (h : fk_H), fk_ev d qX8_onlyOneOf 60 L st h = fk_ev d qX8_onlyOneOf 22 L st h) ∧
  (∀ (d : Nat) (L st : List Value) (h : fk_H), fk_ev d qX8_onlyOneOf 63 L st h = fk_ev d qX8_onlyOneOf 64 L (.int ((-1 : Int32)) :: st) h) ∧
  (∀ (d : Nat) (L : List Value) (x : Int32) (h : fk_H), fk_ev d qX8_onlyOneOf 64 L [.int x] h = some (some (.int x), h)) := ⟨fun d a0 a2 x st h => fk_w_iloadn 1 [a0, .int x, a2] dX8_onlyOneOf_0 rfl,
  fun d L st h => fk_w_iconst dX8_onlyOneOf_1 (by decide),
  fun d L x0 x1 h => fk_g_calls [.int x0, .int x1] [] rfl lm_8_56 dX8_onlyOneOf_2 rfl ⟨rfl, by decide⟩ (by simp),
  fun d L x st h => fk_r_if_eq dX8_onlyOneOf_5 (by decide),
  fun d a1 a2 x st h => fk_w_aloadn 0 [.ref x, a1, a2] dX8_onlyOneOf_8 rfl,
  fun d L st N y l c hc => fk_g_getC rfl lf_8_17 (by decide) rfl dX8_onlyOneOf_9 hc,
  fun d a0 a2 x st h => fk_w_iloadn 1 [a0, .int x, a2] dX8_onlyOneOf_12 rfl,
  fun d L st N y l c i hc hi hl => fk_h_iald dX8_onlyOneOf_13 hc hi hl,
  fun d L st h => fk_w_iconst dX8_onlyOneOf_14 (by decide),
  fun d L x y st h => fk_r_icmp_eq dX8_onlyOneOf_15 (by decide),
  fun d L st h => fk_w_iconst dX8_onlyOneOf_18 (by decide),
  fun d L x h => fk_r_ret dX8_onlyOneOf_19 (Or.inl rfl),
  fun d L st h => fk_w_iconst dX8_onlyOneOf_20 (by decide),
  fun d a0 a1 a2 x st h => fk_w_istoren 2 3 [] [a0, a1, a2] [a0, a1, .int x] dX8_onlyOneOf_21 rfl rfl (by decide) rfl,
  fun d a1 a2 x st h => fk_w_aloadn 0 [.ref x, a1, a2] dX8_onlyOneOf_23 rfl,
  fun d L st N y l c hc => fk_g_getI rfl lf_8_21 (by decide) dX8_onlyOneOf_24 hc,
  fun d L x y st h => fk_r_icmp_ge dX8_onlyOneOf_27 (by decide),
  fun d a1 a2 x st h => fk_w_aloadn 0 [.ref x, a1, a2] dX8_onlyOneOf_30 rfl,
  fun d L st N y l c hc => fk_g_getC rfl lf_8_11 (by decide) rfl dX8_onlyOneOf_31 hc,
  fun d a0 a1 x st h => fk_w_iloadn 2 [a0, a1, .int x] dX8_onlyOneOf_34 rfl,
  fun d L st N y l c i hc hi hl => fk_h_aald dX8_onlyOneOf_35 hc hi hl,
  fun d L st N y l c hc => fk_g_getI rfl lf_8_60 (by decide) dX8_onlyOneOf_36 hc,
  fun d L x st h => fk_r_if_eq dX8_onlyOneOf_39 (by decide),
  fun d a1 a2 x st h => fk_w_aloadn 0 [.ref x, a1, a2] dX8_onlyOneOf_42 rfl,
  fun d L st N y l c hc => fk_g_getC rfl lf_8_11 (by decide) rfl dX8_onlyOneOf_43 hc,
  fun d a0 a1 x st h => fk_w_iloadn 2 [a0, a1, .int x] dX8_onlyOneOf_46 rfl,
  fun d L st N y l c i hc hi hl => fk_h_aald dX8_onlyOneOf_47 hc hi hl,
  fun d L st N y l c hc => fk_g_getI rfl lf_8_90 (by decide) dX8_onlyOneOf_48 hc,
  fun d a0 a2 x st h => fk_w_iloadn 1 [a0, .int x, a2] dX8_onlyOneOf_51 rfl,
  fun d L x y st h => fk_r_icmp_ne dX8_onlyOneOf_52 (by decide),
  fun d a0 a1 x st h => fk_w_iloadn 2 [a0, a1, .int x] dX8_onlyOneOf_55 rfl,
  fun d L x h => fk_r_ret dX8_onlyOneOf_56 (Or.inl rfl),
  fun d a0 a1 x st h => fk_w_iinc 2 3 (1) [] [a0, a1, .int x] [a0, a1, .int (x + nI 1)] dX8_onlyOneOf_57 rfl rfl rfl (by decide) rfl,
  fun d L st h => fk_r_goto dX8_onlyOneOf_60 (by decide),
  fun d L st h => fk_w_iconst dX8_onlyOneOf_63 (by decide),
  fun d L x h => fk_r_ret dX8_onlyOneOf_64 (Or.inl rfl)⟩
theorem hX8_onlyOneOf_22 : ∀ (d : Nat) (a0 a1 : Value) (x : Int32) (st : List Value) (h : fk_H), fk_ev d qX8_onlyOneOf 22 [a0, a1, .int x] st h = fk_ev d qX8_onlyOneOf 23 [a0, a1, .int x] (.int x :: st) h := fun d a0 a1 x st h => fk_w_iloadn 2 [a0, a1, .int x] dX8_onlyOneOf_22 rfl
